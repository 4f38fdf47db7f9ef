theorem D_X6_insert_0 : decode cX6_insert 0 = .ok (.aconst_null, 1) ∧ decode cX6_insert 1 = .ok (.astore_n 2, 1) ∧ decode cX6_insert 2 = .ok (.aload_n 0, 1) ∧ decode cX6_insert 3 = .ok (.getfield 7, 3) ∧ decode cX6_insert 6 = .ok (.astore_n 3, 1) ∧ decode cX6_insert 7 = .ok (.aload_n 3, 1) ∧ decode cX6_insert 8 = .ok (.ifnull 24, 3) ∧ decode cX6_insert 11 = .ok (.aload_n 3, 1) ∧ decode cX6_insert 12 = .ok (.getfield 23, 3) ∧ decode cX6_insert 15 = .ok (.aload_n 1, 1) ∧ decode cX6_insert 16 = .ok (.getfield 23, 3) ∧ decode cX6_insert 19 = .ok (.if_icmp .ge 13, 3) := by decide +kernel
theorem D_X6_insert_1 : decode cX6_insert 22 = .ok (.aload_n 3, 1) ∧ decode cX6_insert 23 = .ok (.astore_n 2, 1) ∧ decode cX6_insert 24 = .ok (.aload_n 3, 1) ∧ decode cX6_insert 25 = .ok (.getfield 28, 3) ∧ decode cX6_insert 28 = .ok (.astore_n 3, 1) ∧ decode cX6_insert 29 = .ok (.goto (-22), 3) ∧ decode cX6_insert 32 = .ok (.aload_n 1, 1) ∧ decode cX6_insert 33 = .ok (.aload_n 3, 1) ∧ decode cX6_insert 34 = .ok (.putfield 28, 3) ∧ decode cX6_insert 37 = .ok (.aload_n 2, 1) ∧ decode cX6_insert 38 = .ok (.ifnonnull 11, 3) ∧ decode cX6_insert 41 = .ok (.aload_n 0, 1) := by decide +kernel
theorem D_X6_insert_2 : decode cX6_insert 42 = .ok (.aload_n 1, 1) ∧ decode cX6_insert 43 = .ok (.putfield 7, 3) ∧ decode cX6_insert 46 = .ok (.goto 8, 3) ∧ decode cX6_insert 49 = .ok (.aload_n 2, 1) ∧ decode cX6_insert 50 = .ok (.aload_n 1, 1) ∧ decode cX6_insert 51 = .ok (.putfield 28, 3) ∧ decode cX6_insert 54 = .ok (.return_, 1) := by decide +kernel
abbrev rm_X6_insert : Room := { frames := 0, cells := 0, slots := 0, locals := 0 }
set_option maxHeartbeats 4000000 in
set_option maxRecDepth 100000 in
theorem c_X6_insert (l : Launch) (G : xG) {K N : Nat → Nat} {I : Nat → Nat → Int32} {Q : Nat → Nat → Option Nat} {J : Nat → Nat → Int64} (t v : Nat) (lst : List Nat) (h : K t = 6) (hv : K v = 1) (hC0 : CH K Q lst (Q t 0)) (hn : lst.Nodup) (hv1 : v ∉ lst) : XM l yX6_insert cX6_insert 4 none rm_X6_insert G Rv [.ref t, .ref v] (K, N, I, Q, J) (fun _ S1 => ∃ Q1, S1 = (K, N, I, Q1, J) ∧ CH K Q1 (insC (fun a => decide (I a 0 < I v 0)) v lst) (Q1 t 0) ∧ (∀ a, a ∉ lst → a ≠ v → a ≠ t → Q1 a = Q a)) := by
  refine x_metv (lv := [_, _, _, _]) (by decide +kernel) (x_cc (by first | rfl | exact x_crf _) (x_cc (by first | rfl | exact x_crf _) x_cn)) (Nat.le_of_ble_eq_true rfl) rfl ?_
  intro pP eE sS mM aA bB hH cC Z C hini ret
  have hvB : ∀ a ∈ lst, a ≠ v := fun a ha e => hv1 (e ▸ ha)
  have hvt : v ≠ t := fun e => by rw [e] at hv; omega
  have htl : ∀ a ∈ lst, a ≠ t := fun a ha e => by have := hC0.kind a ha; rw [e] at this; omega
  refine x_null C D_X6_insert_0.1 ?_
  refine x_astore_n C (lv' := [_, _, _, _]) D_X6_insert_0.2.1 rfl (Nat.le_of_ble_eq_true rfl) (by first | rfl | exact x_ok_q rfl) (by first | exact Or.inr ⟨_, rfl⟩ | exact va_rf_or _ | exact Or.inl rfl) rfl ?_
  refine x_aload_n C D_X6_insert_0.2.2.1 rfl rfl (by first | exact Or.inr ⟨_, rfl⟩ | exact va_rf_or _ | exact Or.inl rfl) ?_
  refine x_getQ C (ci := 5) (k0 := 0) h (by decide) rfl (by decide) in_X6 k_153 rfl rfl D_X6_insert_0.2.2.2.1 ?_
  refine x_eqq _ (rfl : Q t 0 = Q t 0) ?_
  refine x_astore_n C (lv' := [_, _, _, _]) D_X6_insert_0.2.2.2.2.1 rfl (Nat.le_of_ble_eq_true rfl) (by first | rfl | exact x_ok_q rfl) (by first | exact Or.inr ⟨_, rfl⟩ | exact va_rf_or _ | exact Or.inl rfl) rfl ?_
  have L_7 : ∀ (w_7 : Nat) (B DD : List Nat) (o : Option Nat), B.length < w_7 → (CH K Q B o) → (lst = DD ++ B) → (insC (fun a => decide (I a 0 < I v 0)) v lst = DD ++ insC (fun a => decide (I a 0 < I v 0)) v B) → XW pP l eE rm_X6_insert sS mM aA bB hH cC G Z 0 0 (K, N, I, Q, J) 7 [some (.ref t), some (.ref v), some (va_rf DD.getLast?), some (va_rf o)] [] := by
    intro w_7
    induction w_7 with
    | zero =>
      intro B DD o hw_7
      exact absurd hw_7 (Nat.not_lt_zero _)
    | succ w_7 ih_7 =>
      intro B DD o hw_7 hC hL hI
      refine x_aload_n C D_X6_insert_0.2.2.2.2.2.1 rfl rfl (by first | exact Or.inr ⟨_, rfl⟩ | exact va_rf_or _ | exact Or.inl rfl) ?_
      refine x_ifnull C 32 D_X6_insert_0.2.2.2.2.2.2.1 (by decide) (fun e_8 => ?_) (fun a9 e_8 => ?_)
      · skip
        subst e_8
        obtain rfl := hC.none
        have hIv : insC (fun a => decide (I a 0 < I v 0)) v lst = DD ++ v :: ([] : List Nat) := hI
        refine x_aload_n C D_X6_insert_1.2.2.2.2.2.2.1 rfl rfl (by first | exact Or.inr ⟨_, rfl⟩ | exact va_rf_or _ | exact Or.inl rfl) ?_
        refine x_aload_n C D_X6_insert_1.2.2.2.2.2.2.2.1 rfl rfl (by first | exact Or.inr ⟨_, rfl⟩ | exact va_rf_or _ | exact Or.inl rfl) ?_
        refine x_putQ C (ci := 0) (k0 := 3) hv (by decide) rfl (by decide) in_X0 k_686 rfl tyX0 tyX0_ok nmX0 rfl (by first | exact rfl | exact (rfl : _ = va_rf (some _)) | exact (rfl : _ = va_rf none)) (by rfl) (by first | rfl | exact x_narq _ _) (by first | rfl | exact x_fitq _ _) rfl D_X6_insert_1.2.2.2.2.2.2.2.2.1 (fun Q2 eQ2 => ?_)
        refine x_aload_n C D_X6_insert_1.2.2.2.2.2.2.2.2.2.1 rfl rfl (by first | exact Or.inr ⟨_, rfl⟩ | exact va_rf_or _ | exact Or.inl rfl) ?_
        refine x_ifnonnull C 49 D_X6_insert_1.2.2.2.2.2.2.2.2.2.2.1 (by decide) (fun p0 e_38 => ?_) (fun e_38 => ?_)
        · skip
          obtain ⟨D0, rfl⟩ : ∃ D0, DD = D0 ++ [p0] := by
            rcases ls_split DD with h9 | ⟨D0, f, h9⟩
            · rw [h9] at e_38; cases e_38
            · rw [h9, List.getLast?_concat] at e_38
              exact ⟨D0, by rw [h9, Option.some.inj e_38]⟩
          have hp0 : p0 ∈ lst := by rw [hL]; simp
          have hk0 := hC0.kind p0 hp0
          refine x_lv (lv := [_, _, some (.ref p0), _]) (by rw [List.getLast?_concat]; rfl) ?_
          refine x_aload_n C D_X6_insert_2.2.2.2.1 rfl rfl (by first | exact Or.inr ⟨_, rfl⟩ | exact va_rf_or _ | exact Or.inl rfl) ?_
          refine x_aload_n C D_X6_insert_2.2.2.2.2.1 rfl rfl (by first | exact Or.inr ⟨_, rfl⟩ | exact va_rf_or _ | exact Or.inl rfl) ?_
          refine x_putQ C (ci := 0) (k0 := 3) hk0 (by decide) rfl (by decide) in_X0 k_686 rfl tyX0 tyX0_ok nmX0 rfl (by first | exact rfl | exact (rfl : _ = va_rf (some _)) | exact (rfl : _ = va_rf none)) (by rfl) (by first | rfl | exact x_narq _ _) (by first | rfl | exact x_fitq _ _) rfl D_X6_insert_2.2.2.2.2.2.1 (fun Q3 eQ3 => ?_)
          refine ret _ _ _ _ _ rfl D_X6_insert_2.2.2.2.2.2.2 (Nat.le_of_ble_eq_true rfl) (Nat.le_of_ble_eq_true rfl) ?_
          refine ⟨Q3, rfl, ?_, fun a h1 h2 h3 => ?_⟩
          · rw [hIv]
            have hnn := hn
            rw [hL, List.nodup_append] at hnn
            have hpv := hvB p0 hp0
            have hpt := htl p0 hp0
            have hB9 : CH K Q3 ([] : List Nat) (Q3 v 3) := by
              rw [eQ3, x_u2_a _ _ hpv.symm, eQ2, x_u2_s]
              refine hC.congr (fun a ha => ⟨rfl, ?_⟩)
              have hap : a ≠ p0 := fun e => hnn.2.2 p0 (by simp) a ha e.symm
              rw [x_u2_a _ _ hap, x_u2_a _ _ (hvB a (by rw [hL]; simp [ha]))]
            have hroot : Q3 t 0 = Q t 0 := by rw [eQ3, x_u2_a _ _ hpt.symm, eQ2, x_u2_a _ _ hvt.symm]
            rw [hroot]
            refine CH.link (by rw [eQ3, x_u2_s]) hv hB9 (by rw [← hL]; exact hC0) (fun a ha => ?_)
            have hap : a ≠ p0 := fun e => by
              have h8 := hnn.1
              rw [List.nodup_append] at h8
              exact h8.2.2 a ha p0 (by simp) e
            rw [eQ3, x_u2_a _ _ hap, eQ2, x_u2_a _ _ (hvB a (by rw [hL]; simp [ha]))]
          · rw [eQ3, x_u2_a _ _ (show a ≠ p0 from fun e => h1 (e ▸ hp0)), eQ2, x_u2_a _ _ h2]
        · skip
          obtain rfl : DD = [] := by
            rcases ls_split DD with h9 | ⟨D0, f, h9⟩
            · exact h9
            · rw [h9, List.getLast?_concat] at e_38; cases e_38
          refine x_aload_n C D_X6_insert_1.2.2.2.2.2.2.2.2.2.2.2 rfl rfl (by first | exact Or.inr ⟨_, rfl⟩ | exact va_rf_or _ | exact Or.inl rfl) ?_
          refine x_aload_n C D_X6_insert_2.1 rfl rfl (by first | exact Or.inr ⟨_, rfl⟩ | exact va_rf_or _ | exact Or.inl rfl) ?_
          refine x_putQ C (ci := 5) (k0 := 0) h (by decide) rfl (by decide) in_X6 k_153 rfl tyX6 tyX6_ok nmX6 rfl (by first | exact rfl | exact (rfl : _ = va_rf (some _)) | exact (rfl : _ = va_rf none)) (by rfl) (by first | rfl | exact x_narq _ _) (by first | rfl | exact x_fitq _ _) rfl D_X6_insert_2.2.1 (fun Q3 eQ3 => ?_)
          refine x_goto C 54 D_X6_insert_2.2.2.1 (by decide) ?_
          refine ret _ _ _ _ _ rfl D_X6_insert_2.2.2.2.2.2.2 (Nat.le_of_ble_eq_true rfl) (Nat.le_of_ble_eq_true rfl) ?_
          refine ⟨Q3, rfl, ?_, fun a h1 h2 h3 => ?_⟩
          · rw [hIv]
            refine ⟨by rw [eQ3, x_u2_s], hv, ?_⟩
            rw [eQ3, x_u2_a _ _ hvt, eQ2, x_u2_s]
            refine hC.congr (fun a ha => ⟨rfl, ?_⟩)
            rw [x_u2_a _ _ (htl a (by rw [hL]; simp [ha])), x_u2_a _ _ (hvB a (by rw [hL]; simp [ha]))]
          · rw [eQ3, x_u2_a _ _ h3, eQ2, x_u2_a _ _ h2]
      · skip
        subst e_8
        obtain ⟨l9, rfl, hk9, hCl⟩ := hC.some
        refine x_aload_n C D_X6_insert_0.2.2.2.2.2.2.2.1 rfl rfl (by first | exact Or.inr ⟨_, rfl⟩ | exact va_rf_or _ | exact Or.inl rfl) ?_
        refine x_getI C (ci := 0) (k0 := 0) hk9 (by decide) rfl (by decide) in_X0 k_679 rfl rfl D_X6_insert_0.2.2.2.2.2.2.2.2.1 ?_
        refine x_aload_n C D_X6_insert_0.2.2.2.2.2.2.2.2.2.1 rfl rfl (by first | exact Or.inr ⟨_, rfl⟩ | exact va_rf_or _ | exact Or.inl rfl) ?_
        refine x_getI C (ci := 0) (k0 := 0) hv (by decide) rfl (by decide) in_X0 k_679 rfl rfl D_X6_insert_0.2.2.2.2.2.2.2.2.2.2.1 ?_
        refine x_icmp_ge C 32 D_X6_insert_0.2.2.2.2.2.2.2.2.2.2.2 (by decide) (fun c_19 => ?_) (fun c_19 => ?_)
        · skip
          have c1 : ¬ I a9 0 < I v 0 := by
            have h9 := i32_le.mp c_19
            rw [i32_lt]; omega
          have hIv : insC (fun a => decide (I a 0 < I v 0)) v lst = DD ++ v :: (a9 :: l9) := by rw [hI]; simp [insC, c1]
          refine x_aload_n C D_X6_insert_1.2.2.2.2.2.2.1 rfl rfl (by first | exact Or.inr ⟨_, rfl⟩ | exact va_rf_or _ | exact Or.inl rfl) ?_
          refine x_aload_n C D_X6_insert_1.2.2.2.2.2.2.2.1 rfl rfl (by first | exact Or.inr ⟨_, rfl⟩ | exact va_rf_or _ | exact Or.inl rfl) ?_
          refine x_putQ C (ci := 0) (k0 := 3) hv (by decide) rfl (by decide) in_X0 k_686 rfl tyX0 tyX0_ok nmX0 rfl (by first | exact rfl | exact (rfl : _ = va_rf (some _)) | exact (rfl : _ = va_rf none)) (by rfl) (by first | rfl | exact x_narq _ _) (by first | rfl | exact x_fitq _ _) rfl D_X6_insert_1.2.2.2.2.2.2.2.2.1 (fun Q2 eQ2 => ?_)
          refine x_aload_n C D_X6_insert_1.2.2.2.2.2.2.2.2.2.1 rfl rfl (by first | exact Or.inr ⟨_, rfl⟩ | exact va_rf_or _ | exact Or.inl rfl) ?_
          refine x_ifnonnull C 49 D_X6_insert_1.2.2.2.2.2.2.2.2.2.2.1 (by decide) (fun p0 e_38 => ?_) (fun e_38 => ?_)
          · skip
            obtain ⟨D0, rfl⟩ : ∃ D0, DD = D0 ++ [p0] := by
              rcases ls_split DD with h9 | ⟨D0, f, h9⟩
              · rw [h9] at e_38; cases e_38
              · rw [h9, List.getLast?_concat] at e_38
                exact ⟨D0, by rw [h9, Option.some.inj e_38]⟩
            have hp0 : p0 ∈ lst := by rw [hL]; simp
            have hk0 := hC0.kind p0 hp0
            refine x_lv (lv := [_, _, some (.ref p0), _]) (by rw [List.getLast?_concat]; rfl) ?_
            refine x_aload_n C D_X6_insert_2.2.2.2.1 rfl rfl (by first | exact Or.inr ⟨_, rfl⟩ | exact va_rf_or _ | exact Or.inl rfl) ?_
            refine x_aload_n C D_X6_insert_2.2.2.2.2.1 rfl rfl (by first | exact Or.inr ⟨_, rfl⟩ | exact va_rf_or _ | exact Or.inl rfl) ?_
            refine x_putQ C (ci := 0) (k0 := 3) hk0 (by decide) rfl (by decide) in_X0 k_686 rfl tyX0 tyX0_ok nmX0 rfl (by first | exact rfl | exact (rfl : _ = va_rf (some _)) | exact (rfl : _ = va_rf none)) (by rfl) (by first | rfl | exact x_narq _ _) (by first | rfl | exact x_fitq _ _) rfl D_X6_insert_2.2.2.2.2.2.1 (fun Q3 eQ3 => ?_)
            refine ret _ _ _ _ _ rfl D_X6_insert_2.2.2.2.2.2.2 (Nat.le_of_ble_eq_true rfl) (Nat.le_of_ble_eq_true rfl) ?_
            refine ⟨Q3, rfl, ?_, fun a h1 h2 h3 => ?_⟩
            · rw [hIv]
              have hnn := hn
              rw [hL, List.nodup_append] at hnn
              have hpv := hvB p0 hp0
              have hpt := htl p0 hp0
              have hB9 : CH K Q3 (a9 :: l9) (Q3 v 3) := by
                rw [eQ3, x_u2_a _ _ hpv.symm, eQ2, x_u2_s]
                refine hC.congr (fun a ha => ⟨rfl, ?_⟩)
                have hap : a ≠ p0 := fun e => hnn.2.2 p0 (by simp) a ha e.symm
                rw [x_u2_a _ _ hap, x_u2_a _ _ (hvB a (by rw [hL]; simp [ha]))]
              have hroot : Q3 t 0 = Q t 0 := by rw [eQ3, x_u2_a _ _ hpt.symm, eQ2, x_u2_a _ _ hvt.symm]
              rw [hroot]
              refine CH.link (by rw [eQ3, x_u2_s]) hv hB9 (by rw [← hL]; exact hC0) (fun a ha => ?_)
              have hap : a ≠ p0 := fun e => by
                have h8 := hnn.1
                rw [List.nodup_append] at h8
                exact h8.2.2 a ha p0 (by simp) e
              rw [eQ3, x_u2_a _ _ hap, eQ2, x_u2_a _ _ (hvB a (by rw [hL]; simp [ha]))]
            · rw [eQ3, x_u2_a _ _ (show a ≠ p0 from fun e => h1 (e ▸ hp0)), eQ2, x_u2_a _ _ h2]
          · skip
            obtain rfl : DD = [] := by
              rcases ls_split DD with h9 | ⟨D0, f, h9⟩
              · exact h9
              · rw [h9, List.getLast?_concat] at e_38; cases e_38
            refine x_aload_n C D_X6_insert_1.2.2.2.2.2.2.2.2.2.2.2 rfl rfl (by first | exact Or.inr ⟨_, rfl⟩ | exact va_rf_or _ | exact Or.inl rfl) ?_
            refine x_aload_n C D_X6_insert_2.1 rfl rfl (by first | exact Or.inr ⟨_, rfl⟩ | exact va_rf_or _ | exact Or.inl rfl) ?_
            refine x_putQ C (ci := 5) (k0 := 0) h (by decide) rfl (by decide) in_X6 k_153 rfl tyX6 tyX6_ok nmX6 rfl (by first | exact rfl | exact (rfl : _ = va_rf (some _)) | exact (rfl : _ = va_rf none)) (by rfl) (by first | rfl | exact x_narq _ _) (by first | rfl | exact x_fitq _ _) rfl D_X6_insert_2.2.1 (fun Q3 eQ3 => ?_)
            refine x_goto C 54 D_X6_insert_2.2.2.1 (by decide) ?_
            refine ret _ _ _ _ _ rfl D_X6_insert_2.2.2.2.2.2.2 (Nat.le_of_ble_eq_true rfl) (Nat.le_of_ble_eq_true rfl) ?_
            refine ⟨Q3, rfl, ?_, fun a h1 h2 h3 => ?_⟩
            · rw [hIv]
              refine ⟨by rw [eQ3, x_u2_s], hv, ?_⟩
              rw [eQ3, x_u2_a _ _ hvt, eQ2, x_u2_s]
              refine hC.congr (fun a ha => ⟨rfl, ?_⟩)
              rw [x_u2_a _ _ (htl a (by rw [hL]; simp [ha])), x_u2_a _ _ (hvB a (by rw [hL]; simp [ha]))]
            · rw [eQ3, x_u2_a _ _ h3, eQ2, x_u2_a _ _ h2]
        · skip
          have c1 : I a9 0 < I v 0 := by
            rw [i32_le] at c_19
            rw [i32_lt]; omega
          refine x_aload_n C D_X6_insert_1.1 rfl rfl (by first | exact Or.inr ⟨_, rfl⟩ | exact va_rf_or _ | exact Or.inl rfl) ?_
          refine x_astore_n C (lv' := [_, _, _, _]) D_X6_insert_1.2.1 rfl (Nat.le_of_ble_eq_true rfl) (by first | rfl | exact x_ok_q rfl) (by first | exact Or.inr ⟨_, rfl⟩ | exact va_rf_or _ | exact Or.inl rfl) rfl ?_
          refine x_aload_n C D_X6_insert_1.2.2.1 rfl rfl (by first | exact Or.inr ⟨_, rfl⟩ | exact va_rf_or _ | exact Or.inl rfl) ?_
          refine x_getQ C (ci := 0) (k0 := 3) hk9 (by decide) rfl (by decide) in_X0 k_686 rfl rfl D_X6_insert_1.2.2.2.1 ?_
          refine x_eqq _ (rfl : Q a9 3 = Q a9 3) ?_
          refine x_astore_n C (lv' := [_, _, _, _]) D_X6_insert_1.2.2.2.2.1 rfl (Nat.le_of_ble_eq_true rfl) (by first | rfl | exact x_ok_q rfl) (by first | exact Or.inr ⟨_, rfl⟩ | exact va_rf_or _ | exact Or.inl rfl) rfl ?_
          refine x_goto C 7 D_X6_insert_1.2.2.2.2.2.1 (by decide) ?_
          refine x_lv (lv := [_, _, some (va_rf (DD ++ [a9]).getLast?), _]) (by rw [List.getLast?_concat]) ?_
          exact ih_7 l9 (DD ++ [a9]) _ (by simp only [List.length_cons] at hw_7; omega) hCl (by rw [hL]; simp) (by rw [hI]; simp [insC, c1])
  exact L_7 _ lst [] _ (Nat.lt_succ_self _) hC0 rfl rfl
