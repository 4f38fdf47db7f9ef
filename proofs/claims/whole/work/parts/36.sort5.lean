theorem D_X6_mergeEqualParts_0 : decode cX6_mergeEqualParts 0 = .ok (.iconst 0, 1) ∧ decode cX6_mergeEqualParts 1 = .ok (.istore_n 1, 1) ∧ decode cX6_mergeEqualParts 2 = .ok (.iload_n 1, 1) ∧ decode cX6_mergeEqualParts 3 = .ok (.bipush 8, 2) ∧ decode cX6_mergeEqualParts 5 = .ok (.if_icmp .ge 38, 3) ∧ decode cX6_mergeEqualParts 8 = .ok (.aload_n 0, 1) ∧ decode cX6_mergeEqualParts 9 = .ok (.iload_n 1, 1) ∧ decode cX6_mergeEqualParts 10 = .ok (.invokevirtual 39, 3) ∧ decode cX6_mergeEqualParts 13 = .ok (.iconst 1, 1) ∧ decode cX6_mergeEqualParts 14 = .ok (.iload_n 1, 1) ∧ decode cX6_mergeEqualParts 15 = .ok (.ishl, 1) ∧ decode cX6_mergeEqualParts 16 = .ok (.if_icmp .le 27, 3) := by decide +kernel
theorem D_X6_mergeEqualParts_1 : decode cX6_mergeEqualParts 19 = .ok (.aload_n 0, 1) ∧ decode cX6_mergeEqualParts 20 = .ok (.iload_n 1, 1) ∧ decode cX6_mergeEqualParts 21 = .ok (.iload_n 1, 1) ∧ decode cX6_mergeEqualParts 22 = .ok (.iconst 1, 1) ∧ decode cX6_mergeEqualParts 23 = .ok (.iadd, 1) ∧ decode cX6_mergeEqualParts 24 = .ok (.invokevirtual 56, 3) ∧ decode cX6_mergeEqualParts 27 = .ok (.aload_n 0, 1) ∧ decode cX6_mergeEqualParts 28 = .ok (.dup, 1) ∧ decode cX6_mergeEqualParts 29 = .ok (.getfield 20, 3) ∧ decode cX6_mergeEqualParts 32 = .ok (.iconst 1, 1) ∧ decode cX6_mergeEqualParts 33 = .ok (.iadd, 1) ∧ decode cX6_mergeEqualParts 34 = .ok (.putfield 20, 3) := by decide +kernel
theorem D_X6_mergeEqualParts_2 : decode cX6_mergeEqualParts 37 = .ok (.iinc 1 1, 3) ∧ decode cX6_mergeEqualParts 40 = .ok (.goto (-38), 3) ∧ decode cX6_mergeEqualParts 43 = .ok (.return_, 1) := by decide +kernel
abbrev rm_X6_mergeEqualParts : Room := { frames := 1, cells := 0, slots := 0, locals := 23 }
theorem hd_X6_renumber : yX6_renumber.cls ≠ "java/lang/invoke/MethodHandle" ∧ yX6_renumber.cls ≠ "java/lang/invoke/VarHandle" ∧ (parseMethodDescriptor yX6_renumber.desc).map (fun d => d.parameters.length) = some 2 := by decide +kernel
set_option maxHeartbeats 4000000 in
set_option maxRecDepth 100000 in
theorem c_X6_mergeEqualParts (l : Launch) (G : xG) {K N : Nat → Nat} {I : Nat → Nat → Int32} {Q : Nat → Nat → Option Nat} {J : Nat → Nat → Int64} (t : Nat) (lst : List Nat) (pr : Nat → Nat) (h : K t = 6) (hC0 : CH K Q lst (Q t 0)) (hn : lst.Nodup) (hl : lst.length < 1000) (hp0 : ∀ a ∈ lst, I a 2 = nI (pr a)) (hb0 : ∀ a ∈ lst, pr a < 1000) : XM l yX6_mergeEqualParts cX6_mergeEqualParts 2 none rm_X6_mergeEqualParts G Rv [.ref t] (K, N, I, Q, J) (fun _ S1 => ∃ I1, S1 = (K, N, I1, Q, J) ∧ (∀ a ∈ lst, I1 a 2 = nI ((mrg lst 8 0 pr).1 a)) ∧ (∀ a j, ¬ (a ∈ lst ∧ j = 2) → ¬ (a = t ∧ j = 3) → I1 a j = I a j) ∧ I1 t 3 = I t 3 + nI (mrg lst 8 0 pr).2) := by
  refine x_metv (lv := [_, _]) (by decide +kernel) (x_cc (by first | rfl | exact x_crf _) x_cn) (Nat.le_of_ble_eq_true rfl) rfl ?_
  intro pP eE sS mM aA bB hH cC Z C hini ret
  have htl : t ∉ lst := fun hm => by have := hC0.kind t hm; omega
  refine x_iconst C (v := nI 0) D_X6_mergeEqualParts_0.1 (by decide +kernel) ?_
  refine x_istore_n C (lv' := [_, _]) D_X6_mergeEqualParts_0.2.1 rfl (Nat.le_of_ble_eq_true rfl) (by first | rfl | exact x_ok_q rfl) rfl ?_
  have L_2 : ∀ (w_2 : Nat) (f j k1 : Nat) (pr1 : Nat → Nat) (I1 : Nat → Nat → Int32), f < w_2 → (f + j = 8) → (∀ a ∈ lst, I1 a 2 = nI (pr1 a)) → (∀ a ∈ lst, pr1 a < 1000) → (∀ a j, ¬ (a ∈ lst ∧ j = 2) → ¬ (a = t ∧ j = 3) → I1 a j = I a j) → (I1 t 3 = I t 3 + nI k1) → ((mrg lst f j pr1).1 = (mrg lst 8 0 pr).1) → (k1 + (mrg lst f j pr1).2 = (mrg lst 8 0 pr).2) → XW pP l eE rm_X6_mergeEqualParts sS mM aA bB hH cC G Z 0 0 (K, N, I1, Q, J) 2 [some (.ref t), some (.int (nI j))] [] := by
    intro w_2
    induction w_2 with
    | zero =>
      intro f j k1 pr1 I1 hw_2
      exact absurd hw_2 (Nat.not_lt_zero _)
    | succ w_2 ih_2 =>
      intro f j k1 pr1 I1 hw_2 hfj hI1 hb1 hfr hmc hM1 hM2
      refine x_iload_n C D_X6_mergeEqualParts_0.2.2.1 rfl rfl ?_
      refine x_bipush C (v := nI 8) D_X6_mergeEqualParts_0.2.2.2.1 (by decide +kernel) ?_
      refine x_icmp_ge C 43 D_X6_mergeEqualParts_0.2.2.2.2.1 (by decide) (fun c_5 => ?_) (fun c_5 => ?_)
      · skip
        have hf0 : f = 0 := by
          have h9 := (nI_leI (by omega) (by omega)).mp c_5
          omega
        subst hf0
        refine ret _ _ _ _ _ rfl D_X6_mergeEqualParts_2.2.2 (Nat.le_of_ble_eq_true rfl) (Nat.le_of_ble_eq_true rfl) ?_
        exact ⟨I1, rfl, fun a ha => by rw [← hM1]; exact hI1 a ha, hfr, by rw [hmc, ← hM2]; rfl⟩
      · skip
        obtain ⟨f0, rfl⟩ : ∃ f0, f = f0 + 1 := by
          rcases Nat.eq_zero_or_pos f with h9 | h9
          · exact absurd ((nI_leI (by omega) (by omega)).mpr (by omega)) c_5
          · exact ⟨f - 1, by omega⟩
        have hcc : ccnt (fun a => decide (I1 a 2 = nI j)) lst = ccnt (fun a => decide (pr1 a = j)) lst := ccnt_congr (fun a ha => by
          rw [hI1 a ha]
          have h9 := hb1 a ha
          simp only [nI_eq (a := pr1 a) (b := j) (by omega) (by omega)])
        have hcl : ccnt (fun a => decide (pr1 a = j)) lst ≤ lst.length := ccnt_le _ _
        have hpw := pw_lt (j := j) (by omega)
        refine x_aload_n C D_X6_mergeEqualParts_0.2.2.2.2.2.1 rfl rfl (by first | exact Or.inr ⟨_, rfl⟩ | exact va_rf_or _ | exact Or.inl rfl) ?_
        refine x_iload_n C D_X6_mergeEqualParts_0.2.2.2.2.2.2.1 rfl rfl ?_
        refine x_callVi C (y := yX6_sizeOf) (c_X6_sizeOf l G t (nI j) lst h hC0) (ci := 5) h (by decide) rfl rfl k_704 k_706 k_33 k_65 k_707 hd_X6_sizeOf ⟨(Nat.le_of_ble_eq_true rfl), (Nat.le_of_ble_eq_true rfl)⟩ rfl (by first | exact Nat.le_of_ble_eq_true rfl | simp [x_crf, Value.category]) rfl rfl D_X6_mergeEqualParts_0.2.2.2.2.2.2.2.1 ⟨(Nat.le_of_ble_eq_true rfl), (Nat.le_of_ble_eq_true rfl)⟩ (fun r_10 S_10 h_10 => ?_)
        obtain ⟨rfl, rfl⟩ := h_10
        refine x_eqi _ (by rw [hcc]) ?_
        refine x_iconst C (v := nI 1) D_X6_mergeEqualParts_0.2.2.2.2.2.2.2.2.1 (by decide +kernel) ?_
        refine x_iload_n C D_X6_mergeEqualParts_0.2.2.2.2.2.2.2.2.2.1 rfl rfl ?_
        refine x_ishl C D_X6_mergeEqualParts_0.2.2.2.2.2.2.2.2.2.2.1 ?_
        refine x_eqi _ (shl_pw (by omega)) ?_
        refine x_icmp_le C 43 D_X6_mergeEqualParts_0.2.2.2.2.2.2.2.2.2.2.2 (by decide) (fun c_16 => ?_) (fun c_16 => ?_)
        · skip
          have c1 : ¬ 2 ^ j < ccnt (fun a => decide (pr1 a = j)) lst := by
            have h9 := (nI_leI (by omega) (by omega)).mp c_16
            omega
          refine ret _ _ _ _ _ rfl D_X6_mergeEqualParts_2.2.2 (Nat.le_of_ble_eq_true rfl) (Nat.le_of_ble_eq_true rfl) ?_
          exact ⟨I1, rfl, fun a ha => by rw [← hM1]; simp only [mrg, if_neg c1]; exact hI1 a ha, hfr, by rw [hmc, ← hM2]; simp only [mrg, if_neg c1]; rfl⟩
        · skip
          have c1 : 2 ^ j < ccnt (fun a => decide (pr1 a = j)) lst := by
            rcases Nat.lt_or_ge (2 ^ j) (ccnt (fun a => decide (pr1 a = j)) lst) with h9 | h9
            · exact h9
            · exact absurd ((nI_leI (by omega) (by omega)).mpr h9) c_16
          refine x_aload_n C D_X6_mergeEqualParts_1.1 rfl rfl (by first | exact Or.inr ⟨_, rfl⟩ | exact va_rf_or _ | exact Or.inl rfl) ?_
          refine x_iload_n C D_X6_mergeEqualParts_1.2.1 rfl rfl ?_
          refine x_iload_n C D_X6_mergeEqualParts_1.2.2.1 rfl rfl ?_
          refine x_iconst C (v := nI 1) D_X6_mergeEqualParts_1.2.2.2.1 (by decide +kernel) ?_
          refine x_iadd C D_X6_mergeEqualParts_1.2.2.2.2.1 ?_
          refine x_eqi _ (nI_add _ _) ?_
          refine x_callVv C (y := yX6_renumber) (c_X6_renumber l G t (nI j) (nI (j + 1)) lst h hC0 hn) (ci := 5) h (by decide) rfl rfl k_708 k_710 k_34 k_65 k_711 hd_X6_renumber ⟨(Nat.le_of_ble_eq_true rfl), (Nat.le_of_ble_eq_true rfl)⟩ rfl (by first | exact Nat.le_of_ble_eq_true rfl | simp [x_crf, Value.category]) rfl rfl D_X6_mergeEqualParts_1.2.2.2.2.2.1 ⟨(Nat.le_of_ble_eq_true rfl), (Nat.le_of_ble_eq_true rfl)⟩ (fun _ S_24 h_24 => ?_)
          obtain ⟨I2, rfl, hI2⟩ := h_24
          refine x_aload_n C D_X6_mergeEqualParts_1.2.2.2.2.2.2.1 rfl rfl (by first | exact Or.inr ⟨_, rfl⟩ | exact va_rf_or _ | exact Or.inl rfl) ?_
          refine x_dup C D_X6_mergeEqualParts_1.2.2.2.2.2.2.2.1 (by first | rfl | exact x_crf _) ?_
          refine x_getI C (ci := 5) (k0 := 3) h (by decide) rfl (by decide) in_X6 k_156 rfl rfl D_X6_mergeEqualParts_1.2.2.2.2.2.2.2.2.1 ?_
          refine x_iconst C (v := nI 1) D_X6_mergeEqualParts_1.2.2.2.2.2.2.2.2.2.1 (by decide +kernel) ?_
          refine x_iadd C D_X6_mergeEqualParts_1.2.2.2.2.2.2.2.2.2.2.1 ?_
          refine x_putI C (ci := 5) (k0 := 3) h (by decide) rfl (by decide) in_X6 k_156 rfl tyX6 tyX6_ok nmX6 rfl (by rfl) rfl rfl rfl D_X6_mergeEqualParts_1.2.2.2.2.2.2.2.2.2.2.2 (fun I3 eI3 => ?_)
          refine x_iinc C (lv' := [_, _]) D_X6_mergeEqualParts_2.1 rfl (x_inc_1 _) (by first | rfl | exact x_ok_q rfl) rfl ?_
          refine x_lv (lv := [_, some (.int (nI (j + 1)))]) (by rw [nI_add]) ?_
          refine x_goto C 2 D_X6_mergeEqualParts_2.2.1 (by decide) ?_
          refine ih_2 f0 (j + 1) (k1 + 1) (fun a => if pr1 a = j then j + 1 else pr1 a) I3 (by omega) (by omega) (fun a ha => ?_) (fun a ha => ?_) (fun a i h1 h2 => ?_) ?_ ?_ ?_
          · have h9 := hb1 a ha
            rw [eI3, x_u2_a _ _ (show a ≠ t from fun e => htl (e ▸ ha)), hI2, hI1 a ha]
            by_cases e : pr1 a = j
            · rw [if_pos ⟨ha, rfl, by rw [e]⟩, if_pos e]
            · rw [if_neg (fun e2 => e ((nI_eq (by omega) (by omega)).mp e2.2.2)), if_neg e]
          · have h9 := hb1 a ha
            show (if pr1 a = j then j + 1 else pr1 a) < 1000
            split <;> omega
          · rw [eI3]
            by_cases e : a = t
            · subst e
              rw [x_u2_j _ _ (fun e2 => h2 ⟨rfl, e2⟩), hI2, if_neg (fun e2 => h1 ⟨e2.1, e2.2.1⟩)]; exact hfr a i h1 h2
            · rw [x_u2_a _ _ e, hI2, if_neg (fun e2 => h1 ⟨e2.1, e2.2.1⟩)]; exact hfr a i h1 h2
          · rw [eI3, x_u2_s, hI2, if_neg (fun e2 => by omega), hmc, Int32.add_assoc, nI_add]
          · rw [← hM1]; simp only [mrg, if_pos c1]
          · rw [← hM2]; simp only [mrg, if_pos c1]; omega
  exact L_2 _ 8 0 0 pr I (Nat.lt_succ_self _) rfl hp0 hb0 (fun a j _ _ => rfl) (by simp [nI_0]) rfl (Nat.zero_add _)
