abbrev rm_X6_dropDead : Room := { frames := 2, cells := 0, slots := 0, locals := 45 }
theorem hd_X6_dealOut : yX6_dealOut.cls ≠ "java/lang/invoke/MethodHandle" ∧ yX6_dealOut.cls ≠ "java/lang/invoke/VarHandle" ∧ (parseMethodDescriptor yX6_dealOut.desc).map (fun d => d.parameters.length) = some 0 := by decide +kernel
set_option maxHeartbeats 4000000 in
set_option maxRecDepth 100000 in
theorem c_X6_dropDead (l : Launch) (G : xG) {K N : Nat → Nat} {I : Nat → Nat → Int32} {Q : Nat → Nat → Option Nat} {J : Nat → Nat → Int64} (t : Nat) (lst : List Nat) (h : K t = 6) (hC0 : CH K Q lst (Q t 0)) (hn : lst.Nodup) (hl : lst.length < 256) (hlv : I t 2 = nI (lst.filter (alv I)).length) : XM l yX6_dropDead cX6_dropDead 3 none rm_X6_dropDead G Rv [.ref t] (K, N, I, Q, J) (fun _ S1 => ∃ I1 Q1, S1 = (K, N, I1, Q1, J) ∧ CH K Q1 (lst.filter (alv I)) (Q1 t 0) ∧ (∀ i a, (lst.filter (alv I))[i]? = some a → I1 a 2 = nI ((dls (lst.filter (alv I)).length 9).getD i 0)) ∧ (∀ a j, ¬ (a ∈ lst ∧ j = 2) → ¬ (a = t ∧ j = 1) → I1 a j = I a j) ∧ I1 t 1 = nI (lst.filter (alv I)).length ∧ (∀ a, a ∉ lst → a ≠ t → Q1 a = Q a)) := by
  refine x_metv (lv := [_, _, _]) (by decide +kernel) (x_cc (by first | rfl | exact x_crf _) x_cn) (Nat.le_of_ble_eq_true rfl) rfl ?_
  intro pP eE sS mM aA bB hH cC Z C hini ret
  have hkl := hC0.kind
  have htl : ∀ a ∈ lst, a ≠ t := fun a ha e => by have := hC0.kind a ha; rw [e] at this; omega
  have hfl : (lst.filter (alv I)).length ≤ lst.length := List.length_filter_le _ _
  refine x_null C D_X6_dropDead_0.1 ?_
  refine x_eqq2 none rfl ?_
  refine x_astore_n C (lv' := [_, _, _]) D_X6_dropDead_0.2.1 rfl (Nat.le_of_ble_eq_true rfl) (by first | rfl | exact x_ok_q rfl) (by first | exact Or.inr ⟨_, rfl⟩ | exact va_rf_or _ | exact Or.inl rfl) rfl ?_
  refine x_aload_n C D_X6_dropDead_0.2.2.1 rfl rfl (by first | exact Or.inr ⟨_, rfl⟩ | exact va_rf_or _ | exact Or.inl rfl) ?_
  refine x_getQ C (ci := 5) (k0 := 0) h (by decide) rfl (by decide) in_X6 k_153 rfl rfl D_X6_dropDead_0.2.2.2.1 ?_
  refine x_eqq _ (rfl : Q t 0 = Q t 0) ?_
  refine x_astore_n C (lv' := [_, _, _]) D_X6_dropDead_0.2.2.2.2.1 rfl (Nat.le_of_ble_eq_true rfl) (by first | rfl | exact x_ok_q rfl) (by first | exact Or.inr ⟨_, rfl⟩ | exact va_rf_or _ | exact Or.inl rfl) rfl ?_
  refine x_aload_n C D_X6_dropDead_0.2.2.2.2.2.1 rfl rfl (by first | exact Or.inr ⟨_, rfl⟩ | exact va_rf_or _ | exact Or.inl rfl) ?_
  refine x_null C D_X6_dropDead_0.2.2.2.2.2.2.1 ?_
  refine x_putQ C (ci := 5) (k0 := 0) h (by decide) rfl (by decide) in_X6 k_153 rfl tyX6 tyX6_ok nmX6 rfl (by first | exact rfl | exact (rfl : _ = va_rf (some _)) | exact (rfl : _ = va_rf none)) (by rfl) (by first | rfl | exact x_narq _ _) (by first | rfl | exact x_fitq _ _) rfl D_X6_dropDead_0.2.2.2.2.2.2.2.1 (fun Q0 eQ0 => ?_)
  have L_12 : ∀ (w_12 : Nat) (B DD : List Nat) (o w : Option Nat) (Q1 : Nat → Nat → Option Nat), B.length < w_12 → (CH K Q B o) → (lst = DD ++ B) → (∀ a, a ∉ DD → a ≠ t → Q1 a = Q a) → (w = (DD.filter (alv I)).getLast?) → (CH K (endQ Q1 w) (DD.filter (alv I)) (Q1 t 0)) → XW pP l eE rm_X6_dropDead sS mM aA bB hH cC G Z 0 0 (K, N, I, Q1, J) 12 [some (.ref t), some (va_rf w), some (va_rf o)] [] := by
    intro w_12
    induction w_12 with
    | zero =>
      intro B DD o w Q1 hw_12
      exact absurd hw_12 (Nat.not_lt_zero _)
    | succ w_12 ih_12 =>
      intro B DD o w Q1 hw_12 hC hL hQ hw_ hCD
      refine x_aload_n C D_X6_dropDead_0.2.2.2.2.2.2.2.2.1 rfl rfl (by first | exact Or.inr ⟨_, rfl⟩ | exact va_rf_or _ | exact Or.inl rfl) ?_
      refine x_ifnull C 50 D_X6_dropDead_0.2.2.2.2.2.2.2.2.2.1 (by decide) (fun e_13 => ?_) (fun a9 e_13 => ?_)
      · skip
        subst e_13
        obtain rfl := hC.none
        have L_59 : ∀ (Q3 : Nat → Nat → Option Nat), (CH K Q3 (lst.filter (alv I)) (Q3 t 0)) → (∀ a, a ∉ lst → a ≠ t → Q3 a = Q a) → XW pP l eE rm_X6_dropDead sS mM aA bB hH cC G Z 0 0 (K, N, I, Q3, J) 59 [some (.ref t), some (va_rf w), some (va_rf none)] [] := by
          intro Q3 hC3 hQ3
          refine x_aload_n C D_X6_dropDead_2.2.2.2.2.2.2.2.2.2.1 rfl rfl (by first | exact Or.inr ⟨_, rfl⟩ | exact va_rf_or _ | exact Or.inl rfl) ?_
          refine x_aload_n C D_X6_dropDead_2.2.2.2.2.2.2.2.2.2.2.1 rfl rfl (by first | exact Or.inr ⟨_, rfl⟩ | exact va_rf_or _ | exact Or.inl rfl) ?_
          refine x_getI C (ci := 5) (k0 := 2) h (by decide) rfl (by decide) in_X6 k_155 rfl rfl D_X6_dropDead_2.2.2.2.2.2.2.2.2.2.2.2 ?_
          refine x_eqi _ hlv ?_
          refine x_putI C (ci := 5) (k0 := 1) h (by decide) rfl (by decide) in_X6 k_154 rfl tyX6 tyX6_ok nmX6 rfl (by rfl) rfl rfl rfl D_X6_dropDead_3.1 (fun I4 eI4 => ?_)
          refine x_aload_n C D_X6_dropDead_3.2.1 rfl rfl (by first | exact Or.inr ⟨_, rfl⟩ | exact va_rf_or _ | exact Or.inl rfl) ?_
          refine x_callVv C (y := yX6_dealOut) (c_X6_dealOut l G t (lst.filter (alv I)) h hC3 (hn.sublist List.filter_sublist) (by omega) (by rw [eI4, x_u2_j _ _ (by omega)]; exact hlv)) (ci := 5) h (by decide) rfl rfl k_331 k_333 k_29 k_65 k_334 hd_X6_dealOut ⟨(Nat.le_of_ble_eq_true rfl), (Nat.le_of_ble_eq_true rfl)⟩ rfl (by first | exact Nat.le_of_ble_eq_true rfl | simp [x_crf, Value.category]) rfl rfl D_X6_dropDead_3.2.2.1 ⟨(Nat.le_of_ble_eq_true rfl), (Nat.le_of_ble_eq_true rfl)⟩ (fun _ S_68 h_68 => ?_)
          obtain ⟨I5, rfl, d1, d2⟩ := h_68
          refine ret _ _ _ _ _ rfl D_X6_dropDead_3.2.2.2 (Nat.le_of_ble_eq_true rfl) (Nat.le_of_ble_eq_true rfl) ?_
          refine ⟨I5, Q3, rfl, hC3, d1, fun a j h1 h2 => ?_, ?_, hQ3⟩
          · rw [d2 a j (fun e => h1 ⟨(List.mem_filter.mp e.1).1, e.2⟩), eI4]
            by_cases e : a = t
            · subst e; exact x_u2_j _ _ (fun e2 => h2 ⟨rfl, e2⟩)
            · rw [x_u2_a _ _ e]
          · rw [d2 t 1 (fun e => by omega), eI4, x_u2_s]
        refine x_aload_n C D_X6_dropDead_2.2.2.2.2.1 rfl rfl (by first | exact Or.inr ⟨_, rfl⟩ | exact va_rf_or _ | exact Or.inl rfl) ?_
        refine x_ifnull C 59 D_X6_dropDead_2.2.2.2.2.2.1 (by decide) (fun e_51 => ?_) (fun l0 e_51 => ?_)
        · skip
          subst e_51
          have hB0 : DD = lst := by rw [hL, List.append_nil]
          rw [hB0] at hw_ hCD
          exact L_59 Q1 hCD (fun a h1 h2 => hQ a (by rw [hB0]; exact h1) h2)
        · skip
          subst e_51
          have hB0 : DD = lst := by rw [hL, List.append_nil]
          rw [hB0] at hw_ hCD
          have hl0l : l0 ∈ lst := (List.mem_filter.mp (List.mem_of_getLast? hw_.symm)).1
          have hkl0 := hkl l0 hl0l
          refine x_aload_n C D_X6_dropDead_2.2.2.2.2.2.2.1 rfl rfl (by first | exact Or.inr ⟨_, rfl⟩ | exact va_rf_or _ | exact Or.inl rfl) ?_
          refine x_null C D_X6_dropDead_2.2.2.2.2.2.2.2.1 ?_
          refine x_putQ C (ci := 0) (k0 := 3) hkl0 (by decide) rfl (by decide) in_X0 k_686 rfl tyX0 tyX0_ok nmX0 rfl (by first | exact rfl | exact (rfl : _ = va_rf (some _)) | exact (rfl : _ = va_rf none)) (by rfl) (by first | rfl | exact x_narq _ _) (by first | rfl | exact x_fitq _ _) rfl D_X6_dropDead_2.2.2.2.2.2.2.2.2.1 (fun Q3 eQ3 => ?_)
          refine L_59 Q3 ?_ (fun a h1 h2 => ?_)
          · rw [show Q3 t 0 = Q1 t 0 by rw [eQ3, x_u2_a _ _ (htl l0 hl0l).symm], eQ3]; exact hCD
          · rw [eQ3, x_u2_a _ _ (show a ≠ l0 from fun e => h1 (e ▸ hl0l))]; exact hQ a (by rw [hB0]; exact h1) h2
      · skip
        subst e_13
        obtain ⟨l9, rfl, hk9, hCl⟩ := hC.some
        have ha9l : a9 ∈ lst := by rw [hL]; simp
        have hnn := hn
        rw [hL, List.nodup_append] at hnn
        have ha9D : a9 ∉ DD := fun hm => hnn.2.2 a9 hm a9 (by simp) rfl
        have ha9Q : Q1 a9 = Q a9 := hQ a9 ha9D (htl a9 ha9l)
        have hsp : lst = (DD ++ [a9]) ++ l9 := by rw [hL]; simp
        refine x_aload_n C D_X6_dropDead_0.2.2.2.2.2.2.2.2.2.2.1 rfl rfl (by first | exact Or.inr ⟨_, rfl⟩ | exact va_rf_or _ | exact Or.inl rfl) ?_
        refine x_getI C (ci := 0) (k0 := 1) hk9 (by decide) rfl (by decide) in_X0 k_682 rfl rfl D_X6_dropDead_0.2.2.2.2.2.2.2.2.2.2.2 ?_
        refine x_if_eq C 42 D_X6_dropDead_1.1 (by decide) (fun c_20 => ?_) (fun c_20 => ?_)
        · skip
          have c1 : alv I a9 = false := by simp [alv, c_20]
          have hf9 : (DD ++ [a9]).filter (alv I) = (DD.filter (alv I)) := by simp [List.filter_append, c1]
          refine x_aload_n C D_X6_dropDead_2.1 rfl rfl (by first | exact Or.inr ⟨_, rfl⟩ | exact va_rf_or _ | exact Or.inl rfl) ?_
          refine x_getQ C (ci := 0) (k0 := 3) hk9 (by decide) rfl (by decide) in_X0 k_686 rfl rfl D_X6_dropDead_2.2.1 ?_
          refine x_eqq _ (show Q1 a9 3 = Q a9 3 by rw [ha9Q]) ?_
          refine x_astore_n C (lv' := [_, _, _]) D_X6_dropDead_2.2.2.1 rfl (Nat.le_of_ble_eq_true rfl) (by first | rfl | exact x_ok_q rfl) (by first | exact Or.inr ⟨_, rfl⟩ | exact va_rf_or _ | exact Or.inl rfl) rfl ?_
          refine x_goto C 12 D_X6_dropDead_2.2.2.2.1 (by decide) ?_
          exact ih_12 l9 (DD ++ [a9]) _ w Q1 (by simp only [List.length_cons] at hw_12; omega) hCl hsp (fun a h1 h2 => hQ a (fun h3 => h1 (by simp [h3])) h2) (by rw [hf9]; exact hw_) (by rw [hf9]; exact hCD)
        · skip
          have c1 : alv I a9 = true := by simp [alv, c_20]
          have hf9 : (DD ++ [a9]).filter (alv I) = (DD.filter (alv I)) ++ [a9] := by simp [List.filter_append, c1]
          refine x_aload_n C D_X6_dropDead_1.2.1 rfl rfl (by first | exact Or.inr ⟨_, rfl⟩ | exact va_rf_or _ | exact Or.inl rfl) ?_
          refine x_ifnonnull C 35 D_X6_dropDead_1.2.2.1 (by decide) (fun l0 e_24 => ?_) (fun e_24 => ?_)
          · skip
            subst e_24
            obtain ⟨D0, hD0⟩ : ∃ D0, (DD.filter (alv I)) = D0 ++ [l0] := by
              rcases ls_split (DD.filter (alv I)) with h9 | ⟨D0, f, h9⟩
              · rw [h9] at hw_; cases hw_
              · rw [h9, List.getLast?_concat] at hw_
                exact ⟨D0, by rw [h9, Option.some.inj hw_]⟩
            have hl0D : l0 ∈ DD := (List.mem_filter.mp (by rw [hD0]; simp : l0 ∈ (DD.filter (alv I)))).1
            have hl0l : l0 ∈ lst := by rw [hL]; simp [hl0D]
            have hkl0 := hkl l0 hl0l
            refine x_aload_n C D_X6_dropDead_1.2.2.2.2.2.2.2.1 rfl rfl (by first | exact Or.inr ⟨_, rfl⟩ | exact va_rf_or _ | exact Or.inl rfl) ?_
            refine x_aload_n C D_X6_dropDead_1.2.2.2.2.2.2.2.2.1 rfl rfl (by first | exact Or.inr ⟨_, rfl⟩ | exact va_rf_or _ | exact Or.inl rfl) ?_
            refine x_putQ C (ci := 0) (k0 := 3) hkl0 (by decide) rfl (by decide) in_X0 k_686 rfl tyX0 tyX0_ok nmX0 rfl (by first | exact rfl | exact (rfl : _ = va_rf (some _)) | exact (rfl : _ = va_rf none)) (by rfl) (by first | rfl | exact x_narq _ _) (by first | rfl | exact x_fitq _ _) rfl D_X6_dropDead_1.2.2.2.2.2.2.2.2.2.1 (fun Q2 eQ2 => ?_)
            refine x_aload_n C D_X6_dropDead_1.2.2.2.2.2.2.2.2.2.2.1 rfl rfl (by first | exact Or.inr ⟨_, rfl⟩ | exact va_rf_or _ | exact Or.inl rfl) ?_
            refine x_astore_n C (lv' := [_, _, _]) D_X6_dropDead_1.2.2.2.2.2.2.2.2.2.2.2 rfl (Nat.le_of_ble_eq_true rfl) (by first | rfl | exact x_ok_q rfl) (by first | exact Or.inr ⟨_, rfl⟩ | exact va_rf_or _ | exact Or.inl rfl) rfl ?_
            refine x_aload_n C D_X6_dropDead_2.1 rfl rfl (by first | exact Or.inr ⟨_, rfl⟩ | exact va_rf_or _ | exact Or.inl rfl) ?_
            refine x_getQ C (ci := 0) (k0 := 3) hk9 (by decide) rfl (by decide) in_X0 k_686 rfl rfl D_X6_dropDead_2.2.1 ?_
            refine x_eqq _ (show Q2 a9 3 = Q a9 3 by rw [eQ2, x_u2_a _ _ (show a9 ≠ l0 from fun e => ha9D (e ▸ hl0D)), ha9Q]) ?_
            refine x_astore_n C (lv' := [_, _, _]) D_X6_dropDead_2.2.2.1 rfl (Nat.le_of_ble_eq_true rfl) (by first | rfl | exact x_ok_q rfl) (by first | exact Or.inr ⟨_, rfl⟩ | exact va_rf_or _ | exact Or.inl rfl) rfl ?_
            refine x_goto C 12 D_X6_dropDead_2.2.2.2.1 (by decide) ?_
            refine ih_12 l9 (DD ++ [a9]) _ (some a9) Q2 (by simp only [List.length_cons] at hw_12; omega) hCl hsp (fun a h1 h2 => ?_) (by rw [hf9, List.getLast?_concat]) ?_
            · rw [eQ2, x_u2_a _ _ (fun e => h1 (by simp [e, hl0D]))]; exact hQ a (fun h3 => h1 (by simp [h3])) h2
            · rw [hf9, hD0]
              have h9 : CH K (x_u2 Q1 l0 3 none) ((D0 ++ [l0]) ++ []) (Q1 t 0) := by rw [List.append_nil, ← hD0]; exact hCD
              have hnf : (D0 ++ [l0]).Nodup := by rw [← hD0]; exact hnn.1.sublist List.filter_sublist
              rw [List.nodup_append] at hnf
              have e0 : Q2 t 0 = Q1 t 0 := by rw [eQ2, x_u2_a _ _ (htl l0 hl0l).symm]
              rw [e0]
              have hal : a9 ≠ l0 := fun e => ha9D (e ▸ hl0D)
              refine CH.link (Q1 := endQ Q2 (some a9)) (B := []) ?_ hk9 ?_ h9 (fun a ha => ?_)
              · show x_u2 Q2 a9 3 none l0 3 = some a9
                rw [x_u2_a _ _ hal.symm, eQ2, x_u2_s]
              · show x_u2 Q2 a9 3 none a9 3 = none
                rw [x_u2_s]
              · have hal0 : a ≠ l0 := hnf.2.2 a ha l0 (by simp)
                have haD : a ∈ DD := (List.mem_filter.mp (by rw [hD0]; simp [ha] : a ∈ (DD.filter (alv I)))).1
                have haa9 : a ≠ a9 := fun e => ha9D (e ▸ haD)
                show x_u2 Q2 a9 3 none a 3 = x_u2 Q1 l0 3 none a 3
                rw [x_u2_a _ _ haa9, eQ2, x_u2_a _ _ hal0, x_u2_a _ _ hal0]
          · skip
            subst e_24
            have hD0 : (DD.filter (alv I)) = [] := by
              rcases ls_split (DD.filter (alv I)) with h9 | ⟨D0, f, h9⟩
              · exact h9
              · rw [h9, List.getLast?_concat] at hw_; cases hw_
            refine x_aload_n C D_X6_dropDead_1.2.2.2.1 rfl rfl (by first | exact Or.inr ⟨_, rfl⟩ | exact va_rf_or _ | exact Or.inl rfl) ?_
            refine x_aload_n C D_X6_dropDead_1.2.2.2.2.1 rfl rfl (by first | exact Or.inr ⟨_, rfl⟩ | exact va_rf_or _ | exact Or.inl rfl) ?_
            refine x_putQ C (ci := 5) (k0 := 0) h (by decide) rfl (by decide) in_X6 k_153 rfl tyX6 tyX6_ok nmX6 rfl (by first | exact rfl | exact (rfl : _ = va_rf (some _)) | exact (rfl : _ = va_rf none)) (by rfl) (by first | rfl | exact x_narq _ _) (by first | rfl | exact x_fitq _ _) rfl D_X6_dropDead_1.2.2.2.2.2.1 (fun Q2 eQ2 => ?_)
            refine x_goto C 40 D_X6_dropDead_1.2.2.2.2.2.2.1 (by decide) ?_
            refine x_aload_n C D_X6_dropDead_1.2.2.2.2.2.2.2.2.2.2.1 rfl rfl (by first | exact Or.inr ⟨_, rfl⟩ | exact va_rf_or _ | exact Or.inl rfl) ?_
            refine x_astore_n C (lv' := [_, _, _]) D_X6_dropDead_1.2.2.2.2.2.2.2.2.2.2.2 rfl (Nat.le_of_ble_eq_true rfl) (by first | rfl | exact x_ok_q rfl) (by first | exact Or.inr ⟨_, rfl⟩ | exact va_rf_or _ | exact Or.inl rfl) rfl ?_
            refine x_aload_n C D_X6_dropDead_2.1 rfl rfl (by first | exact Or.inr ⟨_, rfl⟩ | exact va_rf_or _ | exact Or.inl rfl) ?_
            refine x_getQ C (ci := 0) (k0 := 3) hk9 (by decide) rfl (by decide) in_X0 k_686 rfl rfl D_X6_dropDead_2.2.1 ?_
            refine x_eqq _ (show Q2 a9 3 = Q a9 3 by rw [eQ2, x_u2_a _ _ (htl a9 ha9l), ha9Q]) ?_
            refine x_astore_n C (lv' := [_, _, _]) D_X6_dropDead_2.2.2.1 rfl (Nat.le_of_ble_eq_true rfl) (by first | rfl | exact x_ok_q rfl) (by first | exact Or.inr ⟨_, rfl⟩ | exact va_rf_or _ | exact Or.inl rfl) rfl ?_
            refine x_goto C 12 D_X6_dropDead_2.2.2.2.1 (by decide) ?_
            refine ih_12 l9 (DD ++ [a9]) _ (some a9) Q2 (by simp only [List.length_cons] at hw_12; omega) hCl hsp (fun a h1 h2 => ?_) (by rw [hf9, List.getLast?_concat]) ?_
            · rw [eQ2, x_u2_a _ _ h2]; exact hQ a (fun h3 => h1 (by simp [h3])) h2
            · rw [hf9, hD0, List.nil_append, eQ2, x_u2_s]
              refine ⟨rfl, hk9, ?_⟩
              show x_u2 (x_u2 Q1 t 0 (some a9)) a9 3 none a9 3 = none
              rw [x_u2_s]
  exact L_12 _ lst [] _ none Q0 (Nat.lt_succ_self _) hC0 rfl (fun a _ h2 => by rw [eQ0, x_u2_a _ _ h2]) rfl (by rw [eQ0, x_u2_s]; rfl)
