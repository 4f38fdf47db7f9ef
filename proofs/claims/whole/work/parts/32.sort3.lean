abbrev rm_X6_livingBelow : Room := { frames := 0, cells := 0, slots := 0, locals := 0 }
set_option maxHeartbeats 4000000 in
set_option maxRecDepth 100000 in
theorem c_X6_livingBelow (l : Launch) (G : xG) {K N : Nat → Nat} {I : Nat → Nat → Int32} {Q : Nat → Nat → Option Nat} {J : Nat → Nat → Int64} (t : Nat) (x : Int32) (lst : List Nat) (h : K t = 6) (hC0 : CH K Q lst (Q t 0)) : XM l yX6_livingBelow cX6_livingBelow 4 (some .int) rm_X6_livingBelow G Ri [.ref t, .int x] (K, N, I, Q, J) (fun r S1 => r = nI (ccw (fun a => decide (I a 0 < x)) (alv I) lst) ∧ S1 = (K, N, I, Q, J)) := by
  refine x_meti (lv := [_, _, _, _]) (by decide +kernel) (x_cc (by first | rfl | exact x_crf _) (x_cc (by first | rfl | exact x_crf _) x_cn)) (Nat.le_of_ble_eq_true rfl) rfl ?_
  intro pP eE sS mM aA bB hH cC Z C hini ret
  refine x_iconst C (v := nI 0) D_X6_livingBelow_0.1 (by decide +kernel) ?_
  refine x_istore_n C (lv' := [_, _, _, _]) D_X6_livingBelow_0.2.1 rfl (Nat.le_of_ble_eq_true rfl) (by first | rfl | exact x_ok_q rfl) rfl ?_
  refine x_aload_n C D_X6_livingBelow_0.2.2.1 rfl rfl (by first | exact Or.inr ⟨_, rfl⟩ | exact va_rf_or _ | exact Or.inl rfl) ?_
  refine x_getQ C (ci := 5) (k0 := 0) h (by decide) rfl (by decide) in_X6 k_153 rfl rfl D_X6_livingBelow_0.2.2.2.1 ?_
  refine x_eqq _ (rfl : Q t 0 = Q t 0) ?_
  refine x_astore_n C (lv' := [_, _, _, _]) D_X6_livingBelow_0.2.2.2.2.1 rfl (Nat.le_of_ble_eq_true rfl) (by first | rfl | exact x_ok_q rfl) (by first | exact Or.inr ⟨_, rfl⟩ | exact va_rf_or _ | exact Or.inl rfl) rfl ?_
  have L_7 : ∀ (w_7 : Nat) (B : List Nat) (o : Option Nat) (n0 : Nat), B.length < w_7 → (CH K Q B o) → (n0 + ccw (fun a => decide (I a 0 < x)) (alv I) B = ccw (fun a => decide (I a 0 < x)) (alv I) lst) → XW pP l eE rm_X6_livingBelow sS mM aA bB hH cC G Z 0 0 (K, N, I, Q, J) 7 [some (.ref t), some (.int x), some (.int (nI n0)), some (va_rf o)] [] := by
    intro w_7
    induction w_7 with
    | zero =>
      intro B o n0 hw_7
      exact absurd hw_7 (Nat.not_lt_zero _)
    | succ w_7 ih_7 =>
      intro B o n0 hw_7 hC hF
      refine x_aload_n C D_X6_livingBelow_0.2.2.2.2.2.1 rfl rfl (by first | exact Or.inr ⟨_, rfl⟩ | exact va_rf_or _ | exact Or.inl rfl) ?_
      refine x_ifnull C 37 D_X6_livingBelow_0.2.2.2.2.2.2.1 (by decide) (fun e_8 => ?_) (fun a9 e_8 => ?_)
      · skip
        subst e_8
        obtain rfl := hC.none
        refine x_iload_n C D_X6_livingBelow_1.2.2.2.2.2.2.2.1 rfl rfl ?_
        refine ret _ _ _ _ _ _ rfl D_X6_livingBelow_1.2.2.2.2.2.2.2.2 (Nat.le_of_ble_eq_true rfl) (Nat.le_of_ble_eq_true rfl) ?_
        exact ⟨by rw [← hF]; rfl, rfl⟩
      · skip
        subst e_8
        obtain ⟨l9, rfl, hk9, hCl⟩ := hC.some
        refine x_aload_n C D_X6_livingBelow_0.2.2.2.2.2.2.2.1 rfl rfl (by first | exact Or.inr ⟨_, rfl⟩ | exact va_rf_or _ | exact Or.inl rfl) ?_
        refine x_getI C (ci := 0) (k0 := 0) hk9 (by decide) rfl (by decide) in_X0 k_679 rfl rfl D_X6_livingBelow_0.2.2.2.2.2.2.2.2.1 ?_
        refine x_iload_n C D_X6_livingBelow_0.2.2.2.2.2.2.2.2.2.1 rfl rfl ?_
        refine x_icmp_ge C 37 D_X6_livingBelow_0.2.2.2.2.2.2.2.2.2.2.1 (by decide) (fun c_16 => ?_) (fun c_16 => ?_)
        · skip
          have c1 : ¬ I a9 0 < x := by
            have h9 := i32_le.mp c_16
            rw [i32_lt]; omega
          refine x_iload_n C D_X6_livingBelow_1.2.2.2.2.2.2.2.1 rfl rfl ?_
          refine ret _ _ _ _ _ _ rfl D_X6_livingBelow_1.2.2.2.2.2.2.2.2 (Nat.le_of_ble_eq_true rfl) (Nat.le_of_ble_eq_true rfl) ?_
          exact ⟨by rw [← hF]; simp [ccw, c1], rfl⟩
        · skip
          have c1 : I a9 0 < x := by
            rw [i32_le] at c_16
            rw [i32_lt]; omega
          refine x_aload_n C D_X6_livingBelow_0.2.2.2.2.2.2.2.2.2.2.2 rfl rfl (by first | exact Or.inr ⟨_, rfl⟩ | exact va_rf_or _ | exact Or.inl rfl) ?_
          refine x_getI C (ci := 0) (k0 := 1) hk9 (by decide) rfl (by decide) in_X0 k_682 rfl rfl D_X6_livingBelow_1.1 ?_
          refine x_if_eq C 29 D_X6_livingBelow_1.2.1 (by decide) (fun c_23 => ?_) (fun c_23 => ?_)
          · skip
            have c2 : alv I a9 = false := by simp [alv, c_23]
            refine x_aload_n C D_X6_livingBelow_1.2.2.2.1 rfl rfl (by first | exact Or.inr ⟨_, rfl⟩ | exact va_rf_or _ | exact Or.inl rfl) ?_
            refine x_getQ C (ci := 0) (k0 := 3) hk9 (by decide) rfl (by decide) in_X0 k_686 rfl rfl D_X6_livingBelow_1.2.2.2.2.1 ?_
            refine x_eqq _ (rfl : Q a9 3 = Q a9 3) ?_
            refine x_astore_n C (lv' := [_, _, _, _]) D_X6_livingBelow_1.2.2.2.2.2.1 rfl (Nat.le_of_ble_eq_true rfl) (by first | rfl | exact x_ok_q rfl) (by first | exact Or.inr ⟨_, rfl⟩ | exact va_rf_or _ | exact Or.inl rfl) rfl ?_
            refine x_goto C 7 D_X6_livingBelow_1.2.2.2.2.2.2.1 (by decide) ?_
            exact ih_7 l9 _ n0 (by simp only [List.length_cons] at hw_7; omega) hCl (by rw [← hF]; simp [ccw, c1, c2])
          · skip
            have c2 : alv I a9 = true := by simp [alv, c_23]
            refine x_iinc C (lv' := [_, _, _, _]) D_X6_livingBelow_1.2.2.1 rfl (x_inc_1 _) (by first | rfl | exact x_ok_q rfl) rfl ?_
            refine x_lv (lv := [_, _, some (.int (nI (n0 + 1))), _]) (by rw [nI_add]) ?_
            refine x_aload_n C D_X6_livingBelow_1.2.2.2.1 rfl rfl (by first | exact Or.inr ⟨_, rfl⟩ | exact va_rf_or _ | exact Or.inl rfl) ?_
            refine x_getQ C (ci := 0) (k0 := 3) hk9 (by decide) rfl (by decide) in_X0 k_686 rfl rfl D_X6_livingBelow_1.2.2.2.2.1 ?_
            refine x_eqq _ (rfl : Q a9 3 = Q a9 3) ?_
            refine x_astore_n C (lv' := [_, _, _, _]) D_X6_livingBelow_1.2.2.2.2.2.1 rfl (Nat.le_of_ble_eq_true rfl) (by first | rfl | exact x_ok_q rfl) (by first | exact Or.inr ⟨_, rfl⟩ | exact va_rf_or _ | exact Or.inl rfl) rfl ?_
            refine x_goto C 7 D_X6_livingBelow_1.2.2.2.2.2.2.1 (by decide) ?_
            exact ih_7 l9 _ (n0 + 1) (by simp only [List.length_cons] at hw_7; omega) hCl (by rw [← hF]; simp [ccw, c1, c2]; omega)
  exact L_7 _ lst _ 0 (Nat.lt_succ_self _) hC0 (Nat.zero_add _)
abbrev rm_X6_livingWithRank : Room := { frames := 0, cells := 0, slots := 0, locals := 0 }
set_option maxHeartbeats 4000000 in
set_option maxRecDepth 100000 in
theorem c_X6_livingWithRank (l : Launch) (G : xG) {K N : Nat → Nat} {I : Nat → Nat → Int32} {Q : Nat → Nat → Option Nat} {J : Nat → Nat → Int64} (t : Nat) (x : Int32) (lst : List Nat) (h : K t = 6) (hC0 : CH K Q lst (Q t 0)) : XM l yX6_livingWithRank cX6_livingWithRank 4 (some (.object "ScapegoatSpur$Entry")) rm_X6_livingWithRank G Rq [.ref t, .int x] (K, N, I, Q, J) (fun r S1 => r = nths (alv I) x lst 0 ∧ S1 = (K, N, I, Q, J)) := by
  refine x_metq (lv := [_, _, _, _]) (by decide +kernel) (x_cc (by first | rfl | exact x_crf _) (x_cc (by first | rfl | exact x_crf _) x_cn)) (Nat.le_of_ble_eq_true rfl) rfl ?_
  intro pP eE sS mM aA bB hH cC Z C hini ret
  refine x_iconst C (v := nI 0) D_X6_livingWithRank_0.1 (by decide +kernel) ?_
  refine x_istore_n C (lv' := [_, _, _, _]) D_X6_livingWithRank_0.2.1 rfl (Nat.le_of_ble_eq_true rfl) (by first | rfl | exact x_ok_q rfl) rfl ?_
  refine x_aload_n C D_X6_livingWithRank_0.2.2.1 rfl rfl (by first | exact Or.inr ⟨_, rfl⟩ | exact va_rf_or _ | exact Or.inl rfl) ?_
  refine x_getQ C (ci := 5) (k0 := 0) h (by decide) rfl (by decide) in_X6 k_153 rfl rfl D_X6_livingWithRank_0.2.2.2.1 ?_
  refine x_eqq _ (rfl : Q t 0 = Q t 0) ?_
  refine x_astore_n C (lv' := [_, _, _, _]) D_X6_livingWithRank_0.2.2.2.2.1 rfl (Nat.le_of_ble_eq_true rfl) (by first | rfl | exact x_ok_q rfl) (by first | exact Or.inr ⟨_, rfl⟩ | exact va_rf_or _ | exact Or.inl rfl) rfl ?_
  have L_7 : ∀ (w_7 : Nat) (B : List Nat) (o : Option Nat) (n0 : Nat), B.length < w_7 → (CH K Q B o) → (nths (alv I) x B n0 = nths (alv I) x lst 0) → XW pP l eE rm_X6_livingWithRank sS mM aA bB hH cC G Z 0 0 (K, N, I, Q, J) 7 [some (.ref t), some (.int x), some (.int (nI n0)), some (va_rf o)] [] := by
    intro w_7
    induction w_7 with
    | zero =>
      intro B o n0 hw_7
      exact absurd hw_7 (Nat.not_lt_zero _)
    | succ w_7 ih_7 =>
      intro B o n0 hw_7 hC hF
      refine x_aload_n C D_X6_livingWithRank_0.2.2.2.2.2.1 rfl rfl (by first | exact Or.inr ⟨_, rfl⟩ | exact va_rf_or _ | exact Or.inl rfl) ?_
      refine x_ifnull C 36 D_X6_livingWithRank_0.2.2.2.2.2.2.1 (by decide) (fun e_8 => ?_) (fun a9 e_8 => ?_)
      · skip
        subst e_8
        obtain rfl := hC.none
        refine x_null C D_X6_livingWithRank_1.2.2.2.2.2.2.2.2.1 ?_
        refine ret _ _ _ _ _ _ _ ⟨_, rfl⟩ D_X6_livingWithRank_1.2.2.2.2.2.2.2.2.2 (Nat.le_of_ble_eq_true rfl) (Nat.le_of_ble_eq_true rfl) (by first | exact rfl | exact (rfl : _ = va_rf (some _)) | exact (rfl : _ = va_rf none)) ?_
        exact ⟨by rw [← hF]; rfl, rfl⟩
      · skip
        subst e_8
        obtain ⟨l9, rfl, hk9, hCl⟩ := hC.some
        refine x_aload_n C D_X6_livingWithRank_0.2.2.2.2.2.2.2.1 rfl rfl (by first | exact Or.inr ⟨_, rfl⟩ | exact va_rf_or _ | exact Or.inl rfl) ?_
        refine x_getI C (ci := 0) (k0 := 1) hk9 (by decide) rfl (by decide) in_X0 k_682 rfl rfl D_X6_livingWithRank_0.2.2.2.2.2.2.2.2.1 ?_
        refine x_if_eq C 28 D_X6_livingWithRank_0.2.2.2.2.2.2.2.2.2.1 (by decide) (fun c_15 => ?_) (fun c_15 => ?_)
        · skip
          have c2 : alv I a9 = false := by simp [alv, c_15]
          refine x_aload_n C D_X6_livingWithRank_1.2.2.2.2.1 rfl rfl (by first | exact Or.inr ⟨_, rfl⟩ | exact va_rf_or _ | exact Or.inl rfl) ?_
          refine x_getQ C (ci := 0) (k0 := 3) hk9 (by decide) rfl (by decide) in_X0 k_686 rfl rfl D_X6_livingWithRank_1.2.2.2.2.2.1 ?_
          refine x_eqq _ (rfl : Q a9 3 = Q a9 3) ?_
          refine x_astore_n C (lv' := [_, _, _, _]) D_X6_livingWithRank_1.2.2.2.2.2.2.1 rfl (Nat.le_of_ble_eq_true rfl) (by first | rfl | exact x_ok_q rfl) (by first | exact Or.inr ⟨_, rfl⟩ | exact va_rf_or _ | exact Or.inl rfl) rfl ?_
          refine x_goto C 7 D_X6_livingWithRank_1.2.2.2.2.2.2.2.1 (by decide) ?_
          exact ih_7 l9 _ n0 (by simp only [List.length_cons] at hw_7; omega) hCl (by rw [← hF]; simp [nths, c2])
        · skip
          have c2 : alv I a9 = true := by simp [alv, c_15]
          refine x_iload_n C D_X6_livingWithRank_0.2.2.2.2.2.2.2.2.2.2.1 rfl rfl ?_
          refine x_iload_n C D_X6_livingWithRank_0.2.2.2.2.2.2.2.2.2.2.2 rfl rfl ?_
          refine x_icmp_ne C 25 D_X6_livingWithRank_1.1 (by decide) (fun c_20 => ?_) (fun c_20 => ?_)
          · skip
            refine x_iinc C (lv' := [_, _, _, _]) D_X6_livingWithRank_1.2.2.2.1 rfl (x_inc_1 _) (by first | rfl | exact x_ok_q rfl) rfl ?_
            refine x_lv (lv := [_, _, some (.int (nI (n0 + 1))), _]) (by rw [nI_add]) ?_
            refine x_aload_n C D_X6_livingWithRank_1.2.2.2.2.1 rfl rfl (by first | exact Or.inr ⟨_, rfl⟩ | exact va_rf_or _ | exact Or.inl rfl) ?_
            refine x_getQ C (ci := 0) (k0 := 3) hk9 (by decide) rfl (by decide) in_X0 k_686 rfl rfl D_X6_livingWithRank_1.2.2.2.2.2.1 ?_
            refine x_eqq _ (rfl : Q a9 3 = Q a9 3) ?_
            refine x_astore_n C (lv' := [_, _, _, _]) D_X6_livingWithRank_1.2.2.2.2.2.2.1 rfl (Nat.le_of_ble_eq_true rfl) (by first | rfl | exact x_ok_q rfl) (by first | exact Or.inr ⟨_, rfl⟩ | exact va_rf_or _ | exact Or.inl rfl) rfl ?_
            refine x_goto C 7 D_X6_livingWithRank_1.2.2.2.2.2.2.2.1 (by decide) ?_
            exact ih_7 l9 _ (n0 + 1) (by simp only [List.length_cons] at hw_7; omega) hCl (by rw [← hF]; simp [nths, c2, c_20])
          · skip
            refine x_aload_n C D_X6_livingWithRank_1.2.1 rfl rfl (by first | exact Or.inr ⟨_, rfl⟩ | exact va_rf_or _ | exact Or.inl rfl) ?_
            refine ret _ _ _ _ _ _ _ ⟨_, rfl⟩ D_X6_livingWithRank_1.2.2.1 (Nat.le_of_ble_eq_true rfl) (Nat.le_of_ble_eq_true rfl) (by first | exact rfl | exact (rfl : _ = va_rf (some _)) | exact (rfl : _ = va_rf none)) ?_
            exact ⟨by rw [← hF]; simp [nths, c2, c_20], rfl⟩
  exact L_7 _ lst _ 0 (Nat.lt_succ_self _) hC0 rfl
abbrev rm_X6_entryAt : Room := { frames := 0, cells := 0, slots := 0, locals := 0 }
set_option maxHeartbeats 4000000 in
set_option maxRecDepth 100000 in
theorem c_X6_entryAt (l : Launch) (G : xG) {K N : Nat → Nat} {I : Nat → Nat → Int32} {Q : Nat → Nat → Option Nat} {J : Nat → Nat → Int64} (t : Nat) (x y : Int32) (lst : List Nat) (h : K t = 6) (hC0 : CH K Q lst (Q t 0)) : XM l yX6_entryAt cX6_entryAt 5 (some (.object "ScapegoatSpur$Entry")) rm_X6_entryAt G Rq [.ref t, .int x, .int y] (K, N, I, Q, J) (fun r S1 => r = nths (fun a => decide (I a 2 = x)) y lst 0 ∧ S1 = (K, N, I, Q, J)) := by
  refine x_metq (lv := [_, _, _, _, _]) (by decide +kernel) (x_cc (by first | rfl | exact x_crf _) (x_cc (by first | rfl | exact x_crf _) (x_cc (by first | rfl | exact x_crf _) x_cn))) (Nat.le_of_ble_eq_true rfl) rfl ?_
  intro pP eE sS mM aA bB hH cC Z C hini ret
  refine x_iconst C (v := nI 0) D_X6_entryAt_0.1 (by decide +kernel) ?_
  refine x_istore_n C (lv' := [_, _, _, _, _]) D_X6_entryAt_0.2.1 rfl (Nat.le_of_ble_eq_true rfl) (by first | rfl | exact x_ok_q rfl) rfl ?_
  refine x_aload_n C D_X6_entryAt_0.2.2.1 rfl rfl (by first | exact Or.inr ⟨_, rfl⟩ | exact va_rf_or _ | exact Or.inl rfl) ?_
  refine x_getQ C (ci := 5) (k0 := 0) h (by decide) rfl (by decide) in_X6 k_153 rfl rfl D_X6_entryAt_0.2.2.2.1 ?_
  refine x_eqq _ (rfl : Q t 0 = Q t 0) ?_
  refine x_astore C (lv' := [_, _, _, _, _]) D_X6_entryAt_0.2.2.2.2.1 (Nat.le_of_ble_eq_true rfl) (by first | rfl | exact x_ok_q rfl) (by first | exact Or.inr ⟨_, rfl⟩ | exact va_rf_or _ | exact Or.inl rfl) rfl ?_
  have L_8 : ∀ (w_8 : Nat) (B : List Nat) (o : Option Nat) (n0 : Nat), B.length < w_8 → (CH K Q B o) → (nths (fun a => decide (I a 2 = x)) y B n0 = nths (fun a => decide (I a 2 = x)) y lst 0) → XW pP l eE rm_X6_entryAt sS mM aA bB hH cC G Z 0 0 (K, N, I, Q, J) 8 [some (.ref t), some (.int x), some (.int y), some (.int (nI n0)), some (va_rf o)] [] := by
    intro w_8
    induction w_8 with
    | zero =>
      intro B o n0 hw_8
      exact absurd hw_8 (Nat.not_lt_zero _)
    | succ w_8 ih_8 =>
      intro B o n0 hw_8 hC hF
      refine x_aload C D_X6_entryAt_0.2.2.2.2.2.1 rfl (by first | exact Or.inr ⟨_, rfl⟩ | exact va_rf_or _ | exact Or.inl rfl) ?_
      refine x_ifnull C 43 D_X6_entryAt_0.2.2.2.2.2.2.1 (by decide) (fun e_10 => ?_) (fun a9 e_10 => ?_)
      · skip
        subst e_10
        obtain rfl := hC.none
        refine x_null C D_X6_entryAt_1.2.2.2.2.2.2.2.2.2.1 ?_
        refine ret _ _ _ _ _ _ _ ⟨_, rfl⟩ D_X6_entryAt_1.2.2.2.2.2.2.2.2.2.2 (Nat.le_of_ble_eq_true rfl) (Nat.le_of_ble_eq_true rfl) (by first | exact rfl | exact (rfl : _ = va_rf (some _)) | exact (rfl : _ = va_rf none)) ?_
        exact ⟨by rw [← hF]; rfl, rfl⟩
      · skip
        subst e_10
        obtain ⟨l9, rfl, hk9, hCl⟩ := hC.some
        refine x_aload C D_X6_entryAt_0.2.2.2.2.2.2.2.1 rfl (by first | exact Or.inr ⟨_, rfl⟩ | exact va_rf_or _ | exact Or.inl rfl) ?_
        refine x_getI C (ci := 0) (k0 := 2) hk9 (by decide) rfl (by decide) in_X0 k_684 rfl rfl D_X6_entryAt_0.2.2.2.2.2.2.2.2.1 ?_
        refine x_iload_n C D_X6_entryAt_0.2.2.2.2.2.2.2.2.2.1 rfl rfl ?_
        refine x_icmp_ne C 33 D_X6_entryAt_0.2.2.2.2.2.2.2.2.2.2.1 (by decide) (fun c_19 => ?_) (fun c_19 => ?_)
        · skip
          refine x_aload C D_X6_entryAt_1.2.2.2.2.2.1 rfl (by first | exact Or.inr ⟨_, rfl⟩ | exact va_rf_or _ | exact Or.inl rfl) ?_
          refine x_getQ C (ci := 0) (k0 := 3) hk9 (by decide) rfl (by decide) in_X0 k_686 rfl rfl D_X6_entryAt_1.2.2.2.2.2.2.1 ?_
          refine x_eqq _ (rfl : Q a9 3 = Q a9 3) ?_
          refine x_astore C (lv' := [_, _, _, _, _]) D_X6_entryAt_1.2.2.2.2.2.2.2.1 (Nat.le_of_ble_eq_true rfl) (by first | rfl | exact x_ok_q rfl) (by first | exact Or.inr ⟨_, rfl⟩ | exact va_rf_or _ | exact Or.inl rfl) rfl ?_
          refine x_goto C 8 D_X6_entryAt_1.2.2.2.2.2.2.2.2.1 (by decide) ?_
          exact ih_8 l9 _ n0 (by simp only [List.length_cons] at hw_8; omega) hCl (by rw [← hF]; simp [nths, c_19])
        · skip
          refine x_iload_n C D_X6_entryAt_0.2.2.2.2.2.2.2.2.2.2.2 rfl rfl ?_
          refine x_iload_n C D_X6_entryAt_1.1 rfl rfl ?_
          refine x_icmp_ne C 30 D_X6_entryAt_1.2.1 (by decide) (fun c_24 => ?_) (fun c_24 => ?_)
          · skip
            refine x_iinc C (lv' := [_, _, _, _, _]) D_X6_entryAt_1.2.2.2.2.1 rfl (x_inc_1 _) (by first | rfl | exact x_ok_q rfl) rfl ?_
            refine x_lv (lv := [_, _, _, some (.int (nI (n0 + 1))), _]) (by rw [nI_add]) ?_
            refine x_aload C D_X6_entryAt_1.2.2.2.2.2.1 rfl (by first | exact Or.inr ⟨_, rfl⟩ | exact va_rf_or _ | exact Or.inl rfl) ?_
            refine x_getQ C (ci := 0) (k0 := 3) hk9 (by decide) rfl (by decide) in_X0 k_686 rfl rfl D_X6_entryAt_1.2.2.2.2.2.2.1 ?_
            refine x_eqq _ (rfl : Q a9 3 = Q a9 3) ?_
            refine x_astore C (lv' := [_, _, _, _, _]) D_X6_entryAt_1.2.2.2.2.2.2.2.1 (Nat.le_of_ble_eq_true rfl) (by first | rfl | exact x_ok_q rfl) (by first | exact Or.inr ⟨_, rfl⟩ | exact va_rf_or _ | exact Or.inl rfl) rfl ?_
            refine x_goto C 8 D_X6_entryAt_1.2.2.2.2.2.2.2.2.1 (by decide) ?_
            exact ih_8 l9 _ (n0 + 1) (by simp only [List.length_cons] at hw_8; omega) hCl (by rw [← hF]; simp [nths, c_19, c_24])
          · skip
            refine x_aload C D_X6_entryAt_1.2.2.1 rfl (by first | exact Or.inr ⟨_, rfl⟩ | exact va_rf_or _ | exact Or.inl rfl) ?_
            refine ret _ _ _ _ _ _ _ ⟨_, rfl⟩ D_X6_entryAt_1.2.2.2.1 (Nat.le_of_ble_eq_true rfl) (Nat.le_of_ble_eq_true rfl) (by first | exact rfl | exact (rfl : _ = va_rf (some _)) | exact (rfl : _ = va_rf none)) ?_
            exact ⟨by rw [← hF]; simp [nths, c_19, c_24], rfl⟩
  exact L_8 _ lst _ 0 (Nat.lt_succ_self _) hC0 rfl
