theorem D_X6_living_0 : decode cX6_living 0 = .ok (.aload_n 0, 1) ∧ decode cX6_living 1 = .ok (.getfield 17, 3) ∧ decode cX6_living 4 = .ok (.ireturn, 1) := by decide +kernel
theorem D_X6_entryCount_0 : decode cX6_entryCount 0 = .ok (.aload_n 0, 1) ∧ decode cX6_entryCount 1 = .ok (.getfield 13, 3) ∧ decode cX6_entryCount 4 = .ok (.ireturn, 1) := by decide +kernel
theorem D_X6_mergeCount_0 : decode cX6_mergeCount 0 = .ok (.aload_n 0, 1) ∧ decode cX6_mergeCount 1 = .ok (.getfield 20, 3) ∧ decode cX6_mergeCount 4 = .ok (.ireturn, 1) := by decide +kernel
theorem D_X6_find_0 : decode cX6_find 0 = .ok (.aload_n 0, 1) ∧ decode cX6_find 1 = .ok (.getfield 7, 3) ∧ decode cX6_find 4 = .ok (.astore_n 2, 1) ∧ decode cX6_find 5 = .ok (.aload_n 2, 1) ∧ decode cX6_find 6 = .ok (.ifnull 21, 3) ∧ decode cX6_find 9 = .ok (.aload_n 2, 1) ∧ decode cX6_find 10 = .ok (.getfield 23, 3) ∧ decode cX6_find 13 = .ok (.iload_n 1, 1) ∧ decode cX6_find 14 = .ok (.if_icmp .ne 5, 3) ∧ decode cX6_find 17 = .ok (.aload_n 2, 1) ∧ decode cX6_find 18 = .ok (.areturn, 1) ∧ decode cX6_find 19 = .ok (.aload_n 2, 1) := by decide +kernel
theorem D_X6_find_1 : decode cX6_find 20 = .ok (.getfield 28, 3) ∧ decode cX6_find 23 = .ok (.astore_n 2, 1) ∧ decode cX6_find 24 = .ok (.goto (-19), 3) ∧ decode cX6_find 27 = .ok (.aconst_null, 1) ∧ decode cX6_find 28 = .ok (.areturn, 1) := by decide +kernel
theorem D_X6_holds_0 : decode cX6_holds 0 = .ok (.aload_n 0, 1) ∧ decode cX6_holds 1 = .ok (.iload_n 1, 1) ∧ decode cX6_holds 2 = .ok (.invokevirtual 31, 3) ∧ decode cX6_holds 5 = .ok (.astore_n 2, 1) ∧ decode cX6_holds 6 = .ok (.aload_n 2, 1) ∧ decode cX6_holds 7 = .ok (.ifnull 14, 3) ∧ decode cX6_holds 10 = .ok (.aload_n 2, 1) ∧ decode cX6_holds 11 = .ok (.getfield 35, 3) ∧ decode cX6_holds 14 = .ok (.ifCond .eq 7, 3) ∧ decode cX6_holds 17 = .ok (.iconst 1, 1) ∧ decode cX6_holds 18 = .ok (.goto 4, 3) ∧ decode cX6_holds 21 = .ok (.iconst 0, 1) := by decide +kernel
theorem D_X6_holds_1 : decode cX6_holds 22 = .ok (.ireturn, 1) := by decide +kernel
theorem D_X6_sizeOf_0 : decode cX6_sizeOf 0 = .ok (.iconst 0, 1) ∧ decode cX6_sizeOf 1 = .ok (.istore_n 2, 1) ∧ decode cX6_sizeOf 2 = .ok (.aload_n 0, 1) ∧ decode cX6_sizeOf 3 = .ok (.getfield 7, 3) ∧ decode cX6_sizeOf 6 = .ok (.astore_n 3, 1) ∧ decode cX6_sizeOf 7 = .ok (.aload_n 3, 1) ∧ decode cX6_sizeOf 8 = .ok (.ifnull 22, 3) ∧ decode cX6_sizeOf 11 = .ok (.aload_n 3, 1) ∧ decode cX6_sizeOf 12 = .ok (.getfield 43, 3) ∧ decode cX6_sizeOf 15 = .ok (.iload_n 1, 1) ∧ decode cX6_sizeOf 16 = .ok (.if_icmp .ne 6, 3) ∧ decode cX6_sizeOf 19 = .ok (.iinc 2 1, 3) := by decide +kernel
theorem D_X6_sizeOf_1 : decode cX6_sizeOf 22 = .ok (.aload_n 3, 1) ∧ decode cX6_sizeOf 23 = .ok (.getfield 28, 3) ∧ decode cX6_sizeOf 26 = .ok (.astore_n 3, 1) ∧ decode cX6_sizeOf 27 = .ok (.goto (-20), 3) ∧ decode cX6_sizeOf 30 = .ok (.iload_n 2, 1) ∧ decode cX6_sizeOf 31 = .ok (.ireturn, 1) := by decide +kernel
theorem D_X6_hasPart_0 : decode cX6_hasPart 0 = .ok (.aload_n 0, 1) ∧ decode cX6_hasPart 1 = .ok (.iload_n 1, 1) ∧ decode cX6_hasPart 2 = .ok (.invokevirtual 39, 3) ∧ decode cX6_hasPart 5 = .ok (.ifCond .le 7, 3) ∧ decode cX6_hasPart 8 = .ok (.iconst 1, 1) ∧ decode cX6_hasPart 9 = .ok (.goto 4, 3) ∧ decode cX6_hasPart 12 = .ok (.iconst 0, 1) ∧ decode cX6_hasPart 13 = .ok (.ireturn, 1) := by decide +kernel
theorem D_X6_renumber_0 : decode cX6_renumber 0 = .ok (.aload_n 0, 1) ∧ decode cX6_renumber 1 = .ok (.getfield 7, 3) ∧ decode cX6_renumber 4 = .ok (.astore_n 3, 1) ∧ decode cX6_renumber 5 = .ok (.aload_n 3, 1) ∧ decode cX6_renumber 6 = .ok (.ifnull 24, 3) ∧ decode cX6_renumber 9 = .ok (.aload_n 3, 1) ∧ decode cX6_renumber 10 = .ok (.getfield 43, 3) ∧ decode cX6_renumber 13 = .ok (.iload_n 1, 1) ∧ decode cX6_renumber 14 = .ok (.if_icmp .ne 8, 3) ∧ decode cX6_renumber 17 = .ok (.aload_n 3, 1) ∧ decode cX6_renumber 18 = .ok (.iload_n 2, 1) ∧ decode cX6_renumber 19 = .ok (.putfield 43, 3) := by decide +kernel
theorem D_X6_renumber_1 : decode cX6_renumber 22 = .ok (.aload_n 3, 1) ∧ decode cX6_renumber 23 = .ok (.getfield 28, 3) ∧ decode cX6_renumber 26 = .ok (.astore_n 3, 1) ∧ decode cX6_renumber 27 = .ok (.goto (-22), 3) ∧ decode cX6_renumber 30 = .ok (.return_, 1) := by decide +kernel
abbrev rm_X6_entryCount : Room := { frames := 0, cells := 0, slots := 0, locals := 0 }
set_option maxHeartbeats 4000000 in
set_option maxRecDepth 100000 in
theorem c_X6_entryCount (l : Launch) (G : xG) {K N : Nat → Nat} {I : Nat → Nat → Int32} {Q : Nat → Nat → Option Nat} {J : Nat → Nat → Int64} (t : Nat) (h : K t = 6) : XM l yX6_entryCount cX6_entryCount 1 (some .int) rm_X6_entryCount G Ri [.ref t] (K, N, I, Q, J) (fun r S1 => r = I t 1 ∧ S1 = (K, N, I, Q, J)) := by
  refine x_meti (lv := [_]) (by decide +kernel) (x_cc (by first | rfl | exact x_crf _) x_cn) (Nat.le_of_ble_eq_true rfl) rfl ?_
  intro pP eE sS mM aA bB hH cC Z C hini ret
  refine x_aload_n C D_X6_entryCount_0.1 rfl rfl (by first | exact Or.inr ⟨_, rfl⟩ | exact va_rf_or _ | exact Or.inl rfl) ?_
  refine x_getI C (ci := 5) (k0 := 1) (by assumption) (by decide) rfl (by decide) in_X6 k_154 rfl rfl D_X6_entryCount_0.2.1 ?_
  refine ret _ _ _ _ _ _ rfl D_X6_entryCount_0.2.2 (Nat.le_of_ble_eq_true rfl) (Nat.le_of_ble_eq_true rfl) ?_
  exact ⟨rfl, rfl⟩
abbrev rm_X6_living : Room := { frames := 0, cells := 0, slots := 0, locals := 0 }
set_option maxHeartbeats 4000000 in
set_option maxRecDepth 100000 in
theorem c_X6_living (l : Launch) (G : xG) {K N : Nat → Nat} {I : Nat → Nat → Int32} {Q : Nat → Nat → Option Nat} {J : Nat → Nat → Int64} (t : Nat) (h : K t = 6) : XM l yX6_living cX6_living 1 (some .int) rm_X6_living G Ri [.ref t] (K, N, I, Q, J) (fun r S1 => r = I t 2 ∧ S1 = (K, N, I, Q, J)) := by
  refine x_meti (lv := [_]) (by decide +kernel) (x_cc (by first | rfl | exact x_crf _) x_cn) (Nat.le_of_ble_eq_true rfl) rfl ?_
  intro pP eE sS mM aA bB hH cC Z C hini ret
  refine x_aload_n C D_X6_living_0.1 rfl rfl (by first | exact Or.inr ⟨_, rfl⟩ | exact va_rf_or _ | exact Or.inl rfl) ?_
  refine x_getI C (ci := 5) (k0 := 2) (by assumption) (by decide) rfl (by decide) in_X6 k_155 rfl rfl D_X6_living_0.2.1 ?_
  refine ret _ _ _ _ _ _ rfl D_X6_living_0.2.2 (Nat.le_of_ble_eq_true rfl) (Nat.le_of_ble_eq_true rfl) ?_
  exact ⟨rfl, rfl⟩
abbrev rm_X6_mergeCount : Room := { frames := 0, cells := 0, slots := 0, locals := 0 }
set_option maxHeartbeats 4000000 in
set_option maxRecDepth 100000 in
theorem c_X6_mergeCount (l : Launch) (G : xG) {K N : Nat → Nat} {I : Nat → Nat → Int32} {Q : Nat → Nat → Option Nat} {J : Nat → Nat → Int64} (t : Nat) (h : K t = 6) : XM l yX6_mergeCount cX6_mergeCount 1 (some .int) rm_X6_mergeCount G Ri [.ref t] (K, N, I, Q, J) (fun r S1 => r = I t 3 ∧ S1 = (K, N, I, Q, J)) := by
  refine x_meti (lv := [_]) (by decide +kernel) (x_cc (by first | rfl | exact x_crf _) x_cn) (Nat.le_of_ble_eq_true rfl) rfl ?_
  intro pP eE sS mM aA bB hH cC Z C hini ret
  refine x_aload_n C D_X6_mergeCount_0.1 rfl rfl (by first | exact Or.inr ⟨_, rfl⟩ | exact va_rf_or _ | exact Or.inl rfl) ?_
  refine x_getI C (ci := 5) (k0 := 3) (by assumption) (by decide) rfl (by decide) in_X6 k_156 rfl rfl D_X6_mergeCount_0.2.1 ?_
  refine ret _ _ _ _ _ _ rfl D_X6_mergeCount_0.2.2 (Nat.le_of_ble_eq_true rfl) (Nat.le_of_ble_eq_true rfl) ?_
  exact ⟨rfl, rfl⟩
abbrev rm_X6_find : Room := { frames := 0, cells := 0, slots := 0, locals := 0 }
set_option maxHeartbeats 4000000 in
set_option maxRecDepth 100000 in
theorem c_X6_find (l : Launch) (G : xG) {K N : Nat → Nat} {I : Nat → Nat → Int32} {Q : Nat → Nat → Option Nat} {J : Nat → Nat → Int64} (t c : Nat) (lst : List Nat) (cd : Nat → Nat) (h : K t = 6) (hC0 : CH K Q lst (Q t 0)) (hN0 : NE K I cd lst) (hc : c < 1999) : XM l yX6_find cX6_find 3 (some (.object "ScapegoatSpur$Entry")) rm_X6_find G Rq [.ref t, .int (cv1 c)] (K, N, I, Q, J) (fun r S1 => r = lst.find? (fun a => decide (cd a = c)) ∧ S1 = (K, N, I, Q, J)) := by
  refine x_metq (lv := [_, _, _]) (by decide +kernel) (x_cc (by first | rfl | exact x_crf _) (x_cc (by first | rfl | exact x_crf _) x_cn)) (Nat.le_of_ble_eq_true rfl) rfl ?_
  intro pP eE sS mM aA bB hH cC Z C hini ret
  refine x_aload_n C D_X6_find_0.1 rfl rfl (by first | exact Or.inr ⟨_, rfl⟩ | exact va_rf_or _ | exact Or.inl rfl) ?_
  refine x_getQ C (ci := 5) (k0 := 0) h (by decide) rfl (by decide) in_X6 k_153 rfl rfl D_X6_find_0.2.1 ?_
  refine x_eqq _ (rfl : Q t 0 = Q t 0) ?_
  refine x_astore_n C (lv' := [_, _, _]) D_X6_find_0.2.2.1 rfl (Nat.le_of_ble_eq_true rfl) (by first | rfl | exact x_ok_q rfl) (by first | exact Or.inr ⟨_, rfl⟩ | exact va_rf_or _ | exact Or.inl rfl) rfl ?_
  have L_5 : ∀ (w_5 : Nat) (B : List Nat) (o : Option Nat), B.length < w_5 → (CH K Q B o) → (NE K I cd B) → (B.find? (fun a => decide (cd a = c)) = lst.find? (fun a => decide (cd a = c))) → XW pP l eE rm_X6_find sS mM aA bB hH cC G Z 0 0 (K, N, I, Q, J) 5 [some (.ref t), some (.int (cv1 c)), some (va_rf o)] [] := by
    intro w_5
    induction w_5 with
    | zero =>
      intro B o hw_5
      exact absurd hw_5 (Nat.not_lt_zero _)
    | succ w_5 ih_5 =>
      intro B o hw_5 hC hNB hF
      refine x_aload_n C D_X6_find_0.2.2.2.1 rfl rfl (by first | exact Or.inr ⟨_, rfl⟩ | exact va_rf_or _ | exact Or.inl rfl) ?_
      refine x_ifnull C 27 D_X6_find_0.2.2.2.2.1 (by decide) (fun e_6 => ?_) (fun a9 e_6 => ?_)
      · skip
        subst e_6
        obtain rfl := hC.none
        refine x_null C D_X6_find_1.2.2.2.1 ?_
        refine ret _ _ _ _ _ _ _ ⟨_, rfl⟩ D_X6_find_1.2.2.2.2 (Nat.le_of_ble_eq_true rfl) (Nat.le_of_ble_eq_true rfl) (by first | exact rfl | exact (rfl : _ = va_rf (some _)) | exact (rfl : _ = va_rf none)) ?_
        exact ⟨by rw [← hF]; rfl, rfl⟩
      · skip
        subst e_6
        obtain ⟨l9, rfl, hk9, hCl⟩ := hC.some
        obtain ⟨hn1, hn2, hn3⟩ := hNB a9 (by simp)
        refine x_aload_n C D_X6_find_0.2.2.2.2.2.1 rfl rfl (by first | exact Or.inr ⟨_, rfl⟩ | exact va_rf_or _ | exact Or.inl rfl) ?_
        refine x_getI C (ci := 0) (k0 := 0) hk9 (by decide) rfl (by decide) in_X0 k_679 rfl rfl D_X6_find_0.2.2.2.2.2.2.1 ?_
        refine x_eqi _ hn2 ?_
        refine x_iload_n C D_X6_find_0.2.2.2.2.2.2.2.1 rfl rfl ?_
        refine x_icmp_ne C 19 D_X6_find_0.2.2.2.2.2.2.2.2.1 (by decide) (fun c_14 => ?_) (fun c_14 => ?_)
        · skip
          have c1 : ¬ cd a9 = c := fun h => c_14 (by rw [h])
          refine x_aload_n C D_X6_find_0.2.2.2.2.2.2.2.2.2.2.2 rfl rfl (by first | exact Or.inr ⟨_, rfl⟩ | exact va_rf_or _ | exact Or.inl rfl) ?_
          refine x_getQ C (ci := 0) (k0 := 3) hk9 (by decide) rfl (by decide) in_X0 k_686 rfl rfl D_X6_find_1.1 ?_
          refine x_eqq _ (rfl : Q a9 3 = Q a9 3) ?_
          refine x_astore_n C (lv' := [_, _, _]) D_X6_find_1.2.1 rfl (Nat.le_of_ble_eq_true rfl) (by first | rfl | exact x_ok_q rfl) (by first | exact Or.inr ⟨_, rfl⟩ | exact va_rf_or _ | exact Or.inl rfl) rfl ?_
          refine x_goto C 5 D_X6_find_1.2.2.1 (by decide) ?_
          exact ih_5 l9 _ (by simp only [List.length_cons] at hw_5; omega) hCl (fun a ha => hNB a (by simp [ha])) (by rw [← hF]; simp [c1])
        · skip
          have c1 : cd a9 = c := (cv1_eq hn3 hc).mp c_14
          refine x_aload_n C D_X6_find_0.2.2.2.2.2.2.2.2.2.1 rfl rfl (by first | exact Or.inr ⟨_, rfl⟩ | exact va_rf_or _ | exact Or.inl rfl) ?_
          refine ret _ _ _ _ _ _ _ ⟨_, rfl⟩ D_X6_find_0.2.2.2.2.2.2.2.2.2.2.1 (Nat.le_of_ble_eq_true rfl) (Nat.le_of_ble_eq_true rfl) (by first | exact rfl | exact (rfl : _ = va_rf (some _)) | exact (rfl : _ = va_rf none)) ?_
          exact ⟨by rw [← hF]; simp [c1], rfl⟩
  exact L_5 _ lst _ (Nat.lt_succ_self _) hC0 hN0 rfl
abbrev rm_X6_sizeOf : Room := { frames := 0, cells := 0, slots := 0, locals := 0 }
set_option maxHeartbeats 4000000 in
set_option maxRecDepth 100000 in
theorem c_X6_sizeOf (l : Launch) (G : xG) {K N : Nat → Nat} {I : Nat → Nat → Int32} {Q : Nat → Nat → Option Nat} {J : Nat → Nat → Int64} (t : Nat) (x : Int32) (lst : List Nat) (h : K t = 6) (hC0 : CH K Q lst (Q t 0)) : XM l yX6_sizeOf cX6_sizeOf 4 (some .int) rm_X6_sizeOf G Ri [.ref t, .int x] (K, N, I, Q, J) (fun r S1 => r = nI (ccnt (fun a => decide (I a 2 = x)) lst) ∧ S1 = (K, N, I, Q, J)) := by
  refine x_meti (lv := [_, _, _, _]) (by decide +kernel) (x_cc (by first | rfl | exact x_crf _) (x_cc (by first | rfl | exact x_crf _) x_cn)) (Nat.le_of_ble_eq_true rfl) rfl ?_
  intro pP eE sS mM aA bB hH cC Z C hini ret
  refine x_iconst C (v := nI 0) D_X6_sizeOf_0.1 (by decide +kernel) ?_
  refine x_istore_n C (lv' := [_, _, _, _]) D_X6_sizeOf_0.2.1 rfl (Nat.le_of_ble_eq_true rfl) (by first | rfl | exact x_ok_q rfl) rfl ?_
  refine x_aload_n C D_X6_sizeOf_0.2.2.1 rfl rfl (by first | exact Or.inr ⟨_, rfl⟩ | exact va_rf_or _ | exact Or.inl rfl) ?_
  refine x_getQ C (ci := 5) (k0 := 0) h (by decide) rfl (by decide) in_X6 k_153 rfl rfl D_X6_sizeOf_0.2.2.2.1 ?_
  refine x_eqq _ (rfl : Q t 0 = Q t 0) ?_
  refine x_astore_n C (lv' := [_, _, _, _]) D_X6_sizeOf_0.2.2.2.2.1 rfl (Nat.le_of_ble_eq_true rfl) (by first | rfl | exact x_ok_q rfl) (by first | exact Or.inr ⟨_, rfl⟩ | exact va_rf_or _ | exact Or.inl rfl) rfl ?_
  have L_7 : ∀ (w_7 : Nat) (B : List Nat) (o : Option Nat) (n0 : Nat), B.length < w_7 → (CH K Q B o) → (n0 + ccnt (fun a => decide (I a 2 = x)) B = ccnt (fun a => decide (I a 2 = x)) lst) → XW pP l eE rm_X6_sizeOf sS mM aA bB hH cC G Z 0 0 (K, N, I, Q, J) 7 [some (.ref t), some (.int x), some (.int (nI n0)), some (va_rf o)] [] := by
    intro w_7
    induction w_7 with
    | zero =>
      intro B o n0 hw_7
      exact absurd hw_7 (Nat.not_lt_zero _)
    | succ w_7 ih_7 =>
      intro B o n0 hw_7 hC hF
      refine x_aload_n C D_X6_sizeOf_0.2.2.2.2.2.1 rfl rfl (by first | exact Or.inr ⟨_, rfl⟩ | exact va_rf_or _ | exact Or.inl rfl) ?_
      refine x_ifnull C 30 D_X6_sizeOf_0.2.2.2.2.2.2.1 (by decide) (fun e_8 => ?_) (fun a9 e_8 => ?_)
      · skip
        subst e_8
        obtain rfl := hC.none
        refine x_iload_n C D_X6_sizeOf_1.2.2.2.2.1 rfl rfl ?_
        refine ret _ _ _ _ _ _ rfl D_X6_sizeOf_1.2.2.2.2.2 (Nat.le_of_ble_eq_true rfl) (Nat.le_of_ble_eq_true rfl) ?_
        exact ⟨by rw [← hF]; rfl, rfl⟩
      · skip
        subst e_8
        obtain ⟨l9, rfl, hk9, hCl⟩ := hC.some
        refine x_aload_n C D_X6_sizeOf_0.2.2.2.2.2.2.2.1 rfl rfl (by first | exact Or.inr ⟨_, rfl⟩ | exact va_rf_or _ | exact Or.inl rfl) ?_
        refine x_getI C (ci := 0) (k0 := 2) hk9 (by decide) rfl (by decide) in_X0 k_684 rfl rfl D_X6_sizeOf_0.2.2.2.2.2.2.2.2.1 ?_
        refine x_iload_n C D_X6_sizeOf_0.2.2.2.2.2.2.2.2.2.1 rfl rfl ?_
        refine x_icmp_ne C 22 D_X6_sizeOf_0.2.2.2.2.2.2.2.2.2.2.1 (by decide) (fun c_16 => ?_) (fun c_16 => ?_)
        · skip
          refine x_aload_n C D_X6_sizeOf_1.1 rfl rfl (by first | exact Or.inr ⟨_, rfl⟩ | exact va_rf_or _ | exact Or.inl rfl) ?_
          refine x_getQ C (ci := 0) (k0 := 3) hk9 (by decide) rfl (by decide) in_X0 k_686 rfl rfl D_X6_sizeOf_1.2.1 ?_
          refine x_eqq _ (rfl : Q a9 3 = Q a9 3) ?_
          refine x_astore_n C (lv' := [_, _, _, _]) D_X6_sizeOf_1.2.2.1 rfl (Nat.le_of_ble_eq_true rfl) (by first | rfl | exact x_ok_q rfl) (by first | exact Or.inr ⟨_, rfl⟩ | exact va_rf_or _ | exact Or.inl rfl) rfl ?_
          refine x_goto C 7 D_X6_sizeOf_1.2.2.2.1 (by decide) ?_
          exact ih_7 l9 _ n0 (by simp only [List.length_cons] at hw_7; omega) hCl (by rw [← hF]; simp [ccnt, c_16])
        · skip
          refine x_iinc C (lv' := [_, _, _, _]) D_X6_sizeOf_0.2.2.2.2.2.2.2.2.2.2.2 rfl (x_inc_1 _) (by first | rfl | exact x_ok_q rfl) rfl ?_
          refine x_lv (lv := [_, _, some (.int (nI (n0 + 1))), _]) (by rw [nI_add]) ?_
          refine x_aload_n C D_X6_sizeOf_1.1 rfl rfl (by first | exact Or.inr ⟨_, rfl⟩ | exact va_rf_or _ | exact Or.inl rfl) ?_
          refine x_getQ C (ci := 0) (k0 := 3) hk9 (by decide) rfl (by decide) in_X0 k_686 rfl rfl D_X6_sizeOf_1.2.1 ?_
          refine x_eqq _ (rfl : Q a9 3 = Q a9 3) ?_
          refine x_astore_n C (lv' := [_, _, _, _]) D_X6_sizeOf_1.2.2.1 rfl (Nat.le_of_ble_eq_true rfl) (by first | rfl | exact x_ok_q rfl) (by first | exact Or.inr ⟨_, rfl⟩ | exact va_rf_or _ | exact Or.inl rfl) rfl ?_
          refine x_goto C 7 D_X6_sizeOf_1.2.2.2.1 (by decide) ?_
          exact ih_7 l9 _ (n0 + 1) (by simp only [List.length_cons] at hw_7; omega) hCl (by rw [← hF]; simp [ccnt, c_16]; omega)
  exact L_7 _ lst _ 0 (Nat.lt_succ_self _) hC0 (Nat.zero_add _)
