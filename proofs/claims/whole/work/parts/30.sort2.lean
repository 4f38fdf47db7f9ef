theorem D_X6_livingBelow_0 : decode cX6_livingBelow 0 = .ok (.iconst 0, 1) ∧ decode cX6_livingBelow 1 = .ok (.istore_n 2, 1) ∧ decode cX6_livingBelow 2 = .ok (.aload_n 0, 1) ∧ decode cX6_livingBelow 3 = .ok (.getfield 7, 3) ∧ decode cX6_livingBelow 6 = .ok (.astore_n 3, 1) ∧ decode cX6_livingBelow 7 = .ok (.aload_n 3, 1) ∧ decode cX6_livingBelow 8 = .ok (.ifnull 29, 3) ∧ decode cX6_livingBelow 11 = .ok (.aload_n 3, 1) ∧ decode cX6_livingBelow 12 = .ok (.getfield 23, 3) ∧ decode cX6_livingBelow 15 = .ok (.iload_n 1, 1) ∧ decode cX6_livingBelow 16 = .ok (.if_icmp .ge 21, 3) ∧ decode cX6_livingBelow 19 = .ok (.aload_n 3, 1) := by decide +kernel
theorem D_X6_livingBelow_1 : decode cX6_livingBelow 20 = .ok (.getfield 35, 3) ∧ decode cX6_livingBelow 23 = .ok (.ifCond .eq 6, 3) ∧ decode cX6_livingBelow 26 = .ok (.iinc 2 1, 3) ∧ decode cX6_livingBelow 29 = .ok (.aload_n 3, 1) ∧ decode cX6_livingBelow 30 = .ok (.getfield 28, 3) ∧ decode cX6_livingBelow 33 = .ok (.astore_n 3, 1) ∧ decode cX6_livingBelow 34 = .ok (.goto (-27), 3) ∧ decode cX6_livingBelow 37 = .ok (.iload_n 2, 1) ∧ decode cX6_livingBelow 38 = .ok (.ireturn, 1) := by decide +kernel
theorem D_X6_livingWithRank_0 : decode cX6_livingWithRank 0 = .ok (.iconst 0, 1) ∧ decode cX6_livingWithRank 1 = .ok (.istore_n 2, 1) ∧ decode cX6_livingWithRank 2 = .ok (.aload_n 0, 1) ∧ decode cX6_livingWithRank 3 = .ok (.getfield 7, 3) ∧ decode cX6_livingWithRank 6 = .ok (.astore_n 3, 1) ∧ decode cX6_livingWithRank 7 = .ok (.aload_n 3, 1) ∧ decode cX6_livingWithRank 8 = .ok (.ifnull 28, 3) ∧ decode cX6_livingWithRank 11 = .ok (.aload_n 3, 1) ∧ decode cX6_livingWithRank 12 = .ok (.getfield 35, 3) ∧ decode cX6_livingWithRank 15 = .ok (.ifCond .eq 13, 3) ∧ decode cX6_livingWithRank 18 = .ok (.iload_n 2, 1) ∧ decode cX6_livingWithRank 19 = .ok (.iload_n 1, 1) := by decide +kernel
theorem D_X6_livingWithRank_1 : decode cX6_livingWithRank 20 = .ok (.if_icmp .ne 5, 3) ∧ decode cX6_livingWithRank 23 = .ok (.aload_n 3, 1) ∧ decode cX6_livingWithRank 24 = .ok (.areturn, 1) ∧ decode cX6_livingWithRank 25 = .ok (.iinc 2 1, 3) ∧ decode cX6_livingWithRank 28 = .ok (.aload_n 3, 1) ∧ decode cX6_livingWithRank 29 = .ok (.getfield 28, 3) ∧ decode cX6_livingWithRank 32 = .ok (.astore_n 3, 1) ∧ decode cX6_livingWithRank 33 = .ok (.goto (-26), 3) ∧ decode cX6_livingWithRank 36 = .ok (.aconst_null, 1) ∧ decode cX6_livingWithRank 37 = .ok (.areturn, 1) := by decide +kernel
theorem D_X6_entryAt_0 : decode cX6_entryAt 0 = .ok (.iconst 0, 1) ∧ decode cX6_entryAt 1 = .ok (.istore_n 3, 1) ∧ decode cX6_entryAt 2 = .ok (.aload_n 0, 1) ∧ decode cX6_entryAt 3 = .ok (.getfield 7, 3) ∧ decode cX6_entryAt 6 = .ok (.astore 4, 2) ∧ decode cX6_entryAt 8 = .ok (.aload 4, 2) ∧ decode cX6_entryAt 10 = .ok (.ifnull 33, 3) ∧ decode cX6_entryAt 13 = .ok (.aload 4, 2) ∧ decode cX6_entryAt 15 = .ok (.getfield 43, 3) ∧ decode cX6_entryAt 18 = .ok (.iload_n 1, 1) ∧ decode cX6_entryAt 19 = .ok (.if_icmp .ne 14, 3) ∧ decode cX6_entryAt 22 = .ok (.iload_n 3, 1) := by decide +kernel
theorem D_X6_entryAt_1 : decode cX6_entryAt 23 = .ok (.iload_n 2, 1) ∧ decode cX6_entryAt 24 = .ok (.if_icmp .ne 6, 3) ∧ decode cX6_entryAt 27 = .ok (.aload 4, 2) ∧ decode cX6_entryAt 29 = .ok (.areturn, 1) ∧ decode cX6_entryAt 30 = .ok (.iinc 3 1, 3) ∧ decode cX6_entryAt 33 = .ok (.aload 4, 2) ∧ decode cX6_entryAt 35 = .ok (.getfield 28, 3) ∧ decode cX6_entryAt 38 = .ok (.astore 4, 2) ∧ decode cX6_entryAt 40 = .ok (.goto (-32), 3) ∧ decode cX6_entryAt 43 = .ok (.aconst_null, 1) ∧ decode cX6_entryAt 44 = .ok (.areturn, 1) := by decide +kernel
abbrev rm_X6_holds : Room := { frames := 1, cells := 0, slots := 0, locals := 22 }
theorem hd_X6_find : yX6_find.cls ≠ "java/lang/invoke/MethodHandle" ∧ yX6_find.cls ≠ "java/lang/invoke/VarHandle" ∧ (parseMethodDescriptor yX6_find.desc).map (fun d => d.parameters.length) = some 1 := by decide +kernel
set_option maxHeartbeats 4000000 in
set_option maxRecDepth 100000 in
theorem c_X6_holds (l : Launch) (G : xG) {K N : Nat → Nat} {I : Nat → Nat → Int32} {Q : Nat → Nat → Option Nat} {J : Nat → Nat → Int64} (t c : Nat) (lst : List Nat) (cd : Nat → Nat) (h : K t = 6) (hC0 : CH K Q lst (Q t 0)) (hN0 : NE K I cd lst) (hc : c < 1999) : XM l yX6_holds cX6_holds 3 (some .boolean) rm_X6_holds G Rz [.ref t, .int (cv1 c)] (K, N, I, Q, J) (fun r S1 => r = ((lst.find? (fun a => decide (cd a = c))).map (alv I)).getD false ∧ S1 = (K, N, I, Q, J)) := by
  refine x_metz (lv := [_, _, _]) (by decide +kernel) (x_cc (by first | rfl | exact x_crf _) (x_cc (by first | rfl | exact x_crf _) x_cn)) (Nat.le_of_ble_eq_true rfl) rfl ?_
  intro pP eE sS mM aA bB hH cC Z C hini ret
  refine x_aload_n C D_X6_holds_0.1 rfl rfl (by first | exact Or.inr ⟨_, rfl⟩ | exact va_rf_or _ | exact Or.inl rfl) ?_
  refine x_iload_n C D_X6_holds_0.2.1 rfl rfl ?_
  refine x_callVq C (y := yX6_find) (c_X6_find l G t c lst cd h hC0 hN0 hc) (ci := 5) h (by decide) rfl rfl k_200 k_201 k_202 k_65 k_203 hd_X6_find ⟨(Nat.le_of_ble_eq_true rfl), (Nat.le_of_ble_eq_true rfl)⟩ rfl (by first | exact Nat.le_of_ble_eq_true rfl | simp [x_crf, Value.category]) rfl rfl D_X6_holds_0.2.2.1 ⟨(Nat.le_of_ble_eq_true rfl), (Nat.le_of_ble_eq_true rfl)⟩ (fun r_2 S_2 h_2 => ?_)
  obtain ⟨hr, rfl⟩ := h_2
  refine x_astore_n C (lv' := [_, _, _]) D_X6_holds_0.2.2.2.1 rfl (Nat.le_of_ble_eq_true rfl) (by first | rfl | exact x_ok_q rfl) (by first | exact Or.inr ⟨_, rfl⟩ | exact va_rf_or _ | exact Or.inl rfl) rfl ?_
  refine x_aload_n C D_X6_holds_0.2.2.2.2.1 rfl rfl (by first | exact Or.inr ⟨_, rfl⟩ | exact va_rf_or _ | exact Or.inl rfl) ?_
  refine x_ifnull C 21 D_X6_holds_0.2.2.2.2.2.1 (by decide) (fun e_7 => ?_) (fun q e_7 => ?_)
  · skip
    subst e_7
    refine x_iconst C (v := nI 0) D_X6_holds_0.2.2.2.2.2.2.2.2.2.2.2 (by decide +kernel) ?_
    refine ret _ _ _ _ _ _ false rfl D_X6_holds_1 (Nat.le_of_ble_eq_true rfl) (Nat.le_of_ble_eq_true rfl) rfl ?_
    exact ⟨by rw [← hr]; rfl, rfl⟩
  · skip
    subst e_7
    have hq1 := (hN0 q (List.mem_of_find?_eq_some hr.symm)).1
    refine x_aload_n C D_X6_holds_0.2.2.2.2.2.2.1 rfl rfl (by first | exact Or.inr ⟨_, rfl⟩ | exact va_rf_or _ | exact Or.inl rfl) ?_
    refine x_getI C (ci := 0) (k0 := 1) hq1 (by decide) rfl (by decide) in_X0 k_682 rfl rfl D_X6_holds_0.2.2.2.2.2.2.2.1 ?_
    refine x_if_eq C 21 D_X6_holds_0.2.2.2.2.2.2.2.2.1 (by decide) (fun c_14 => ?_) (fun c_14 => ?_)
    · skip
      have c1 : alv I q = false := by simp [alv, c_14]
      refine x_iconst C (v := nI 0) D_X6_holds_0.2.2.2.2.2.2.2.2.2.2.2 (by decide +kernel) ?_
      refine ret _ _ _ _ _ _ false rfl D_X6_holds_1 (Nat.le_of_ble_eq_true rfl) (Nat.le_of_ble_eq_true rfl) rfl ?_
      exact ⟨by rw [← hr]; simp [c1], rfl⟩
    · skip
      have c1 : alv I q = true := by simp [alv, c_14]
      refine x_iconst C (v := nI 1) D_X6_holds_0.2.2.2.2.2.2.2.2.2.1 (by decide +kernel) ?_
      refine x_goto C 22 D_X6_holds_0.2.2.2.2.2.2.2.2.2.2.1 (by decide) ?_
      refine ret _ _ _ _ _ _ true rfl D_X6_holds_1 (Nat.le_of_ble_eq_true rfl) (Nat.le_of_ble_eq_true rfl) rfl ?_
      exact ⟨by rw [← hr]; simp [c1], rfl⟩
abbrev rm_X6_hasPart : Room := { frames := 1, cells := 0, slots := 0, locals := 23 }
theorem hd_X6_sizeOf : yX6_sizeOf.cls ≠ "java/lang/invoke/MethodHandle" ∧ yX6_sizeOf.cls ≠ "java/lang/invoke/VarHandle" ∧ (parseMethodDescriptor yX6_sizeOf.desc).map (fun d => d.parameters.length) = some 1 := by decide +kernel
set_option maxHeartbeats 4000000 in
set_option maxRecDepth 100000 in
theorem c_X6_hasPart (l : Launch) (G : xG) {K N : Nat → Nat} {I : Nat → Nat → Int32} {Q : Nat → Nat → Option Nat} {J : Nat → Nat → Int64} (t : Nat) (x : Int32) (lst : List Nat) (h : K t = 6) (hC0 : CH K Q lst (Q t 0)) (hl : lst.length < 1000) : XM l yX6_hasPart cX6_hasPart 2 (some .boolean) rm_X6_hasPart G Rz [.ref t, .int x] (K, N, I, Q, J) (fun r S1 => r = decide (0 < ccnt (fun a => decide (I a 2 = x)) lst) ∧ S1 = (K, N, I, Q, J)) := by
  refine x_metz (lv := [_, _]) (by decide +kernel) (x_cc (by first | rfl | exact x_crf _) (x_cc (by first | rfl | exact x_crf _) x_cn)) (Nat.le_of_ble_eq_true rfl) rfl ?_
  intro pP eE sS mM aA bB hH cC Z C hini ret
  have hcl : ccnt (fun a => decide (I a 2 = x)) lst ≤ lst.length := ccnt_le _ _
  refine x_aload_n C D_X6_hasPart_0.1 rfl rfl (by first | exact Or.inr ⟨_, rfl⟩ | exact va_rf_or _ | exact Or.inl rfl) ?_
  refine x_iload_n C D_X6_hasPart_0.2.1 rfl rfl ?_
  refine x_callVi C (y := yX6_sizeOf) (c_X6_sizeOf l G t x lst h hC0) (ci := 5) h (by decide) rfl rfl k_704 k_706 k_33 k_65 k_707 hd_X6_sizeOf ⟨(Nat.le_of_ble_eq_true rfl), (Nat.le_of_ble_eq_true rfl)⟩ rfl (by first | exact Nat.le_of_ble_eq_true rfl | simp [x_crf, Value.category]) rfl rfl D_X6_hasPart_0.2.2.1 ⟨(Nat.le_of_ble_eq_true rfl), (Nat.le_of_ble_eq_true rfl)⟩ (fun r_2 S_2 h_2 => ?_)
  obtain ⟨rfl, rfl⟩ := h_2
  refine x_if_le C 12 D_X6_hasPart_0.2.2.2.1 (by decide) (fun c_5 => ?_) (fun c_5 => ?_)
  · skip
    have c1 : ¬ 0 < ccnt (fun a => decide (I a 2 = x)) lst := fun h1 => by
      have h9 := (nI_leI (a := ccnt (fun a => decide (I a 2 = x)) lst) (b := 0) (by omega) (by omega)).mp c_5
      omega
    refine x_iconst C (v := nI 0) D_X6_hasPart_0.2.2.2.2.2.2.1 (by decide +kernel) ?_
    refine ret _ _ _ _ _ _ false rfl D_X6_hasPart_0.2.2.2.2.2.2.2 (Nat.le_of_ble_eq_true rfl) (Nat.le_of_ble_eq_true rfl) rfl ?_
    exact ⟨by simp [c1], rfl⟩
  · skip
    have c1 : 0 < ccnt (fun a => decide (I a 2 = x)) lst := by
      rcases Nat.eq_zero_or_pos (ccnt (fun a => decide (I a 2 = x)) lst) with h1 | h1
      · exact absurd ((nI_leI (a := ccnt (fun a => decide (I a 2 = x)) lst) (b := 0) (by omega) (by omega)).mpr (by omega)) c_5
      · exact h1
    refine x_iconst C (v := nI 1) D_X6_hasPart_0.2.2.2.2.1 (by decide +kernel) ?_
    refine x_goto C 13 D_X6_hasPart_0.2.2.2.2.2.1 (by decide) ?_
    refine ret _ _ _ _ _ _ true rfl D_X6_hasPart_0.2.2.2.2.2.2.2 (Nat.le_of_ble_eq_true rfl) (Nat.le_of_ble_eq_true rfl) rfl ?_
    exact ⟨by simp [c1], rfl⟩
abbrev rm_X6_renumber : Room := { frames := 0, cells := 0, slots := 0, locals := 0 }
set_option maxHeartbeats 4000000 in
set_option maxRecDepth 100000 in
theorem c_X6_renumber (l : Launch) (G : xG) {K N : Nat → Nat} {I : Nat → Nat → Int32} {Q : Nat → Nat → Option Nat} {J : Nat → Nat → Int64} (t : Nat) (x y : Int32) (lst : List Nat) (h : K t = 6) (hC0 : CH K Q lst (Q t 0)) (hn : lst.Nodup) : XM l yX6_renumber cX6_renumber 4 none rm_X6_renumber G Rv [.ref t, .int x, .int y] (K, N, I, Q, J) (fun _ S1 => ∃ I1, S1 = (K, N, I1, Q, J) ∧ ∀ a j, I1 a j = if a ∈ lst ∧ j = 2 ∧ I a 2 = x then y else I a j) := by
  refine x_metv (lv := [_, _, _, _]) (by decide +kernel) (x_cc (by first | rfl | exact x_crf _) (x_cc (by first | rfl | exact x_crf _) (x_cc (by first | rfl | exact x_crf _) x_cn))) (Nat.le_of_ble_eq_true rfl) rfl ?_
  intro pP eE sS mM aA bB hH cC Z C hini ret
  refine x_aload_n C D_X6_renumber_0.1 rfl rfl (by first | exact Or.inr ⟨_, rfl⟩ | exact va_rf_or _ | exact Or.inl rfl) ?_
  refine x_getQ C (ci := 5) (k0 := 0) h (by decide) rfl (by decide) in_X6 k_153 rfl rfl D_X6_renumber_0.2.1 ?_
  refine x_eqq _ (rfl : Q t 0 = Q t 0) ?_
  refine x_astore_n C (lv' := [_, _, _, _]) D_X6_renumber_0.2.2.1 rfl (Nat.le_of_ble_eq_true rfl) (by first | rfl | exact x_ok_q rfl) (by first | exact Or.inr ⟨_, rfl⟩ | exact va_rf_or _ | exact Or.inl rfl) rfl ?_
  have L_5 : ∀ (w_5 : Nat) (B DD : List Nat) (o : Option Nat) (I1 : Nat → Nat → Int32), B.length < w_5 → (CH K Q B o) → (lst = DD ++ B) → (∀ a j, I1 a j = if a ∈ DD ∧ j = 2 ∧ I a 2 = x then y else I a j) → XW pP l eE rm_X6_renumber sS mM aA bB hH cC G Z 0 0 (K, N, I1, Q, J) 5 [some (.ref t), some (.int x), some (.int y), some (va_rf o)] [] := by
    intro w_5
    induction w_5 with
    | zero =>
      intro B DD o I1 hw_5
      exact absurd hw_5 (Nat.not_lt_zero _)
    | succ w_5 ih_5 =>
      intro B DD o I1 hw_5 hC hL hI1
      refine x_aload_n C D_X6_renumber_0.2.2.2.1 rfl rfl (by first | exact Or.inr ⟨_, rfl⟩ | exact va_rf_or _ | exact Or.inl rfl) ?_
      refine x_ifnull C 30 D_X6_renumber_0.2.2.2.2.1 (by decide) (fun e_6 => ?_) (fun a9 e_6 => ?_)
      · skip
        subst e_6
        obtain rfl := hC.none
        refine ret _ _ _ _ _ rfl D_X6_renumber_1.2.2.2.2 (Nat.le_of_ble_eq_true rfl) (Nat.le_of_ble_eq_true rfl) ?_
        exact ⟨I1, rfl, by rw [hL, List.append_nil]; exact hI1⟩
      · skip
        subst e_6
        obtain ⟨l9, rfl, hk9, hCl⟩ := hC.some
        have ha9 : a9 ∉ DD := fun hm => by
          rw [hL, List.nodup_append] at hn
          exact hn.2.2 a9 hm a9 (by simp) rfl
        have hi9 : I1 a9 2 = I a9 2 := by rw [hI1, if_neg (fun e => ha9 e.1)]
        refine x_aload_n C D_X6_renumber_0.2.2.2.2.2.1 rfl rfl (by first | exact Or.inr ⟨_, rfl⟩ | exact va_rf_or _ | exact Or.inl rfl) ?_
        refine x_getI C (ci := 0) (k0 := 2) hk9 (by decide) rfl (by decide) in_X0 k_684 rfl rfl D_X6_renumber_0.2.2.2.2.2.2.1 ?_
        refine x_eqi _ hi9 ?_
        refine x_iload_n C D_X6_renumber_0.2.2.2.2.2.2.2.1 rfl rfl ?_
        refine x_icmp_ne C 22 D_X6_renumber_0.2.2.2.2.2.2.2.2.1 (by decide) (fun c_14 => ?_) (fun c_14 => ?_)
        · skip
          refine x_aload_n C D_X6_renumber_1.1 rfl rfl (by first | exact Or.inr ⟨_, rfl⟩ | exact va_rf_or _ | exact Or.inl rfl) ?_
          refine x_getQ C (ci := 0) (k0 := 3) hk9 (by decide) rfl (by decide) in_X0 k_686 rfl rfl D_X6_renumber_1.2.1 ?_
          refine x_eqq _ (rfl : Q a9 3 = Q a9 3) ?_
          refine x_astore_n C (lv' := [_, _, _, _]) D_X6_renumber_1.2.2.1 rfl (Nat.le_of_ble_eq_true rfl) (by first | rfl | exact x_ok_q rfl) (by first | exact Or.inr ⟨_, rfl⟩ | exact va_rf_or _ | exact Or.inl rfl) rfl ?_
          refine x_goto C 5 D_X6_renumber_1.2.2.2.1 (by decide) ?_
          refine ih_5 l9 (DD ++ [a9]) _ I1 (by simp only [List.length_cons] at hw_5; omega) hCl (by rw [hL]; simp) (fun a j => ?_)
          rw [hI1]
          by_cases e : a = a9
          · subst e
            rw [if_neg (fun e => ha9 e.1), if_neg (fun e => c_14 e.2.2)]
          · simp [e]
        · skip
          refine x_aload_n C D_X6_renumber_0.2.2.2.2.2.2.2.2.2.1 rfl rfl (by first | exact Or.inr ⟨_, rfl⟩ | exact va_rf_or _ | exact Or.inl rfl) ?_
          refine x_iload_n C D_X6_renumber_0.2.2.2.2.2.2.2.2.2.2.1 rfl rfl ?_
          refine x_putI C (ci := 0) (k0 := 2) hk9 (by decide) rfl (by decide) in_X0 k_684 rfl tyX0 tyX0_ok nmX0 rfl (by rfl) rfl rfl rfl D_X6_renumber_0.2.2.2.2.2.2.2.2.2.2.2 (fun I2 eI2 => ?_)
          refine x_aload_n C D_X6_renumber_1.1 rfl rfl (by first | exact Or.inr ⟨_, rfl⟩ | exact va_rf_or _ | exact Or.inl rfl) ?_
          refine x_getQ C (ci := 0) (k0 := 3) hk9 (by decide) rfl (by decide) in_X0 k_686 rfl rfl D_X6_renumber_1.2.1 ?_
          refine x_eqq _ (rfl : Q a9 3 = Q a9 3) ?_
          refine x_astore_n C (lv' := [_, _, _, _]) D_X6_renumber_1.2.2.1 rfl (Nat.le_of_ble_eq_true rfl) (by first | rfl | exact x_ok_q rfl) (by first | exact Or.inr ⟨_, rfl⟩ | exact va_rf_or _ | exact Or.inl rfl) rfl ?_
          refine x_goto C 5 D_X6_renumber_1.2.2.2.1 (by decide) ?_
          refine ih_5 l9 (DD ++ [a9]) _ I2 (by simp only [List.length_cons] at hw_5; omega) hCl (by rw [hL]; simp) (fun a j => ?_)
          rw [eI2]
          by_cases e : a = a9
          · subst e
            by_cases e2 : j = 2
            · subst e2; rw [x_u2_s, if_pos ⟨by simp, rfl, c_14⟩]
            · rw [x_u2_j _ _ e2, hI1, if_neg (fun e => e2 e.2.1), if_neg (fun e => e2 e.2.1)]
          · rw [x_u2_a _ _ e, hI1]; simp [e]
  exact L_5 _ lst [] _ I (Nat.lt_succ_self _) hC0 rfl (fun a j => by rw [if_neg (fun e => by simp at e)])
