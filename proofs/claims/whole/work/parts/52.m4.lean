theorem D_X9_growTree_0 : decode cX9_growTree 0 = .ok (.aload_n 0, 1) ∧ decode cX9_growTree 1 = .ok (.getfield 17, 3) ∧ decode cX9_growTree 4 = .ok (.iload_n 1, 1) ∧ decode cX9_growTree 5 = .ok (.iaload, 1) ∧ decode cX9_growTree 6 = .ok (.istore_n 2, 1) ∧ decode cX9_growTree 7 = .ok (.iload_n 2, 1) ∧ decode cX9_growTree 8 = .ok (.invokestatic 48, 3) ∧ decode cX9_growTree 11 = .ok (.aload_n 0, 1) ∧ decode cX9_growTree 12 = .ok (.getfield 60, 3) ∧ decode cX9_growTree 15 = .ok (.invokestatic 70, 3) ∧ decode cX9_growTree 18 = .ok (.if_icmp .le 67, 3) ∧ decode cX9_growTree 21 = .ok (.iload_n 2, 1) := by decide +kernel
theorem D_X9_growTree_1 : decode cX9_growTree 22 = .ok (.iconst 2, 1) ∧ decode cX9_growTree 23 = .ok (.idiv, 1) ∧ decode cX9_growTree 24 = .ok (.istore_n 3, 1) ∧ decode cX9_growTree 25 = .ok (.iload_n 2, 1) ∧ decode cX9_growTree 26 = .ok (.invokestatic 48, 3) ∧ decode cX9_growTree 29 = .ok (.iload_n 3, 1) ∧ decode cX9_growTree 30 = .ok (.invokestatic 48, 3) ∧ decode cX9_growTree 33 = .ok (.isub, 1) ∧ decode cX9_growTree 34 = .ok (.aload_n 0, 1) ∧ decode cX9_growTree 35 = .ok (.getfield 17, 3) ∧ decode cX9_growTree 38 = .ok (.aload_n 0, 1) ∧ decode cX9_growTree 39 = .ok (.getfield 60, 3) := by decide +kernel
theorem D_X9_growTree_2 : decode cX9_growTree 42 = .ok (.iload_n 3, 1) ∧ decode cX9_growTree 43 = .ok (.invokestatic 67, 3) ∧ decode cX9_growTree 46 = .ok (.invokestatic 70, 3) ∧ decode cX9_growTree 49 = .ok (.if_icmp .gt 10, 3) ∧ decode cX9_growTree 52 = .ok (.iload_n 3, 1) ∧ decode cX9_growTree 53 = .ok (.iconst 2, 1) ∧ decode cX9_growTree 54 = .ok (.idiv, 1) ∧ decode cX9_growTree 55 = .ok (.istore_n 3, 1) ∧ decode cX9_growTree 56 = .ok (.goto (-31), 3) ∧ decode cX9_growTree 59 = .ok (.aload_n 0, 1) ∧ decode cX9_growTree 60 = .ok (.dup, 1) ∧ decode cX9_growTree 61 = .ok (.getfield 73, 3) := by decide +kernel
theorem D_X9_growTree_3 : decode cX9_growTree 64 = .ok (.aload_n 0, 1) ∧ decode cX9_growTree 65 = .ok (.getfield 17, 3) ∧ decode cX9_growTree 68 = .ok (.aload_n 0, 1) ∧ decode cX9_growTree 69 = .ok (.getfield 60, 3) ∧ decode cX9_growTree 72 = .ok (.iload_n 3, 1) ∧ decode cX9_growTree 73 = .ok (.invokestatic 67, 3) ∧ decode cX9_growTree 76 = .ok (.iadd, 1) ∧ decode cX9_growTree 77 = .ok (.putfield 73, 3) ∧ decode cX9_growTree 80 = .ok (.aload_n 0, 1) ∧ decode cX9_growTree 81 = .ok (.iload_n 3, 1) ∧ decode cX9_growTree 82 = .ok (.invokevirtual 76, 3) ∧ decode cX9_growTree 85 = .ok (.return_, 1) := by decide +kernel
theorem D_X9_growParts_0 : decode cX9_growParts 0 = .ok (.iconst 0, 1) ∧ decode cX9_growParts 1 = .ok (.istore_n 1, 1) ∧ decode cX9_growParts 2 = .ok (.aload_n 0, 1) ∧ decode cX9_growParts 3 = .ok (.iload_n 1, 1) ∧ decode cX9_growParts 4 = .ok (.invokevirtual 80, 3) ∧ decode cX9_growParts 7 = .ok (.iconst 1, 1) ∧ decode cX9_growParts 8 = .ok (.iload_n 1, 1) ∧ decode cX9_growParts 9 = .ok (.ishl, 1) ∧ decode cX9_growParts 10 = .ok (.if_icmp .le 63, 3) ∧ decode cX9_growParts 13 = .ok (.iconst 0, 1) ∧ decode cX9_growParts 14 = .ok (.istore_n 2, 1) ∧ decode cX9_growParts 15 = .ok (.iload_n 2, 1) := by decide +kernel
theorem D_X9_growParts_1 : decode cX9_growParts 16 = .ok (.aload_n 0, 1) ∧ decode cX9_growParts 17 = .ok (.getfield 60, 3) ∧ decode cX9_growParts 20 = .ok (.if_icmp .ge 37, 3) ∧ decode cX9_growParts 23 = .ok (.aload_n 0, 1) ∧ decode cX9_growParts 24 = .ok (.getfield 23, 3) ∧ decode cX9_growParts 27 = .ok (.iload_n 2, 1) ∧ decode cX9_growParts 28 = .ok (.aload_n 0, 1) ∧ decode cX9_growParts 29 = .ok (.getfield 23, 3) ∧ decode cX9_growParts 32 = .ok (.iload_n 2, 1) ∧ decode cX9_growParts 33 = .ok (.iaload, 1) ∧ decode cX9_growParts 34 = .ok (.iload_n 1, 1) ∧ decode cX9_growParts 35 = .ok (.if_icmp .ne 9, 3) := by decide +kernel
theorem D_X9_growParts_2 : decode cX9_growParts 38 = .ok (.iload_n 1, 1) ∧ decode cX9_growParts 39 = .ok (.iconst 1, 1) ∧ decode cX9_growParts 40 = .ok (.iadd, 1) ∧ decode cX9_growParts 41 = .ok (.goto 9, 3) ∧ decode cX9_growParts 44 = .ok (.aload_n 0, 1) ∧ decode cX9_growParts 45 = .ok (.getfield 23, 3) ∧ decode cX9_growParts 48 = .ok (.iload_n 2, 1) ∧ decode cX9_growParts 49 = .ok (.iaload, 1) ∧ decode cX9_growParts 50 = .ok (.iastore, 1) ∧ decode cX9_growParts 51 = .ok (.iinc 2 1, 3) ∧ decode cX9_growParts 54 = .ok (.goto (-39), 3) ∧ decode cX9_growParts 57 = .ok (.aload_n 0, 1) := by decide +kernel
theorem D_X9_growParts_3 : decode cX9_growParts 58 = .ok (.dup, 1) ∧ decode cX9_growParts 59 = .ok (.getfield 83, 3) ∧ decode cX9_growParts 62 = .ok (.iconst 1, 1) ∧ decode cX9_growParts 63 = .ok (.iadd, 1) ∧ decode cX9_growParts 64 = .ok (.putfield 83, 3) ∧ decode cX9_growParts 67 = .ok (.iinc 1 1, 3) ∧ decode cX9_growParts 70 = .ok (.goto (-68), 3) ∧ decode cX9_growParts 73 = .ok (.return_, 1) := by decide +kernel
abbrev rm_X9_growTree : Room := { frames := 4, cells := 0, slots := 0, locals := 95 }
theorem hd_X9_boundOf : yX9_boundOf.cls ≠ "java/lang/invoke/MethodHandle" ∧ yX9_boundOf.cls ≠ "java/lang/invoke/VarHandle" ∧ (parseMethodDescriptor yX9_boundOf.desc).map (fun d => d.parameters.length) = some 1 := by decide +kernel
theorem hd_X9_layOut : yX9_layOut.cls ≠ "java/lang/invoke/MethodHandle" ∧ yX9_layOut.cls ≠ "java/lang/invoke/VarHandle" ∧ (parseMethodDescriptor yX9_layOut.desc).map (fun d => d.parameters.length) = some 1 := by decide +kernel
set_option maxHeartbeats 4000000 in
set_option maxRecDepth 100000 in
theorem c_X9_growTree (l : Launch) (G : xG) {K N : Nat → Nat} {I : Nat → Nat → Int32} {Q : Nat → Nat → Option Nat} {J : Nat → Nat → Int64} (m n k : Nat) (ar sp : Nat → Nat) (hM : MZ K N Q m ar) (hn : I m 0 = nI n) (hnb : n ≤ 202) (hsp : ∀ i, i < n → I (ar 7) i = nI (sp i) ∧ 0 < sp i ∧ sp i < 2 ^ 20) (hk : k < n) : XM l yX9_growTree cX9_growTree 4 none rm_X9_growTree G Rv [.ref m, .int (nI k)] (K, N, I, Q, J) (fun _ S1 => ∃ I1, S1 = (K, N, I1, Q, J) ∧ (∀ i, i < n → I1 (ar 7) i = nI (if bnd n < dep (sp k) then (if bel (sp i) (upW (fun u => decide (dep (sp k) - dep u ≤ bnd (cn (fun j => bel (sp j) (u)) n))) 20 (sp k / 2)) = true then layA 8 (cn (fun j => bel (sp j) (upW (fun u => decide (dep (sp k) - dep u ≤ bnd (cn (fun j => bel (sp j) (u)) n))) 20 (sp k / 2))) i) 0 (cn (fun j => bel (sp j) ((upW (fun u => decide (dep (sp k) - dep u ≤ bnd (cn (fun j => bel (sp j) (u)) n))) 20 (sp k / 2)))) n) (upW (fun u => decide (dep (sp k) - dep u ≤ bnd (cn (fun j => bel (sp j) (u)) n))) 20 (sp k / 2)) else sp i) else sp i)) ∧ I1 m 2 = I m 2 + nI (if bnd n < dep (sp k) then (cn (fun j => bel (sp j) ((upW (fun u => decide (dep (sp k) - dep u ≤ bnd (cn (fun j => bel (sp j) (u)) n))) 20 (sp k / 2)))) n) else 0) ∧ (∀ a j, ¬ (a = ar 7 ∧ j < n) → ¬ (a = m ∧ j = 2) → I1 a j = I a j)) := by
  refine x_metv (lv := [_, _, _, _]) (by decide +kernel) (x_cc (by first | rfl | exact x_crf _) (x_cc (by first | rfl | exact x_crf _) x_cn)) (Nat.le_of_ble_eq_true rfl) rfl ?_
  intro pP eE sS mM aA bB hH cC Z C hini ret
  have hk9 := hM.1
  have h202 := hM.nk 7 (by decide)
  have hm7 := hM.nm 7 (by decide)
  obtain ⟨hpl1, hpl2, hpl3⟩ := hsp k hk
  have hw0 : ∀ u, cn (fun i => decide (0 < sp i) && bel (sp i) u) n = (cn (fun j => bel (sp j) (u)) n) := fun u => cn_congr (fun i hi => by simp [(hsp i hi).2.1])
  have hwn : ∀ u, (cn (fun j => bel (sp j) (u)) n) ≤ n := fun u => cn_le _ _
  have hw1 : (cn (fun j => bel (sp j) (1)) n) = n := cn_all (fun i hi => bel_one (hsp i hi).2.1)
  have hdp := dep_lt30 (show sp k < 2 ^ 30 by omega)
  have hbb := fun w => bnd_le w
  refine x_aload_n C D_X9_growTree_0.1 rfl rfl (by first | exact Or.inr ⟨_, rfl⟩ | exact va_rf_or _ | exact Or.inl rfl) ?_
  refine x_getQ C (ci := 8) (k0 := 7) (by assumption) (by decide) rfl (by decide) in_X9 k_909 rfl rfl D_X9_growTree_0.2.1 ?_
  refine x_eqr (hM.2.1 7 (by decide)).1 ?_
  refine x_iload_n C D_X9_growTree_0.2.2.1 rfl rfl ?_
  refine x_iald C _ (by first | assumption | exact (hM.2.1 _ (by decide)).2.1) rfl (by first | omega | (rw [hM.nk _ (by decide)]; omega) | (rw [hM.np _ (by decide)]; omega)) (by first | omega | (rw [hM.nk _ (by decide)]; omega) | (rw [hM.np _ (by decide)]; omega)) D_X9_growTree_0.2.2.2.1 ?_
  first
  | refine x_eqi _ (hn) ?_
  | refine x_eqi _ (hpl1) ?_
  | skip
  refine x_istore_n C (lv' := [_, _, _, _]) D_X9_growTree_0.2.2.2.2.1 rfl (Nat.le_of_ble_eq_true rfl) (by first | rfl | exact x_ok_q rfl) rfl ?_
  refine x_iload_n C D_X9_growTree_0.2.2.2.2.2.1 rfl rfl ?_
  refine x_callSi C (y := yX9_depthOf) (c_X9_depthOf l G (sp k) (by omega)) k_1011 k_1012 k_67 k_1013 hd_X9_depthOf ⟨(Nat.le_of_ble_eq_true rfl), (Nat.le_of_ble_eq_true rfl)⟩ rfl (by first | exact Nat.le_of_ble_eq_true rfl | simp [x_crf, Value.category]) rfl rfl D_X9_growTree_0.2.2.2.2.2.2.1 ⟨(Nat.le_of_ble_eq_true rfl), (Nat.le_of_ble_eq_true rfl)⟩ (fun r_8 S_8 h_8 => ?_)
  obtain ⟨rfl, rfl⟩ := h_8
  refine x_aload_n C D_X9_growTree_0.2.2.2.2.2.2.2.1 rfl rfl (by first | exact Or.inr ⟨_, rfl⟩ | exact va_rf_or _ | exact Or.inl rfl) ?_
  refine x_getI C (ci := 8) (k0 := 0) (by assumption) (by decide) rfl (by decide) in_X9 k_902 rfl rfl D_X9_growTree_0.2.2.2.2.2.2.2.2.1 ?_
  first
  | refine x_eqi _ (hn) ?_
  | refine x_eqi _ (hpl1) ?_
  | skip
  refine x_callSi C (y := yX9_boundOf) (c_X9_boundOf l G n (by omega)) k_1029 k_1030 k_67 k_1031 hd_X9_boundOf ⟨(Nat.le_of_ble_eq_true rfl), (Nat.le_of_ble_eq_true rfl)⟩ rfl (by first | exact Nat.le_of_ble_eq_true rfl | simp [x_crf, Value.category]) rfl rfl D_X9_growTree_0.2.2.2.2.2.2.2.2.2.1 ⟨(Nat.le_of_ble_eq_true rfl), (Nat.le_of_ble_eq_true rfl)⟩ (fun r_15 S_15 h_15 => ?_)
  obtain ⟨rfl, rfl⟩ := h_15
  have hb9 := hbb n
  refine x_icmp_le C 85 D_X9_growTree_0.2.2.2.2.2.2.2.2.2.2.1 (by decide) (fun c_18 => ?_) (fun c_18 => ?_)
  · skip
    first
    | have d_18 := cv_le c_18 (by omega) (by omega)
    | skip
    refine ret _ _ _ _ _ rfl D_X9_growTree_3.2.2.2.2.2.2.2.2.2.2.2 (Nat.le_of_ble_eq_true rfl) (Nat.le_of_ble_eq_true rfl) ?_
    refine ⟨I, rfl, fun i hi => ?_, ?_, fun _ _ _ _ => rfl⟩
    · rw [if_neg (by omega)]; exact (hsp i hi).1
    · rw [if_neg (by omega), nI_0, Int32.add_zero]
  · skip
    first
    | have d_18 := cv_nle c_18 (by omega) (by omega)
    | skip
    have hd1 : 2 ≤ sp k := by
      rcases Nat.lt_or_ge (sp k) 2 with h9 | h9
      · rw [dep_def, if_neg (by omega)] at d_18; omega
      · exact h9
    refine x_iload_n C D_X9_growTree_0.2.2.2.2.2.2.2.2.2.2.2 rfl rfl ?_
    refine x_iconst C (v := nI 2) D_X9_growTree_1.1 (by decide +kernel) ?_
    refine x_idiv C D_X9_growTree_1.2.1 (by decide) ?_
    first
    | refine x_eqi _ (pk_div (by omega) (by decide) (by decide)) ?_
    | skip
    refine x_istore_n C (lv' := [_, _, _, _]) D_X9_growTree_1.2.2.1 rfl (Nat.le_of_ble_eq_true rfl) (by first | rfl | exact x_ok_q rfl) rfl ?_
    have L_25 : ∀ (w_25 : Nat) (f u : Nat), u < w_25 → (0 < u) → (u < 2 ^ f) → (u ≤ sp k) → (upW (fun u => decide (dep (sp k) - dep u ≤ bnd (cn (fun j => bel (sp j) (u)) n))) f u = (upW (fun u => decide (dep (sp k) - dep u ≤ bnd (cn (fun j => bel (sp j) (u)) n))) 20 (sp k / 2))) → XW pP l eE rm_X9_growTree sS mM aA bB hH cC G Z 0 0 (K, N, I, Q, J) 25 [some (.ref m), some (.int (nI k)), some (.int (nI (sp k))), some (.int (nI u))] [] := by
      intro w_25
      induction w_25 with
      | zero =>
        intro f u hw_25
        exact absurd hw_25 (Nat.not_lt_zero _)
      | succ w_25 ih_25 =>
        intro f u hw_25 hu0 huf hul hU
        have hdu := dep_mono hul
        refine x_iload_n C D_X9_growTree_1.2.2.2.1 rfl rfl ?_
        refine x_callSi C (y := yX9_depthOf) (c_X9_depthOf l G (sp k) (by omega)) k_1011 k_1012 k_67 k_1013 hd_X9_depthOf ⟨(Nat.le_of_ble_eq_true rfl), (Nat.le_of_ble_eq_true rfl)⟩ rfl (by first | exact Nat.le_of_ble_eq_true rfl | simp [x_crf, Value.category]) rfl rfl D_X9_growTree_1.2.2.2.2.1 ⟨(Nat.le_of_ble_eq_true rfl), (Nat.le_of_ble_eq_true rfl)⟩ (fun r_26 S_26 h_26 => ?_)
        obtain ⟨rfl, rfl⟩ := h_26
        refine x_iload_n C D_X9_growTree_1.2.2.2.2.2.1 rfl rfl ?_
        refine x_callSi C (y := yX9_depthOf) (c_X9_depthOf l G u (by omega)) k_1011 k_1012 k_67 k_1013 hd_X9_depthOf ⟨(Nat.le_of_ble_eq_true rfl), (Nat.le_of_ble_eq_true rfl)⟩ rfl (by first | exact Nat.le_of_ble_eq_true rfl | simp [x_crf, Value.category]) rfl rfl D_X9_growTree_1.2.2.2.2.2.2.1 ⟨(Nat.le_of_ble_eq_true rfl), (Nat.le_of_ble_eq_true rfl)⟩ (fun r_30 S_30 h_30 => ?_)
        obtain ⟨rfl, rfl⟩ := h_30
        refine x_isub C D_X9_growTree_1.2.2.2.2.2.2.2.1 ?_
        first
        | refine x_eqi _ (pk_sub (by omega)) ?_
        | skip
        refine x_aload_n C D_X9_growTree_1.2.2.2.2.2.2.2.2.1 rfl rfl (by first | exact Or.inr ⟨_, rfl⟩ | exact va_rf_or _ | exact Or.inl rfl) ?_
        refine x_getQ C (ci := 8) (k0 := 7) (by assumption) (by decide) rfl (by decide) in_X9 k_909 rfl rfl D_X9_growTree_1.2.2.2.2.2.2.2.2.2.1 ?_
        refine x_eqr (hM.2.1 7 (by decide)).1 ?_
        refine x_aload_n C D_X9_growTree_1.2.2.2.2.2.2.2.2.2.2.1 rfl rfl (by first | exact Or.inr ⟨_, rfl⟩ | exact va_rf_or _ | exact Or.inl rfl) ?_
        refine x_getI C (ci := 8) (k0 := 0) (by assumption) (by decide) rfl (by decide) in_X9 k_902 rfl rfl D_X9_growTree_1.2.2.2.2.2.2.2.2.2.2.2 ?_
        first
        | refine x_eqi _ (hn) ?_
        | refine x_eqi _ (hpl1) ?_
        | skip
        refine x_iload_n C D_X9_growTree_2.1 rfl rfl ?_
        refine x_callSi C (y := yX9_weightAt) (c_X9_weightAt l G (ar 7) n (u) sp (hM.2.1 7 (by decide)).2.1 (by omega) (by omega) (by omega) (by omega) (fun i hi => ⟨(hsp i hi).1, by have := (hsp i hi).2.2; omega⟩)) k_1005 k_1006 k_67 k_1007 hd_X9_weightAt ⟨(Nat.le_of_ble_eq_true rfl), (Nat.le_of_ble_eq_true rfl)⟩ rfl (by first | exact Nat.le_of_ble_eq_true rfl | simp [x_crf, Value.category]) rfl rfl D_X9_growTree_2.2.1 ⟨(Nat.le_of_ble_eq_true rfl), (Nat.le_of_ble_eq_true rfl)⟩ (fun r_43 S_43 h_43 => ?_)
        obtain ⟨rfl, rfl⟩ := h_43
        refine x_eqi _ (by rw [hw0 (u)]) ?_
        refine x_callSi C (y := yX9_boundOf) (c_X9_boundOf l G (cn (fun j => bel (sp j) (u)) n) (by have := hwn u; omega)) k_1029 k_1030 k_67 k_1031 hd_X9_boundOf ⟨(Nat.le_of_ble_eq_true rfl), (Nat.le_of_ble_eq_true rfl)⟩ rfl (by first | exact Nat.le_of_ble_eq_true rfl | simp [x_crf, Value.category]) rfl rfl D_X9_growTree_2.2.2.1 ⟨(Nat.le_of_ble_eq_true rfl), (Nat.le_of_ble_eq_true rfl)⟩ (fun r_46 S_46 h_46 => ?_)
        obtain ⟨rfl, rfl⟩ := h_46
        have hb8 := hbb (cn (fun j => bel (sp j) (u)) n)
        refine x_icmp_gt C 59 D_X9_growTree_2.2.2.2.1 (by decide) (fun c_49 => ?_) (fun c_49 => ?_)
        · skip
          first
          | have d_49 := cv_lt c_49 (by omega) (by omega)
          | skip
          have hok : (fun u => decide (dep (sp k) - dep u ≤ bnd (cn (fun j => bel (sp j) (u)) n))) u = false := by simp only [decide_eq_false_iff_not]; omega
          have hUu : u = (upW (fun u => decide (dep (sp k) - dep u ≤ bnd (cn (fun j => bel (sp j) (u)) n))) 20 (sp k / 2)) := by rw [← hU, upW_stop hok]
          refine x_aload_n C D_X9_growTree_2.2.2.2.2.2.2.2.2.2.1 rfl rfl (by first | exact Or.inr ⟨_, rfl⟩ | exact va_rf_or _ | exact Or.inl rfl) ?_
          refine x_dup C D_X9_growTree_2.2.2.2.2.2.2.2.2.2.2.1 (by first | rfl | exact x_crf _) ?_
          refine x_getI C (ci := 8) (k0 := 2) (by assumption) (by decide) rfl (by decide) in_X9 k_904 rfl rfl D_X9_growTree_2.2.2.2.2.2.2.2.2.2.2.2 ?_
          first
          | refine x_eqi _ (hn) ?_
          | refine x_eqi _ (hpl1) ?_
          | skip
          refine x_aload_n C D_X9_growTree_3.1 rfl rfl (by first | exact Or.inr ⟨_, rfl⟩ | exact va_rf_or _ | exact Or.inl rfl) ?_
          refine x_getQ C (ci := 8) (k0 := 7) (by assumption) (by decide) rfl (by decide) in_X9 k_909 rfl rfl D_X9_growTree_3.2.1 ?_
          refine x_eqr (hM.2.1 7 (by decide)).1 ?_
          refine x_aload_n C D_X9_growTree_3.2.2.1 rfl rfl (by first | exact Or.inr ⟨_, rfl⟩ | exact va_rf_or _ | exact Or.inl rfl) ?_
          refine x_getI C (ci := 8) (k0 := 0) (by assumption) (by decide) rfl (by decide) in_X9 k_902 rfl rfl D_X9_growTree_3.2.2.2.1 ?_
          first
          | refine x_eqi _ (hn) ?_
          | refine x_eqi _ (hpl1) ?_
          | skip
          refine x_iload_n C D_X9_growTree_3.2.2.2.2.1 rfl rfl ?_
          refine x_callSi C (y := yX9_weightAt) (c_X9_weightAt l G (ar 7) n (u) sp (hM.2.1 7 (by decide)).2.1 (by omega) (by omega) (by omega) (by omega) (fun i hi => ⟨(hsp i hi).1, by have := (hsp i hi).2.2; omega⟩)) k_1005 k_1006 k_67 k_1007 hd_X9_weightAt ⟨(Nat.le_of_ble_eq_true rfl), (Nat.le_of_ble_eq_true rfl)⟩ rfl (by first | exact Nat.le_of_ble_eq_true rfl | simp [x_crf, Value.category]) rfl rfl D_X9_growTree_3.2.2.2.2.2.1 ⟨(Nat.le_of_ble_eq_true rfl), (Nat.le_of_ble_eq_true rfl)⟩ (fun r_73 S_73 h_73 => ?_)
          obtain ⟨rfl, rfl⟩ := h_73
          refine x_eqi _ (by rw [hw0 (u)]) ?_
          refine x_iadd C D_X9_growTree_3.2.2.2.2.2.2.1 ?_
          first
          | refine x_eqi _ (nI_add _ _) ?_
          | skip
          refine x_putI C (ci := 8) (k0 := 2) (by assumption) (by decide) rfl (by decide) in_X9 k_904 rfl tyX9 tyX9_ok nmX9 rfl (by rfl) rfl rfl rfl D_X9_growTree_3.2.2.2.2.2.2.2.1 (fun I2 eI2 => ?_)
          refine x_aload_n C D_X9_growTree_3.2.2.2.2.2.2.2.2.1 rfl rfl (by first | exact Or.inr ⟨_, rfl⟩ | exact va_rf_or _ | exact Or.inl rfl) ?_
          refine x_iload_n C D_X9_growTree_3.2.2.2.2.2.2.2.2.2.1 rfl rfl ?_
          refine x_callVv C (y := yX9_layOut) (c_X9_layOut l G m n u ar sp hM (by rw [eI2, x_u2_j _ _ (by omega)]; exact hn) hnb (fun i hi => by obtain ⟨a1, a2, a3⟩ := hsp i hi; exact ⟨by rw [eI2, x_u2_a _ _ hm7]; exact a1, a2, by omega⟩) (by omega)) (ci := 8) hM.1 (by decide) rfl rfl k_1034 k_1036 k_46 k_67 k_1037 hd_X9_layOut ⟨(Nat.le_of_ble_eq_true rfl), (Nat.le_of_ble_eq_true rfl)⟩ rfl (by first | exact Nat.le_of_ble_eq_true rfl | simp [x_crf, Value.category]) rfl rfl D_X9_growTree_3.2.2.2.2.2.2.2.2.2.2.1 ⟨(Nat.le_of_ble_eq_true rfl), (Nat.le_of_ble_eq_true rfl)⟩ (fun _ S_82 h_82 => ?_)
          obtain ⟨I3, rfl, e1, e2⟩ := h_82
          refine ret _ _ _ _ _ rfl D_X9_growTree_3.2.2.2.2.2.2.2.2.2.2.2 (Nat.le_of_ble_eq_true rfl) (Nat.le_of_ble_eq_true rfl) ?_
          refine ⟨I3, rfl, fun i hi => ?_, ?_, fun a j h1 h2 => ?_⟩
          · rw [if_pos d_18, ← hUu]; exact e1 i hi
          · rw [if_pos d_18, ← hUu, e2 m 2 (fun e => hm7 e.1.symm), eI2, x_u2_s]
          · rw [e2 a j h1, eI2]
            by_cases e : a = m
            · subst e; exact x_u2_j _ _ (fun z => h2 ⟨rfl, z⟩)
            · rw [x_u2_a _ _ e]
        · skip
          first
          | have d_49 := cv_nlt c_49 (by omega) (by omega)
          | skip
          have hok : (fun u => decide (dep (sp k) - dep u ≤ bnd (cn (fun j => bel (sp j) (u)) n))) u = true := by simp only [decide_eq_true_eq]; omega
          have hu1 : u ≠ 1 := by
            intro e
            rw [e, dep_one, hw1] at d_49
            omega
          obtain ⟨g, rfl⟩ : ∃ g, f = g + 1 := by
            cases f with
            | zero => simp at huf; omega
            | succ g => exact ⟨g, rfl⟩
          rw [upW_go hok] at hU
          refine x_iload_n C D_X9_growTree_2.2.2.2.2.1 rfl rfl ?_
          refine x_iconst C (v := nI 2) D_X9_growTree_2.2.2.2.2.2.1 (by decide +kernel) ?_
          refine x_idiv C D_X9_growTree_2.2.2.2.2.2.2.1 (by decide) ?_
          first
          | refine x_eqi _ (pk_div (by omega) (by decide) (by decide)) ?_
          | skip
          refine x_istore_n C (lv' := [_, _, _, _]) D_X9_growTree_2.2.2.2.2.2.2.2.1 rfl (Nat.le_of_ble_eq_true rfl) (by first | rfl | exact x_ok_q rfl) rfl ?_
          refine x_goto C 25 D_X9_growTree_2.2.2.2.2.2.2.2.2.1 (by decide) ?_
          exact ih_25 g (u / 2) (by omega) (by omega) (by rw [Nat.pow_succ] at huf; omega) (by omega) hU
    exact L_25 _ 20 (sp k / 2) (Nat.lt_succ_self _) (by omega) (by omega) (by omega) rfl
abbrev rm_X9_growParts : Room := { frames := 1, cells := 0, slots := 0, locals := 23 }
theorem hd_X9_inPart : yX9_inPart.cls ≠ "java/lang/invoke/MethodHandle" ∧ yX9_inPart.cls ≠ "java/lang/invoke/VarHandle" ∧ (parseMethodDescriptor yX9_inPart.desc).map (fun d => d.parameters.length) = some 1 := by decide +kernel
set_option maxHeartbeats 4000000 in
set_option maxRecDepth 100000 in
theorem c_X9_growParts (l : Launch) (G : xG) {K N : Nat → Nat} {I : Nat → Nat → Int32} {Q : Nat → Nat → Option Nat} {J : Nat → Nat → Int64} (m n : Nat) (ar pt : Nat → Nat) (hM : MZ K N Q m ar) (hn : I m 0 = nI n) (hnb : n ≤ 202) (hpt : ∀ i, i < n → I (ar 9) i = nI (pt i) ∧ pt i < 1000) : XM l yX9_growParts cX9_growParts 3 none rm_X9_growParts G Rv [.ref m] (K, N, I, Q, J) (fun _ S1 => ∃ I1, S1 = (K, N, I1, Q, J) ∧ (∀ i, i < n → I1 (ar 9) i = nI ((mrg (List.range n) 8 0 pt).1 i)) ∧ I1 m 4 = I m 4 + nI (mrg (List.range n) 8 0 pt).2 ∧ (∀ a j, ¬ (a = ar 9 ∧ j < n) → ¬ (a = m ∧ j = 4) → I1 a j = I a j)) := by
  refine x_metv (lv := [_, _, _]) (by decide +kernel) (x_cc (by first | rfl | exact x_crf _) x_cn) (Nat.le_of_ble_eq_true rfl) rfl ?_
  intro pP eE sS mM aA bB hH cC Z C hini ret
  have hk9 := hM.1
  have h202 := hM.nk 9 (by decide)
  have hm9 := hM.nm 9 (by decide)
  refine x_iconst C (v := nI 0) D_X9_growParts_0.1 (by decide +kernel) ?_
  refine x_istore_n C (lv' := [_, _, _]) D_X9_growParts_0.2.1 rfl (Nat.le_of_ble_eq_true rfl) (by first | rfl | exact x_ok_q rfl) rfl ?_
  have L_2 : ∀ (w_2 : Nat) (f j k1 : Nat) (pt1 : Nat → Nat) (I1 : Nat → Nat → Int32) (v2 : Option Value), f < w_2 → (f + j = 8) → (∀ i, i < n → I1 (ar 9) i = nI (pt1 i) ∧ pt1 i < 1000) → (∀ a j, ¬ (a = ar 9 ∧ j < n) → ¬ (a = m ∧ j = 4) → I1 a j = I a j) → (I1 m 4 = I m 4 + nI k1) → ((mrg (List.range n) f j pt1).1 = (mrg (List.range n) 8 0 pt).1) → (k1 + (mrg (List.range n) f j pt1).2 = (mrg (List.range n) 8 0 pt).2) → XW pP l eE rm_X9_growParts sS mM aA bB hH cC G Z 0 0 (K, N, I1, Q, J) 2 [some (.ref m), some (.int (nI j)), v2] [] := by
    intro w_2
    induction w_2 with
    | zero =>
      intro f j k1 pt1 I1 v2 hw_2
      exact absurd hw_2 (Nat.not_lt_zero _)
    | succ w_2 ih_2 =>
      intro f j k1 pt1 I1 v2 hw_2 hfj hI1 hfr hmc hM1 hM2
      have hn1 : I1 m 0 = nI n := by rw [hfr m 0 (fun e => hm9 e.1.symm) (fun e => by omega)]; exact hn
      have hcc : cn (fun i => decide (I1 (ar 9) i = nI j)) n = ccnt (fun a => decide (pt1 a = j)) (List.range n) := by
        rw [← cn_ccnt]
        refine cn_congr (fun i hi => ?_)
        obtain ⟨h8, h9⟩ := hI1 i hi
        rw [h8]
        simp only [nI_eq (a := pt1 i) (b := j) (by omega) (by omega)]
      have hcl : ccnt (fun a => decide (pt1 a = j)) (List.range n) ≤ n := by rw [← cn_ccnt]; exact cn_le _ _
      refine x_aload_n C D_X9_growParts_0.2.2.1 rfl rfl (by first | exact Or.inr ⟨_, rfl⟩ | exact va_rf_or _ | exact Or.inl rfl) ?_
      refine x_iload_n C D_X9_growParts_0.2.2.2.1 rfl rfl ?_
      refine x_callVi C (y := yX9_inPart) (c_X9_inPart l G m n ar (nI j) hM hn1 hnb) (ci := 8) hM.1 (by decide) rfl rfl k_1042 k_1044 k_48 k_67 k_1045 hd_X9_inPart ⟨(Nat.le_of_ble_eq_true rfl), (Nat.le_of_ble_eq_true rfl)⟩ rfl (by first | exact Nat.le_of_ble_eq_true rfl | simp [x_crf, Value.category]) rfl rfl D_X9_growParts_0.2.2.2.2.1 ⟨(Nat.le_of_ble_eq_true rfl), (Nat.le_of_ble_eq_true rfl)⟩ (fun r_4 S_4 h_4 => ?_)
      obtain ⟨rfl, rfl⟩ := h_4
      refine x_eqi _ (by rw [hcc]) ?_
      refine x_iconst C (v := nI 1) D_X9_growParts_0.2.2.2.2.2.1 (by decide +kernel) ?_
      refine x_iload_n C D_X9_growParts_0.2.2.2.2.2.2.1 rfl rfl ?_
      refine x_ishl C D_X9_growParts_0.2.2.2.2.2.2.2.1 ?_
      refine x_eqi _ (shl_pw2 (by omega)) ?_
      have hpw := pw_lt (j := j) (by omega)
      refine x_icmp_le C 73 D_X9_growParts_0.2.2.2.2.2.2.2.2.1 (by decide) (fun c_10 => ?_) (fun c_10 => ?_)
      · skip
        first
        | have d_10 := cv_le c_10 (by omega) (by omega)
        | skip
        refine ret _ _ _ _ _ rfl D_X9_growParts_3.2.2.2.2.2.2.2 (Nat.le_of_ble_eq_true rfl) (Nat.le_of_ble_eq_true rfl) ?_
        refine ⟨I1, rfl, fun i hi => ?_, ?_, hfr⟩
        · rw [← hM1, mrg_stop d_10]; exact (hI1 i hi).1
        · rw [hmc, ← hM2, mrg_stop d_10]; rfl
      · skip
        first
        | have d_10 := cv_nle c_10 (by omega) (by omega)
        | skip
        obtain ⟨g, rfl⟩ : ∃ g, f = g + 1 := by
          cases f with
          | zero =>
            have e8 : 2 ^ j = 256 := by rw [show j = 8 by omega]
            have h9 : 2 ^ j < ccnt (fun a => decide (pt1 a = j)) (List.range n) := d_10
            omega
          | succ g => exact ⟨g, rfl⟩
        refine x_iconst C (v := nI 0) D_X9_growParts_0.2.2.2.2.2.2.2.2.2.1 (by decide +kernel) ?_
        refine x_istore_n C (lv' := [_, _, _]) D_X9_growParts_0.2.2.2.2.2.2.2.2.2.2.1 rfl (Nat.le_of_ble_eq_true rfl) (by first | rfl | exact x_ok_q rfl) rfl ?_
        have L_15 : ∀ (w_15 : Nat) (k0 : Nat) (I2 : Nat → Nat → Int32), n - k0 < w_15 → (k0 ≤ n) → (∀ i, i < k0 → I2 (ar 9) i = nI (if pt1 i = j then j + 1 else pt1 i)) → (∀ i, k0 ≤ i → I2 (ar 9) i = I1 (ar 9) i) → (∀ a i, ¬ (a = ar 9 ∧ i < n) → I2 a i = I1 a i) → XW pP l eE rm_X9_growParts sS mM aA bB hH cC G Z 0 0 (K, N, I2, Q, J) 15 [some (.ref m), some (.int (nI j)), some (.int (nI k0))] [] := by
          intro w_15
          induction w_15 with
          | zero =>
            intro k0 I2 hw_15
            exact absurd hw_15 (Nat.not_lt_zero _)
          | succ w_15 ih_15 =>
            intro k0 I2 hw_15 hk0 hJ1 hJ2 hfr2
            have hn2_ : I2 m 0 = nI n := by rw [hfr2 m 0 (fun e => hm9 e.1.symm)]; exact hn1
            refine x_iload_n C D_X9_growParts_0.2.2.2.2.2.2.2.2.2.2.2 rfl rfl ?_
            refine x_aload_n C D_X9_growParts_1.1 rfl rfl (by first | exact Or.inr ⟨_, rfl⟩ | exact va_rf_or _ | exact Or.inl rfl) ?_
            refine x_getI C (ci := 8) (k0 := 0) (by assumption) (by decide) rfl (by decide) in_X9 k_902 rfl rfl D_X9_growParts_1.2.1 ?_
            first
            | refine x_eqi _ (hn1) ?_
            | refine x_eqi _ (hn2_) ?_
            | refine x_eqi _ (hs2) ?_
            | skip
            refine x_icmp_ge C 57 D_X9_growParts_1.2.2.1 (by decide) (fun c_20 => ?_) (fun c_20 => ?_)
            · skip
              first
              | have d_20 := cv_le c_20 (by omega) (by omega)
              | skip
              obtain rfl : k0 = n := by omega
              refine x_aload_n C D_X9_growParts_2.2.2.2.2.2.2.2.2.2.2.2 rfl rfl (by first | exact Or.inr ⟨_, rfl⟩ | exact va_rf_or _ | exact Or.inl rfl) ?_
              refine x_dup C D_X9_growParts_3.1 (by first | rfl | exact x_crf _) ?_
              refine x_getI C (ci := 8) (k0 := 4) (by assumption) (by decide) rfl (by decide) in_X9 k_906 rfl rfl D_X9_growParts_3.2.1 ?_
              first
              | refine x_eqi _ (hn1) ?_
              | refine x_eqi _ (hn2_) ?_
              | refine x_eqi _ (hs2) ?_
              | skip
              refine x_iconst C (v := nI 1) D_X9_growParts_3.2.2.1 (by decide +kernel) ?_
              refine x_iadd C D_X9_growParts_3.2.2.2.1 ?_
              first
              | refine x_eqi _ (nI_add _ _) ?_
              | skip
              refine x_putI C (ci := 8) (k0 := 4) (by assumption) (by decide) rfl (by decide) in_X9 k_906 rfl tyX9 tyX9_ok nmX9 rfl (by rfl) rfl rfl rfl D_X9_growParts_3.2.2.2.2.1 (fun I4 eI4 => ?_)
              first
              | refine x_iinc C (lv' := [_, _, _]) D_X9_growParts_3.2.2.2.2.2.1 rfl (x_incN_1 _) (by first | rfl | exact x_ok_q rfl) rfl ?_
              | refine x_iinc C (lv' := [_, _, _]) D_X9_growParts_3.2.2.2.2.2.1 rfl (x_inc_1 _) (by first | rfl | exact x_ok_q rfl) rfl ?_
              refine x_goto C 2 D_X9_growParts_3.2.2.2.2.2.2.1 (by decide) ?_
              refine ih_2 g (j + 1) (k1 + 1) (fun i => if pt1 i = j then j + 1 else pt1 i) I4 _ (by omega) (by omega) (fun i hi => ?_) (fun a i h1 h2 => ?_) ?_ ?_ ?_
              · have h9 := (hI1 i hi).2
                refine ⟨?_, ?_⟩
                · rw [eI4, x_u2_a _ _ hm9]; exact hJ1 i hi
                · show (if pt1 i = j then j + 1 else pt1 i) < 1000
                  split <;> omega
              · rw [eI4]
                by_cases e : a = m
                · subst e
                  rw [x_u2_j _ _ (fun z => h2 ⟨rfl, z⟩), hfr2 a i (fun z => hm9 z.1.symm)]; exact hfr a i h1 h2
                · rw [x_u2_a _ _ e, hfr2 a i h1]; exact hfr a i h1 h2
              · rw [eI4, x_u2_s, hfr2 m 4 (fun z => hm9 z.1.symm), hmc, Int32.add_assoc, nI_add]
              · rw [← hM1, mrg_go d_10]
              · rw [← hM2, mrg_go d_10]; simp only []; omega
            · skip
              first
              | have d_20 := cv_nle c_20 (by omega) (by omega)
              | skip
              have hs2 : I2 (ar 9) k0 = nI (pt1 k0) := by rw [hJ2 k0 (Nat.le_refl _)]; exact (hI1 k0 (by omega)).1
              have hp9 := (hI1 k0 (by omega)).2
              refine x_aload_n C D_X9_growParts_1.2.2.2.1 rfl rfl (by first | exact Or.inr ⟨_, rfl⟩ | exact va_rf_or _ | exact Or.inl rfl) ?_
              refine x_getQ C (ci := 8) (k0 := 9) (by assumption) (by decide) rfl (by decide) in_X9 k_911 rfl rfl D_X9_growParts_1.2.2.2.2.1 ?_
              refine x_eqr (hM.2.1 9 (by decide)).1 ?_
              refine x_iload_n C D_X9_growParts_1.2.2.2.2.2.1 rfl rfl ?_
              refine x_aload_n C D_X9_growParts_1.2.2.2.2.2.2.1 rfl rfl (by first | exact Or.inr ⟨_, rfl⟩ | exact va_rf_or _ | exact Or.inl rfl) ?_
              refine x_getQ C (ci := 8) (k0 := 9) (by assumption) (by decide) rfl (by decide) in_X9 k_911 rfl rfl D_X9_growParts_1.2.2.2.2.2.2.2.1 ?_
              refine x_eqr (hM.2.1 9 (by decide)).1 ?_
              refine x_iload_n C D_X9_growParts_1.2.2.2.2.2.2.2.2.1 rfl rfl ?_
              refine x_iald C _ (by first | assumption | exact (hM.2.1 _ (by decide)).2.1) rfl (by first | omega | (rw [hM.nk _ (by decide)]; omega) | (rw [hM.np _ (by decide)]; omega)) (by first | omega | (rw [hM.nk _ (by decide)]; omega) | (rw [hM.np _ (by decide)]; omega)) D_X9_growParts_1.2.2.2.2.2.2.2.2.2.1 ?_
              first
              | refine x_eqi _ (hn1) ?_
              | refine x_eqi _ (hn2_) ?_
              | refine x_eqi _ (hs2) ?_
              | skip
              refine x_iload_n C D_X9_growParts_1.2.2.2.2.2.2.2.2.2.2.1 rfl rfl ?_
              refine x_icmp_ne C 44 D_X9_growParts_1.2.2.2.2.2.2.2.2.2.2.2 (by decide) (fun c_35 => ?_) (fun c_35 => ?_)
              · skip
                first
                | have d_35 := cv_ne c_35 (by omega) (by omega)
                | skip
                refine x_aload_n C D_X9_growParts_2.2.2.2.2.1 rfl rfl (by first | exact Or.inr ⟨_, rfl⟩ | exact va_rf_or _ | exact Or.inl rfl) ?_
                refine x_getQ C (ci := 8) (k0 := 9) (by assumption) (by decide) rfl (by decide) in_X9 k_911 rfl rfl D_X9_growParts_2.2.2.2.2.2.1 ?_
                refine x_eqr (hM.2.1 9 (by decide)).1 ?_
                refine x_iload_n C D_X9_growParts_2.2.2.2.2.2.2.1 rfl rfl ?_
                refine x_iald C _ (by first | assumption | exact (hM.2.1 _ (by decide)).2.1) rfl (by first | omega | (rw [hM.nk _ (by decide)]; omega) | (rw [hM.np _ (by decide)]; omega)) (by first | omega | (rw [hM.nk _ (by decide)]; omega) | (rw [hM.np _ (by decide)]; omega)) D_X9_growParts_2.2.2.2.2.2.2.2.1 ?_
                first
                | refine x_eqi _ (hn1) ?_
                | refine x_eqi _ (hn2_) ?_
                | refine x_eqi _ (hs2) ?_
                | skip
                refine x_iast C _ (by first | assumption | exact (hM.2.1 _ (by decide)).2.1) rfl (by first | omega | (rw [hM.nk _ (by decide)]; omega) | (rw [hM.np _ (by decide)]; omega)) (by first | omega | (rw [hM.nk _ (by decide)]; omega) | (rw [hM.np _ (by decide)]; omega)) D_X9_growParts_2.2.2.2.2.2.2.2.2.1 (fun I3 eI3 => ?_)
                first
                | refine x_iinc C (lv' := [_, _, _]) D_X9_growParts_2.2.2.2.2.2.2.2.2.2.1 rfl (x_incN_1 _) (by first | rfl | exact x_ok_q rfl) rfl ?_
                | refine x_iinc C (lv' := [_, _, _]) D_X9_growParts_2.2.2.2.2.2.2.2.2.2.1 rfl (x_inc_1 _) (by first | rfl | exact x_ok_q rfl) rfl ?_
                refine x_goto C 15 D_X9_growParts_2.2.2.2.2.2.2.2.2.2.2.1 (by decide) ?_
                refine ih_15 (k0 + 1) I3 (by omega) (by omega) (fun i hi => ?_) (fun i h1 => ?_) (fun a i h1 => ?_)
                · rw [eI3]
                  by_cases e : i = k0
                  · subst e; rw [x_u2_s, if_neg d_35]
                  · rw [x_u2_j _ _ e]; exact hJ1 i (by omega)
                · rw [eI3, x_u2_j _ _ (by omega)]; exact hJ2 i (by omega)
                · rw [eI3]
                  by_cases e : a = ar 9
                  · subst e; rw [x_u2_j _ _ (fun z => h1 ⟨rfl, by omega⟩)]; exact hfr2 _ i h1
                  · rw [x_u2_a _ _ e]; exact hfr2 a i h1
              · skip
                first
                | have d_35 := cv_eq c_35 (by omega) (by omega)
                | skip
                refine x_iload_n C D_X9_growParts_2.1 rfl rfl ?_
                refine x_iconst C (v := nI 1) D_X9_growParts_2.2.1 (by decide +kernel) ?_
                refine x_iadd C D_X9_growParts_2.2.2.1 ?_
                first
                | refine x_eqi _ (nI_add _ _) ?_
                | skip
                refine x_goto C 50 D_X9_growParts_2.2.2.2.1 (by decide) ?_
                refine x_iast C _ (by first | assumption | exact (hM.2.1 _ (by decide)).2.1) rfl (by first | omega | (rw [hM.nk _ (by decide)]; omega) | (rw [hM.np _ (by decide)]; omega)) (by first | omega | (rw [hM.nk _ (by decide)]; omega) | (rw [hM.np _ (by decide)]; omega)) D_X9_growParts_2.2.2.2.2.2.2.2.2.1 (fun I3 eI3 => ?_)
                first
                | refine x_iinc C (lv' := [_, _, _]) D_X9_growParts_2.2.2.2.2.2.2.2.2.2.1 rfl (x_incN_1 _) (by first | rfl | exact x_ok_q rfl) rfl ?_
                | refine x_iinc C (lv' := [_, _, _]) D_X9_growParts_2.2.2.2.2.2.2.2.2.2.1 rfl (x_inc_1 _) (by first | rfl | exact x_ok_q rfl) rfl ?_
                refine x_goto C 15 D_X9_growParts_2.2.2.2.2.2.2.2.2.2.2.1 (by decide) ?_
                refine ih_15 (k0 + 1) I3 (by omega) (by omega) (fun i hi => ?_) (fun i h1 => ?_) (fun a i h1 => ?_)
                · rw [eI3]
                  by_cases e : i = k0
                  · subst e; rw [x_u2_s, if_pos d_35]
                  · rw [x_u2_j _ _ e]; exact hJ1 i (by omega)
                · rw [eI3, x_u2_j _ _ (by omega)]; exact hJ2 i (by omega)
                · rw [eI3]
                  by_cases e : a = ar 9
                  · subst e; rw [x_u2_j _ _ (fun z => h1 ⟨rfl, by omega⟩)]; exact hfr2 _ i h1
                  · rw [x_u2_a _ _ e]; exact hfr2 a i h1
        exact L_15 _ 0 I1 (Nat.lt_succ_self _) (Nat.zero_le _) (fun i hi => by omega) (fun _ _ => rfl) (fun _ _ _ => rfl)
  exact L_2 _ 8 0 0 pt I _ (Nat.lt_succ_self _) rfl hpt (fun a j _ _ => rfl) (by rw [nI_0, Int32.add_zero]) rfl (Nat.zero_add _)
