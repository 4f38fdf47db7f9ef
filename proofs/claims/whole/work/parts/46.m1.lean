theorem D_X9_thrown_0 : decode cX9_thrown 0 = .ok (.aload_n 0, 1) ∧ decode cX9_thrown 1 = .ok (.getfield 44, 3) ∧ decode cX9_thrown 4 = .ok (.ireturn, 1) := by decide +kernel
theorem D_X9_can_0 : decode cX9_can 0 = .ok (.aload_n 0, 1) ∧ decode cX9_can 1 = .ok (.iload_n 1, 1) ∧ decode cX9_can 2 = .ok (.putfield 44, 3) ∧ decode cX9_can 5 = .ok (.iload_n 1, 1) ∧ decode cX9_can 6 = .ok (.ifCond .ne 7, 3) ∧ decode cX9_can 9 = .ok (.iconst 1, 1) ∧ decode cX9_can 10 = .ok (.goto 4, 3) ∧ decode cX9_can 13 = .ok (.iconst 0, 1) ∧ decode cX9_can 14 = .ok (.ireturn, 1) := by decide +kernel
theorem D_X9_depthOf_0 : decode cX9_depthOf 0 = .ok (.iconst 0, 1) ∧ decode cX9_depthOf 1 = .ok (.istore_n 1, 1) ∧ decode cX9_depthOf 2 = .ok (.iload_n 0, 1) ∧ decode cX9_depthOf 3 = .ok (.iconst 2, 1) ∧ decode cX9_depthOf 4 = .ok (.idiv, 1) ∧ decode cX9_depthOf 5 = .ok (.istore_n 2, 1) ∧ decode cX9_depthOf 6 = .ok (.iload_n 2, 1) ∧ decode cX9_depthOf 7 = .ok (.ifCond .le 13, 3) ∧ decode cX9_depthOf 10 = .ok (.iinc 1 1, 3) ∧ decode cX9_depthOf 13 = .ok (.iload_n 2, 1) ∧ decode cX9_depthOf 14 = .ok (.iconst 2, 1) ∧ decode cX9_depthOf 15 = .ok (.idiv, 1) := by decide +kernel
theorem D_X9_depthOf_1 : decode cX9_depthOf 16 = .ok (.istore_n 2, 1) ∧ decode cX9_depthOf 17 = .ok (.goto (-11), 3) ∧ decode cX9_depthOf 20 = .ok (.iload_n 1, 1) ∧ decode cX9_depthOf 21 = .ok (.ireturn, 1) := by decide +kernel
theorem D_X9_isBelow_0 : decode cX9_isBelow 0 = .ok (.iload_n 0, 1) ∧ decode cX9_isBelow 1 = .ok (.iload_n 1, 1) ∧ decode cX9_isBelow 2 = .ok (.if_icmp .lt 22, 3) ∧ decode cX9_isBelow 5 = .ok (.iload_n 0, 1) ∧ decode cX9_isBelow 6 = .ok (.iload_n 0, 1) ∧ decode cX9_isBelow 7 = .ok (.invokestatic 48, 3) ∧ decode cX9_isBelow 10 = .ok (.iload_n 1, 1) ∧ decode cX9_isBelow 11 = .ok (.invokestatic 48, 3) ∧ decode cX9_isBelow 14 = .ok (.isub, 1) ∧ decode cX9_isBelow 15 = .ok (.ishr, 1) ∧ decode cX9_isBelow 16 = .ok (.iload_n 1, 1) ∧ decode cX9_isBelow 17 = .ok (.if_icmp .ne 7, 3) := by decide +kernel
theorem D_X9_isBelow_1 : decode cX9_isBelow 20 = .ok (.iconst 1, 1) ∧ decode cX9_isBelow 21 = .ok (.goto 4, 3) ∧ decode cX9_isBelow 24 = .ok (.iconst 0, 1) ∧ decode cX9_isBelow 25 = .ok (.ireturn, 1) := by decide +kernel
theorem D_X9_moved_0 : decode cX9_moved 0 = .ok (.iload_n 0, 1) ∧ decode cX9_moved 1 = .ok (.invokestatic 48, 3) ∧ decode cX9_moved 4 = .ok (.iload_n 1, 1) ∧ decode cX9_moved 5 = .ok (.invokestatic 48, 3) ∧ decode cX9_moved 8 = .ok (.isub, 1) ∧ decode cX9_moved 9 = .ok (.istore_n 3, 1) ∧ decode cX9_moved 10 = .ok (.iload_n 2, 1) ∧ decode cX9_moved 11 = .ok (.iload_n 3, 1) ∧ decode cX9_moved 12 = .ok (.ishl, 1) ∧ decode cX9_moved 13 = .ok (.iload_n 0, 1) ∧ decode cX9_moved 14 = .ok (.iadd, 1) ∧ decode cX9_moved 15 = .ok (.iload_n 1, 1) := by decide +kernel
theorem D_X9_moved_1 : decode cX9_moved 16 = .ok (.iload_n 3, 1) ∧ decode cX9_moved 17 = .ok (.ishl, 1) ∧ decode cX9_moved 18 = .ok (.isub, 1) ∧ decode cX9_moved 19 = .ok (.ireturn, 1) := by decide +kernel
theorem D_X9_weightAt_0 : decode cX9_weightAt 0 = .ok (.iconst 0, 1) ∧ decode cX9_weightAt 1 = .ok (.istore_n 3, 1) ∧ decode cX9_weightAt 2 = .ok (.iconst 0, 1) ∧ decode cX9_weightAt 3 = .ok (.istore 4, 2) ∧ decode cX9_weightAt 5 = .ok (.iload 4, 2) ∧ decode cX9_weightAt 7 = .ok (.iload_n 1, 1) ∧ decode cX9_weightAt 8 = .ok (.if_icmp .ge 35, 3) ∧ decode cX9_weightAt 11 = .ok (.iload_n 3, 1) ∧ decode cX9_weightAt 12 = .ok (.aload_n 0, 1) ∧ decode cX9_weightAt 13 = .ok (.iload 4, 2) ∧ decode cX9_weightAt 15 = .ok (.iaload, 1) ∧ decode cX9_weightAt 16 = .ok (.ifCond .le 18, 3) := by decide +kernel
theorem D_X9_weightAt_1 : decode cX9_weightAt 19 = .ok (.aload_n 0, 1) ∧ decode cX9_weightAt 20 = .ok (.iload 4, 2) ∧ decode cX9_weightAt 22 = .ok (.iaload, 1) ∧ decode cX9_weightAt 23 = .ok (.iload_n 2, 1) ∧ decode cX9_weightAt 24 = .ok (.invokestatic 52, 3) ∧ decode cX9_weightAt 27 = .ok (.ifCond .eq 7, 3) ∧ decode cX9_weightAt 30 = .ok (.iconst 1, 1) ∧ decode cX9_weightAt 31 = .ok (.goto 4, 3) ∧ decode cX9_weightAt 34 = .ok (.iconst 0, 1) ∧ decode cX9_weightAt 35 = .ok (.iadd, 1) ∧ decode cX9_weightAt 36 = .ok (.istore_n 3, 1) ∧ decode cX9_weightAt 37 = .ok (.iinc 4 1, 3) := by decide +kernel
theorem D_X9_weightAt_2 : decode cX9_weightAt 40 = .ok (.goto (-35), 3) ∧ decode cX9_weightAt 43 = .ok (.iload_n 3, 1) ∧ decode cX9_weightAt 44 = .ok (.ireturn, 1) := by decide +kernel
theorem D_X9_nodeAt_0 : decode cX9_nodeAt 0 = .ok (.iconst (-1), 1) ∧ decode cX9_nodeAt 1 = .ok (.istore_n 3, 1) ∧ decode cX9_nodeAt 2 = .ok (.iconst 0, 1) ∧ decode cX9_nodeAt 3 = .ok (.istore 4, 2) ∧ decode cX9_nodeAt 5 = .ok (.iload 4, 2) ∧ decode cX9_nodeAt 7 = .ok (.iload_n 1, 1) ∧ decode cX9_nodeAt 8 = .ok (.if_icmp .ge 24, 3) ∧ decode cX9_nodeAt 11 = .ok (.aload_n 0, 1) ∧ decode cX9_nodeAt 12 = .ok (.iload 4, 2) ∧ decode cX9_nodeAt 14 = .ok (.iaload, 1) ∧ decode cX9_nodeAt 15 = .ok (.iload_n 2, 1) ∧ decode cX9_nodeAt 16 = .ok (.if_icmp .ne 8, 3) := by decide +kernel
theorem D_X9_nodeAt_1 : decode cX9_nodeAt 19 = .ok (.iload 4, 2) ∧ decode cX9_nodeAt 21 = .ok (.goto 4, 3) ∧ decode cX9_nodeAt 24 = .ok (.iload_n 3, 1) ∧ decode cX9_nodeAt 25 = .ok (.istore_n 3, 1) ∧ decode cX9_nodeAt 26 = .ok (.iinc 4 1, 3) ∧ decode cX9_nodeAt 29 = .ok (.goto (-24), 3) ∧ decode cX9_nodeAt 32 = .ok (.iload_n 3, 1) ∧ decode cX9_nodeAt 33 = .ok (.ireturn, 1) := by decide +kernel
theorem D_X9_heightOf_0 : decode cX9_heightOf 0 = .ok (.iconst (-1), 1) ∧ decode cX9_heightOf 1 = .ok (.istore_n 2, 1) ∧ decode cX9_heightOf 2 = .ok (.iconst 0, 1) ∧ decode cX9_heightOf 3 = .ok (.istore_n 3, 1) ∧ decode cX9_heightOf 4 = .ok (.iload_n 3, 1) ∧ decode cX9_heightOf 5 = .ok (.iload_n 1, 1) ∧ decode cX9_heightOf 6 = .ok (.if_icmp .ge 30, 3) ∧ decode cX9_heightOf 9 = .ok (.aload_n 0, 1) ∧ decode cX9_heightOf 10 = .ok (.iload_n 3, 1) ∧ decode cX9_heightOf 11 = .ok (.iaload, 1) ∧ decode cX9_heightOf 12 = .ok (.invokestatic 48, 3) ∧ decode cX9_heightOf 15 = .ok (.iload_n 2, 1) := by decide +kernel
theorem D_X9_heightOf_1 : decode cX9_heightOf 16 = .ok (.if_icmp .le 12, 3) ∧ decode cX9_heightOf 19 = .ok (.aload_n 0, 1) ∧ decode cX9_heightOf 20 = .ok (.iload_n 3, 1) ∧ decode cX9_heightOf 21 = .ok (.iaload, 1) ∧ decode cX9_heightOf 22 = .ok (.invokestatic 48, 3) ∧ decode cX9_heightOf 25 = .ok (.goto 4, 3) ∧ decode cX9_heightOf 28 = .ok (.iload_n 2, 1) ∧ decode cX9_heightOf 29 = .ok (.istore_n 2, 1) ∧ decode cX9_heightOf 30 = .ok (.iinc 3 1, 3) ∧ decode cX9_heightOf 33 = .ok (.goto (-29), 3) ∧ decode cX9_heightOf 36 = .ok (.iload_n 2, 1) ∧ decode cX9_heightOf 37 = .ok (.ireturn, 1) := by decide +kernel
theorem D_X9_boundOf_0 : decode cX9_boundOf 0 = .ok (.iconst 0, 1) ∧ decode cX9_boundOf 1 = .ok (.istore_n 1, 1) ∧ decode cX9_boundOf 2 = .ok (.ldc2_w 56, 3) ∧ decode cX9_boundOf 5 = .ok (.lstore_n 2, 1) ∧ decode cX9_boundOf 6 = .ok (.ldc2_w 58, 3) ∧ decode cX9_boundOf 9 = .ok (.lstore 4, 2) ∧ decode cX9_boundOf 11 = .ok (.lload_n 2, 1) ∧ decode cX9_boundOf 12 = .ok (.iload_n 0, 1) ∧ decode cX9_boundOf 13 = .ok (.i2l, 1) ∧ decode cX9_boundOf 14 = .ok (.lload 4, 2) ∧ decode cX9_boundOf 16 = .ok (.lmul, 1) ∧ decode cX9_boundOf 17 = .ok (.lcmp, 1) := by decide +kernel
theorem D_X9_boundOf_1 : decode cX9_boundOf 18 = .ok (.ifCond .gt 23, 3) ∧ decode cX9_boundOf 21 = .ok (.iinc 1 1, 3) ∧ decode cX9_boundOf 24 = .ok (.lload_n 2, 1) ∧ decode cX9_boundOf 25 = .ok (.ldc2_w 56, 3) ∧ decode cX9_boundOf 28 = .ok (.lmul, 1) ∧ decode cX9_boundOf 29 = .ok (.lstore_n 2, 1) ∧ decode cX9_boundOf 30 = .ok (.lload 4, 2) ∧ decode cX9_boundOf 32 = .ok (.ldc2_w 58, 3) ∧ decode cX9_boundOf 35 = .ok (.lmul, 1) ∧ decode cX9_boundOf 36 = .ok (.lstore 4, 2) ∧ decode cX9_boundOf 38 = .ok (.goto (-27), 3) ∧ decode cX9_boundOf 41 = .ok (.iload_n 1, 1) := by decide +kernel
theorem D_X9_boundOf_2 : decode cX9_boundOf 42 = .ok (.ireturn, 1) := by decide +kernel
abbrev rm_X9_thrown : Room := { frames := 0, cells := 0, slots := 0, locals := 0 }
set_option maxHeartbeats 4000000 in
set_option maxRecDepth 100000 in
theorem c_X9_thrown (l : Launch) (G : xG) {K N : Nat → Nat} {I : Nat → Nat → Int32} {Q : Nat → Nat → Option Nat} {J : Nat → Nat → Int64} (m : Nat) (h : K m = 9) : XM l yX9_thrown cX9_thrown 1 (some .int) rm_X9_thrown G Ri [.ref m] (K, N, I, Q, J) (fun r S1 => r = I m 18 ∧ S1 = (K, N, I, Q, J)) := by
  refine x_meti (lv := [_]) (by decide +kernel) (x_cc (by first | rfl | exact x_crf _) x_cn) (Nat.le_of_ble_eq_true rfl) rfl ?_
  intro pP eE sS mM aA bB hH cC Z C hini ret
  refine x_aload_n C D_X9_thrown_0.1 rfl rfl (by first | exact Or.inr ⟨_, rfl⟩ | exact va_rf_or _ | exact Or.inl rfl) ?_
  refine x_getI C (ci := 8) (k0 := 18) (by assumption) (by decide) rfl (by decide) in_X9 k_920 rfl rfl D_X9_thrown_0.2.1 ?_
  refine ret _ _ _ _ _ _ rfl D_X9_thrown_0.2.2 (Nat.le_of_ble_eq_true rfl) (Nat.le_of_ble_eq_true rfl) ?_
  exact ⟨rfl, rfl⟩
abbrev rm_X9_can : Room := { frames := 0, cells := 0, slots := 0, locals := 0 }
set_option maxHeartbeats 4000000 in
set_option maxRecDepth 100000 in
theorem c_X9_can (l : Launch) (G : xG) {K N : Nat → Nat} {I : Nat → Nat → Int32} {Q : Nat → Nat → Option Nat} {J : Nat → Nat → Int64} (m : Nat) (x : Int32) (h : K m = 9) : XM l yX9_can cX9_can 2 (some .boolean) rm_X9_can G Rz [.ref m, .int x] (K, N, I, Q, J) (fun r S1 => r = decide (x = 0) ∧ S1 = (K, N, x_u2 I m 18 x, Q, J)) := by
  refine x_metz (lv := [_, _]) (by decide +kernel) (x_cc (by first | rfl | exact x_crf _) (x_cc (by first | rfl | exact x_crf _) x_cn)) (Nat.le_of_ble_eq_true rfl) rfl ?_
  intro pP eE sS mM aA bB hH cC Z C hini ret
  refine x_aload_n C D_X9_can_0.1 rfl rfl (by first | exact Or.inr ⟨_, rfl⟩ | exact va_rf_or _ | exact Or.inl rfl) ?_
  refine x_iload_n C D_X9_can_0.2.1 rfl rfl ?_
  refine x_putI C (ci := 8) (k0 := 18) (by assumption) (by decide) rfl (by decide) in_X9 k_920 rfl tyX9 tyX9_ok nmX9 rfl (by rfl) rfl rfl rfl D_X9_can_0.2.2.1 (fun I2 eI2 => ?_)
  refine x_iload_n C D_X9_can_0.2.2.2.1 rfl rfl ?_
  refine x_if_ne C 13 D_X9_can_0.2.2.2.2.1 (by decide) (fun c_6 => ?_) (fun c_6 => ?_)
  · skip
    refine x_iconst C (v := nI 0) D_X9_can_0.2.2.2.2.2.2.2.1 (by decide +kernel) ?_
    refine ret _ _ _ _ _ _ false rfl D_X9_can_0.2.2.2.2.2.2.2.2 (Nat.le_of_ble_eq_true rfl) (Nat.le_of_ble_eq_true rfl) rfl ?_
    exact ⟨by simp [c_6], by rw [eI2]⟩
  · skip
    refine x_iconst C (v := nI 1) D_X9_can_0.2.2.2.2.2.1 (by decide +kernel) ?_
    refine x_goto C 14 D_X9_can_0.2.2.2.2.2.2.1 (by decide) ?_
    refine ret _ _ _ _ _ _ true rfl D_X9_can_0.2.2.2.2.2.2.2.2 (Nat.le_of_ble_eq_true rfl) (Nat.le_of_ble_eq_true rfl) rfl ?_
    exact ⟨by simp [c_6], by rw [eI2]⟩
abbrev rm_X9_depthOf : Room := { frames := 0, cells := 0, slots := 0, locals := 0 }
set_option maxHeartbeats 4000000 in
set_option maxRecDepth 100000 in
theorem c_X9_depthOf (l : Launch) (G : xG) {K N : Nat → Nat} {I : Nat → Nat → Int32} {Q : Nat → Nat → Option Nat} {J : Nat → Nat → Int64} (p0 : Nat) (h : p0 < 2 ^ 30) : XM l yX9_depthOf cX9_depthOf 3 (some .int) rm_X9_depthOf G Ri [.int (nI p0)] (K, N, I, Q, J) (fun r S1 => r = nI (dep p0) ∧ S1 = (K, N, I, Q, J)) := by
  refine x_meti (lv := [_, _, _]) (by decide +kernel) (x_cc (by first | rfl | exact x_crf _) x_cn) (Nat.le_of_ble_eq_true rfl) rfl ?_
  intro pP eE sS mM aA bB hH cC Z C hini ret
  refine x_iconst C (v := nI 0) D_X9_depthOf_0.1 (by decide +kernel) ?_
  refine x_istore_n C (lv' := [_, _, _]) D_X9_depthOf_0.2.1 rfl (Nat.le_of_ble_eq_true rfl) (by first | rfl | exact x_ok_q rfl) rfl ?_
  refine x_iload_n C D_X9_depthOf_0.2.2.1 rfl rfl ?_
  refine x_iconst C (v := nI 2) D_X9_depthOf_0.2.2.2.1 (by decide +kernel) ?_
  refine x_idiv C D_X9_depthOf_0.2.2.2.2.1 (by decide) ?_
  first
  | refine x_eqi _ (pk_div (by omega) (by decide) (by decide)) ?_
  | skip
  refine x_istore_n C (lv' := [_, _, _]) D_X9_depthOf_0.2.2.2.2.2.1 rfl (Nat.le_of_ble_eq_true rfl) (by first | rfl | exact x_ok_q rfl) rfl ?_
  have L_6 : ∀ (w_6 : Nat) (d r : Nat), r < w_6 → (r < 2 ^ 30) → (d + dg r = dep p0) → XW pP l eE rm_X9_depthOf sS mM aA bB hH cC G Z 0 0 (K, N, I, Q, J) 6 [some (.int (nI p0)), some (.int (nI d)), some (.int (nI r))] [] := by
    intro w_6
    induction w_6 with
    | zero =>
      intro d r hw_6
      exact absurd hw_6 (Nat.not_lt_zero _)
    | succ w_6 ih_6 =>
      intro d r hw_6 hr hF
      refine x_iload_n C D_X9_depthOf_0.2.2.2.2.2.2.1 rfl rfl ?_
      refine x_if_le C 20 D_X9_depthOf_0.2.2.2.2.2.2.2.1 (by decide) (fun c_7 => ?_) (fun c_7 => ?_)
      · skip
        first
        | have d_7 := cz_le c_7 (by omega)
        | skip
        subst d_7
        refine x_iload_n C D_X9_depthOf_1.2.2.1 rfl rfl ?_
        refine ret _ _ _ _ _ _ rfl D_X9_depthOf_1.2.2.2 (Nat.le_of_ble_eq_true rfl) (Nat.le_of_ble_eq_true rfl) ?_
        exact ⟨by rw [← hF]; rfl, rfl⟩
      · skip
        first
        | have d_7 := cz_nle c_7 (by omega)
        | skip
        have hd9 := dg_half d_7
        first
        | refine x_iinc C (lv' := [_, _, _]) D_X9_depthOf_0.2.2.2.2.2.2.2.2.1 rfl (x_incN_1 _) (by first | rfl | exact x_ok_q rfl) rfl ?_
        | refine x_iinc C (lv' := [_, _, _]) D_X9_depthOf_0.2.2.2.2.2.2.2.2.1 rfl (x_inc_1 _) (by first | rfl | exact x_ok_q rfl) rfl ?_
        refine x_iload_n C D_X9_depthOf_0.2.2.2.2.2.2.2.2.2.1 rfl rfl ?_
        refine x_iconst C (v := nI 2) D_X9_depthOf_0.2.2.2.2.2.2.2.2.2.2.1 (by decide +kernel) ?_
        refine x_idiv C D_X9_depthOf_0.2.2.2.2.2.2.2.2.2.2.2 (by decide) ?_
        first
        | refine x_eqi _ (pk_div (by omega) (by decide) (by decide)) ?_
        | skip
        refine x_istore_n C (lv' := [_, _, _]) D_X9_depthOf_1.1 rfl (Nat.le_of_ble_eq_true rfl) (by first | rfl | exact x_ok_q rfl) rfl ?_
        refine x_goto C 6 D_X9_depthOf_1.2.1 (by decide) ?_
        exact ih_6 (d + 1) (r / 2) (by omega) (by omega) (by omega)
  exact L_6 _ 0 (p0 / 2) (Nat.lt_succ_self _) (by omega) (by rw [Nat.zero_add]; exact (dep_dg p0).symm)
abbrev rm_X9_isBelow : Room := { frames := 1, cells := 0, slots := 0, locals := 22 }
theorem hd_X9_depthOf : yX9_depthOf.cls ≠ "java/lang/invoke/MethodHandle" ∧ yX9_depthOf.cls ≠ "java/lang/invoke/VarHandle" ∧ (parseMethodDescriptor yX9_depthOf.desc).map (fun d => d.parameters.length) = some 1 := by decide +kernel
set_option maxHeartbeats 4000000 in
set_option maxRecDepth 100000 in
theorem c_X9_isBelow (l : Launch) (G : xG) {K N : Nat → Nat} {I : Nat → Nat → Int32} {Q : Nat → Nat → Option Nat} {J : Nat → Nat → Int64} (p0 a : Nat) (h : p0 < 2 ^ 30) (ha : a < 2 ^ 30) : XM l yX9_isBelow cX9_isBelow 2 (some .boolean) rm_X9_isBelow G Rz [.int (nI p0), .int (nI a)] (K, N, I, Q, J) (fun r S1 => r = bel p0 a ∧ S1 = (K, N, I, Q, J)) := by
  refine x_metz (lv := [_, _]) (by decide +kernel) (x_cc (by first | rfl | exact x_crf _) (x_cc (by first | rfl | exact x_crf _) x_cn)) (Nat.le_of_ble_eq_true rfl) rfl ?_
  intro pP eE sS mM aA bB hH cC Z C hini ret
  have hdp := dep_lt30 h
  have hda := dep_lt30 ha
  refine x_iload_n C D_X9_isBelow_0.1 rfl rfl ?_
  refine x_iload_n C D_X9_isBelow_0.2.1 rfl rfl ?_
  refine x_icmp_lt C 24 D_X9_isBelow_0.2.2.1 (by decide) (fun c_2 => ?_) (fun c_2 => ?_)
  · skip
    first
    | have d_2 := cv_lt c_2 (by omega) (by omega)
    | skip
    refine x_iconst C (v := nI 0) D_X9_isBelow_1.2.2.1 (by decide +kernel) ?_
    refine ret _ _ _ _ _ _ false rfl D_X9_isBelow_1.2.2.2 (Nat.le_of_ble_eq_true rfl) (Nat.le_of_ble_eq_true rfl) rfl ?_
    exact ⟨by simp only [bel]; rw [decide_eq_false]; omega, rfl⟩
  · skip
    first
    | have d_2 := cv_nlt c_2 (by omega) (by omega)
    | skip
    have hdm := dep_mono d_2
    have hpp : p0 / 2 ^ (dep p0 - dep a) ≤ p0 := Nat.div_le_self _ _
    refine x_iload_n C D_X9_isBelow_0.2.2.2.1 rfl rfl ?_
    refine x_iload_n C D_X9_isBelow_0.2.2.2.2.1 rfl rfl ?_
    refine x_callSi C (y := yX9_depthOf) (c_X9_depthOf l G p0 h) k_1011 k_1012 k_67 k_1013 hd_X9_depthOf ⟨(Nat.le_of_ble_eq_true rfl), (Nat.le_of_ble_eq_true rfl)⟩ rfl (by first | exact Nat.le_of_ble_eq_true rfl | simp [x_crf, Value.category]) rfl rfl D_X9_isBelow_0.2.2.2.2.2.1 ⟨(Nat.le_of_ble_eq_true rfl), (Nat.le_of_ble_eq_true rfl)⟩ (fun r_7 S_7 h_7 => ?_)
    obtain ⟨rfl, rfl⟩ := h_7
    refine x_iload_n C D_X9_isBelow_0.2.2.2.2.2.2.1 rfl rfl ?_
    refine x_callSi C (y := yX9_depthOf) (c_X9_depthOf l G a ha) k_1011 k_1012 k_67 k_1013 hd_X9_depthOf ⟨(Nat.le_of_ble_eq_true rfl), (Nat.le_of_ble_eq_true rfl)⟩ rfl (by first | exact Nat.le_of_ble_eq_true rfl | simp [x_crf, Value.category]) rfl rfl D_X9_isBelow_0.2.2.2.2.2.2.2.1 ⟨(Nat.le_of_ble_eq_true rfl), (Nat.le_of_ble_eq_true rfl)⟩ (fun r_11 S_11 h_11 => ?_)
    obtain ⟨rfl, rfl⟩ := h_11
    refine x_isub C D_X9_isBelow_0.2.2.2.2.2.2.2.2.1 ?_
    first
    | refine x_eqi _ (pk_sub (by omega)) ?_
    | skip
    refine x_ishr C D_X9_isBelow_0.2.2.2.2.2.2.2.2.2.1 ?_
    first
    | refine x_eqi _ (nI_shr (by omega) (by omega)) ?_
    | skip
    refine x_iload_n C D_X9_isBelow_0.2.2.2.2.2.2.2.2.2.2.1 rfl rfl ?_
    refine x_icmp_ne C 24 D_X9_isBelow_0.2.2.2.2.2.2.2.2.2.2.2 (by decide) (fun c_17 => ?_) (fun c_17 => ?_)
    · skip
      first
      | have d_17 := cv_ne c_17 (by omega) (by omega)
      | skip
      refine x_iconst C (v := nI 0) D_X9_isBelow_1.2.2.1 (by decide +kernel) ?_
      refine ret _ _ _ _ _ _ false rfl D_X9_isBelow_1.2.2.2 (Nat.le_of_ble_eq_true rfl) (Nat.le_of_ble_eq_true rfl) rfl ?_
      exact ⟨by simp only [bel]; rw [decide_eq_false]; exact fun z => d_17 z.2, rfl⟩
    · skip
      first
      | have d_17 := cv_eq c_17 (by omega) (by omega)
      | skip
      refine x_iconst C (v := nI 1) D_X9_isBelow_1.1 (by decide +kernel) ?_
      refine x_goto C 25 D_X9_isBelow_1.2.1 (by decide) ?_
      refine ret _ _ _ _ _ _ true rfl D_X9_isBelow_1.2.2.2 (Nat.le_of_ble_eq_true rfl) (Nat.le_of_ble_eq_true rfl) rfl ?_
      exact ⟨by simp only [bel]; rw [decide_eq_true]; exact ⟨d_2, d_17⟩, rfl⟩
abbrev rm_X9_moved : Room := { frames := 1, cells := 0, slots := 0, locals := 22 }
set_option maxHeartbeats 4000000 in
set_option maxRecDepth 100000 in
theorem c_X9_moved (l : Launch) (G : xG) {K N : Nat → Nat} {I : Nat → Nat → Int32} {Q : Nat → Nat → Option Nat} {J : Nat → Nat → Int64} (x a b : Nat) (hx : x < 2 ^ 30) (ha : a < 2 ^ 30) (hd : dep a ≤ dep x) (hle : a * 2 ^ (dep x - dep a) ≤ x) (hb : b * 2 ^ (dep x - dep a) < 2 ^ 30) : XM l yX9_moved cX9_moved 4 (some .int) rm_X9_moved G Ri [.int (nI x), .int (nI a), .int (nI b)] (K, N, I, Q, J) (fun r S1 => r = nI (mvd x a b) ∧ S1 = (K, N, I, Q, J)) := by
  refine x_meti (lv := [_, _, _, _]) (by decide +kernel) (x_cc (by first | rfl | exact x_crf _) (x_cc (by first | rfl | exact x_crf _) (x_cc (by first | rfl | exact x_crf _) x_cn))) (Nat.le_of_ble_eq_true rfl) rfl ?_
  intro pP eE sS mM aA bB hH cC Z C hini ret
  have hdp := dep_lt30 hx
  have hda := dep_lt30 ha
  refine x_iload_n C D_X9_moved_0.1 rfl rfl ?_
  refine x_callSi C (y := yX9_depthOf) (c_X9_depthOf l G x hx) k_1011 k_1012 k_67 k_1013 hd_X9_depthOf ⟨(Nat.le_of_ble_eq_true rfl), (Nat.le_of_ble_eq_true rfl)⟩ rfl (by first | exact Nat.le_of_ble_eq_true rfl | simp [x_crf, Value.category]) rfl rfl D_X9_moved_0.2.1 ⟨(Nat.le_of_ble_eq_true rfl), (Nat.le_of_ble_eq_true rfl)⟩ (fun r_1 S_1 h_1 => ?_)
  obtain ⟨rfl, rfl⟩ := h_1
  refine x_iload_n C D_X9_moved_0.2.2.1 rfl rfl ?_
  refine x_callSi C (y := yX9_depthOf) (c_X9_depthOf l G a ha) k_1011 k_1012 k_67 k_1013 hd_X9_depthOf ⟨(Nat.le_of_ble_eq_true rfl), (Nat.le_of_ble_eq_true rfl)⟩ rfl (by first | exact Nat.le_of_ble_eq_true rfl | simp [x_crf, Value.category]) rfl rfl D_X9_moved_0.2.2.2.1 ⟨(Nat.le_of_ble_eq_true rfl), (Nat.le_of_ble_eq_true rfl)⟩ (fun r_5 S_5 h_5 => ?_)
  obtain ⟨rfl, rfl⟩ := h_5
  refine x_isub C D_X9_moved_0.2.2.2.2.1 ?_
  first
  | refine x_eqi _ (pk_sub (by omega)) ?_
  | skip
  refine x_istore_n C (lv' := [_, _, _, _]) D_X9_moved_0.2.2.2.2.2.1 rfl (Nat.le_of_ble_eq_true rfl) (by first | rfl | exact x_ok_q rfl) rfl ?_
  refine x_iload_n C D_X9_moved_0.2.2.2.2.2.2.1 rfl rfl ?_
  refine x_iload_n C D_X9_moved_0.2.2.2.2.2.2.2.1 rfl rfl ?_
  refine x_ishl C D_X9_moved_0.2.2.2.2.2.2.2.2.1 ?_
  first
  | refine x_eqi _ (nI_shl (by omega) (by omega)) ?_
  | skip
  refine x_iload_n C D_X9_moved_0.2.2.2.2.2.2.2.2.2.1 rfl rfl ?_
  refine x_iadd C D_X9_moved_0.2.2.2.2.2.2.2.2.2.2.1 ?_
  first
  | refine x_eqi _ (nI_add _ _) ?_
  | skip
  refine x_iload_n C D_X9_moved_0.2.2.2.2.2.2.2.2.2.2.2 rfl rfl ?_
  refine x_iload_n C D_X9_moved_1.1 rfl rfl ?_
  refine x_ishl C D_X9_moved_1.2.1 ?_
  first
  | refine x_eqi _ (nI_shl (by omega) (by omega)) ?_
  | skip
  refine x_isub C D_X9_moved_1.2.2.1 ?_
  first
  | refine x_eqi _ (pk_sub (by omega)) ?_
  | skip
  refine ret _ _ _ _ _ _ rfl D_X9_moved_1.2.2.2 (Nat.le_of_ble_eq_true rfl) (Nat.le_of_ble_eq_true rfl) ?_
  exact ⟨by unfold mvd; rw [Nat.add_sub_assoc hle], rfl⟩
abbrev rm_X9_weightAt : Room := { frames := 2, cells := 0, slots := 0, locals := 43 }
theorem hd_X9_isBelow : yX9_isBelow.cls ≠ "java/lang/invoke/MethodHandle" ∧ yX9_isBelow.cls ≠ "java/lang/invoke/VarHandle" ∧ (parseMethodDescriptor yX9_isBelow.desc).map (fun d => d.parameters.length) = some 2 := by decide +kernel
set_option maxHeartbeats 4000000 in
set_option maxRecDepth 100000 in
theorem c_X9_weightAt (l : Launch) (G : xG) {K N : Nat → Nat} {I : Nat → Nat → Int32} {Q : Nat → Nat → Option Nat} {J : Nat → Nat → Int64} (sq n p0 : Nat) (f : Nat → Nat) (hk : K sq = 21) (hN : n ≤ N sq) (hN2 : N sq < 2 ^ 31) (hn : n < 1000) (hp : p0 < 2 ^ 30) (hf : ∀ i, i < n → I sq i = nI (f i) ∧ f i < 2 ^ 30) : XM l yX9_weightAt cX9_weightAt 5 (some .int) rm_X9_weightAt G Ri [.ref sq, .int (nI n), .int (nI p0)] (K, N, I, Q, J) (fun r S1 => r = nI (cn (fun i => decide (0 < f i) && bel (f i) p0) n) ∧ S1 = (K, N, I, Q, J)) := by
  refine x_meti (lv := [_, _, _, _, _]) (by decide +kernel) (x_cc (by first | rfl | exact x_crf _) (x_cc (by first | rfl | exact x_crf _) (x_cc (by first | rfl | exact x_crf _) x_cn))) (Nat.le_of_ble_eq_true rfl) rfl ?_
  intro pP eE sS mM aA bB hH cC Z C hini ret
  refine x_iconst C (v := nI 0) D_X9_weightAt_0.1 (by decide +kernel) ?_
  refine x_istore_n C (lv' := [_, _, _, _, _]) D_X9_weightAt_0.2.1 rfl (Nat.le_of_ble_eq_true rfl) (by first | rfl | exact x_ok_q rfl) rfl ?_
  refine x_iconst C (v := nI 0) D_X9_weightAt_0.2.2.1 (by decide +kernel) ?_
  refine x_istore C (lv' := [_, _, _, _, _]) D_X9_weightAt_0.2.2.2.1 (Nat.le_of_ble_eq_true rfl) (by first | rfl | exact x_ok_q rfl) rfl ?_
  have L_5 : ∀ (w_5 : Nat) (k0 : Nat), n - k0 < w_5 → (k0 ≤ n) → XW pP l eE rm_X9_weightAt sS mM aA bB hH cC G Z 0 0 (K, N, I, Q, J) 5 [some (.ref sq), some (.int (nI n)), some (.int (nI p0)), some (.int (nI (cn (fun i => decide (0 < f i) && bel (f i) p0) k0))), some (.int (nI k0))] [] := by
    intro w_5
    induction w_5 with
    | zero =>
      intro k0 hw_5
      exact absurd hw_5 (Nat.not_lt_zero _)
    | succ w_5 ih_5 =>
      intro k0 hw_5 hk0
      refine x_iload C D_X9_weightAt_0.2.2.2.2.1 rfl ?_
      refine x_iload_n C D_X9_weightAt_0.2.2.2.2.2.1 rfl rfl ?_
      refine x_icmp_ge C 43 D_X9_weightAt_0.2.2.2.2.2.2.1 (by decide) (fun c_8 => ?_) (fun c_8 => ?_)
      · skip
        first
        | have d_8 := cv_le c_8 (by omega) (by omega)
        | skip
        obtain rfl : k0 = n := by omega
        refine x_iload_n C D_X9_weightAt_2.2.1 rfl rfl ?_
        refine ret _ _ _ _ _ _ rfl D_X9_weightAt_2.2.2 (Nat.le_of_ble_eq_true rfl) (Nat.le_of_ble_eq_true rfl) ?_
        exact ⟨rfl, rfl⟩
      · skip
        first
        | have d_8 := cv_nle c_8 (by omega) (by omega)
        | skip
        have hfk := (hf k0 (by omega)).2
        have hcl := cn_le (fun i => decide (0 < f i) && bel (f i) p0) k0
        refine x_iload_n C D_X9_weightAt_0.2.2.2.2.2.2.2.1 rfl rfl ?_
        refine x_aload_n C D_X9_weightAt_0.2.2.2.2.2.2.2.2.1 rfl rfl (by first | exact Or.inr ⟨_, rfl⟩ | exact va_rf_or _ | exact Or.inl rfl) ?_
        refine x_iload C D_X9_weightAt_0.2.2.2.2.2.2.2.2.2.1 rfl ?_
        refine x_iald C _ (by first | assumption | exact (hM.2.1 _ (by decide)).2.1) rfl (by first | omega | (rw [hM.nk _ (by decide)]; omega) | (rw [hM.np _ (by decide)]; omega)) (by first | omega | (rw [hM.nk _ (by decide)]; omega) | (rw [hM.np _ (by decide)]; omega)) D_X9_weightAt_0.2.2.2.2.2.2.2.2.2.2.1 ?_
        first
        | refine x_eqi _ ((hf _ (by omega)).1) ?_
        | skip
        refine x_if_le C 34 D_X9_weightAt_0.2.2.2.2.2.2.2.2.2.2.2 (by decide) (fun c_16 => ?_) (fun c_16 => ?_)
        · skip
          first
          | have d_16 := cz_le c_16 (by omega)
          | skip
          have hs : cn (fun i => decide (0 < f i) && bel (f i) p0) (k0 + 1) = cn (fun i => decide (0 < f i) && bel (f i) p0) k0 + 0 := by simp [cn, d_16]
          refine x_iconst C (v := nI 0) D_X9_weightAt_1.2.2.2.2.2.2.2.2.1 (by decide +kernel) ?_
          refine x_iadd C D_X9_weightAt_1.2.2.2.2.2.2.2.2.2.1 ?_
          first
          | refine x_eqi _ (nI_add _ _) ?_
          | skip
          refine x_istore_n C (lv' := [_, _, _, _, _]) D_X9_weightAt_1.2.2.2.2.2.2.2.2.2.2.1 rfl (Nat.le_of_ble_eq_true rfl) (by first | rfl | exact x_ok_q rfl) rfl ?_
          first
          | refine x_iinc C (lv' := [_, _, _, _, _]) D_X9_weightAt_1.2.2.2.2.2.2.2.2.2.2.2 rfl (x_incN_1 _) (by first | rfl | exact x_ok_q rfl) rfl ?_
          | refine x_iinc C (lv' := [_, _, _, _, _]) D_X9_weightAt_1.2.2.2.2.2.2.2.2.2.2.2 rfl (x_inc_1 _) (by first | rfl | exact x_ok_q rfl) rfl ?_
          refine x_goto C 5 D_X9_weightAt_2.1 (by decide) ?_
          rw [← hs]
          exact ih_5 (k0 + 1) (by omega) (by omega)
        · skip
          first
          | have d_16 := cz_nle c_16 (by omega)
          | skip
          refine x_aload_n C D_X9_weightAt_1.1 rfl rfl (by first | exact Or.inr ⟨_, rfl⟩ | exact va_rf_or _ | exact Or.inl rfl) ?_
          refine x_iload C D_X9_weightAt_1.2.1 rfl ?_
          refine x_iald C _ (by first | assumption | exact (hM.2.1 _ (by decide)).2.1) rfl (by first | omega | (rw [hM.nk _ (by decide)]; omega) | (rw [hM.np _ (by decide)]; omega)) (by first | omega | (rw [hM.nk _ (by decide)]; omega) | (rw [hM.np _ (by decide)]; omega)) D_X9_weightAt_1.2.2.1 ?_
          first
          | refine x_eqi _ ((hf _ (by omega)).1) ?_
          | skip
          refine x_iload_n C D_X9_weightAt_1.2.2.2.1 rfl rfl ?_
          refine x_callSz C (y := yX9_isBelow) (c_X9_isBelow l G (f k0) p0 hfk hp) k_1008 k_1009 k_67 k_1010 hd_X9_isBelow ⟨(Nat.le_of_ble_eq_true rfl), (Nat.le_of_ble_eq_true rfl)⟩ rfl (by first | exact Nat.le_of_ble_eq_true rfl | simp [x_crf, Value.category]) rfl rfl D_X9_weightAt_1.2.2.2.2.1 ⟨(Nat.le_of_ble_eq_true rfl), (Nat.le_of_ble_eq_true rfl)⟩ (fun r_24 S_24 h_24 => ?_)
          obtain ⟨rfl, rfl⟩ := h_24
          refine x_if_eq C 34 D_X9_weightAt_1.2.2.2.2.2.1 (by decide) (fun c_27 => ?_) (fun c_27 => ?_)
          · skip
            first
            | have d_27 := cz_eq c_27 (by omega)
            | have d_27 := cb_eq c_27
            | skip
            have hs : cn (fun i => decide (0 < f i) && bel (f i) p0) (k0 + 1) = cn (fun i => decide (0 < f i) && bel (f i) p0) k0 + 0 := by simp [cn, d_27]
            refine x_iconst C (v := nI 0) D_X9_weightAt_1.2.2.2.2.2.2.2.2.1 (by decide +kernel) ?_
            refine x_iadd C D_X9_weightAt_1.2.2.2.2.2.2.2.2.2.1 ?_
            first
            | refine x_eqi _ (nI_add _ _) ?_
            | skip
            refine x_istore_n C (lv' := [_, _, _, _, _]) D_X9_weightAt_1.2.2.2.2.2.2.2.2.2.2.1 rfl (Nat.le_of_ble_eq_true rfl) (by first | rfl | exact x_ok_q rfl) rfl ?_
            first
            | refine x_iinc C (lv' := [_, _, _, _, _]) D_X9_weightAt_1.2.2.2.2.2.2.2.2.2.2.2 rfl (x_incN_1 _) (by first | rfl | exact x_ok_q rfl) rfl ?_
            | refine x_iinc C (lv' := [_, _, _, _, _]) D_X9_weightAt_1.2.2.2.2.2.2.2.2.2.2.2 rfl (x_inc_1 _) (by first | rfl | exact x_ok_q rfl) rfl ?_
            refine x_goto C 5 D_X9_weightAt_2.1 (by decide) ?_
            rw [← hs]
            exact ih_5 (k0 + 1) (by omega) (by omega)
          · skip
            first
            | have d_27 := cz_ne c_27 (by omega)
            | have d_27 := cb_ne c_27
            | skip
            have hs : cn (fun i => decide (0 < f i) && bel (f i) p0) (k0 + 1) = cn (fun i => decide (0 < f i) && bel (f i) p0) k0 + 1 := by simp [cn, d_16, d_27]
            refine x_iconst C (v := nI 1) D_X9_weightAt_1.2.2.2.2.2.2.1 (by decide +kernel) ?_
            refine x_goto C 35 D_X9_weightAt_1.2.2.2.2.2.2.2.1 (by decide) ?_
            refine x_iadd C D_X9_weightAt_1.2.2.2.2.2.2.2.2.2.1 ?_
            first
            | refine x_eqi _ (nI_add _ _) ?_
            | skip
            refine x_istore_n C (lv' := [_, _, _, _, _]) D_X9_weightAt_1.2.2.2.2.2.2.2.2.2.2.1 rfl (Nat.le_of_ble_eq_true rfl) (by first | rfl | exact x_ok_q rfl) rfl ?_
            first
            | refine x_iinc C (lv' := [_, _, _, _, _]) D_X9_weightAt_1.2.2.2.2.2.2.2.2.2.2.2 rfl (x_incN_1 _) (by first | rfl | exact x_ok_q rfl) rfl ?_
            | refine x_iinc C (lv' := [_, _, _, _, _]) D_X9_weightAt_1.2.2.2.2.2.2.2.2.2.2.2 rfl (x_inc_1 _) (by first | rfl | exact x_ok_q rfl) rfl ?_
            refine x_goto C 5 D_X9_weightAt_2.1 (by decide) ?_
            rw [← hs]
            exact ih_5 (k0 + 1) (by omega) (by omega)
  exact L_5 _ 0 (Nat.lt_succ_self _) (Nat.zero_le _)
abbrev rm_X9_nodeAt : Room := { frames := 0, cells := 0, slots := 0, locals := 0 }
set_option maxHeartbeats 4000000 in
set_option maxRecDepth 100000 in
theorem c_X9_nodeAt (l : Launch) (G : xG) {K N : Nat → Nat} {I : Nat → Nat → Int32} {Q : Nat → Nat → Option Nat} {J : Nat → Nat → Int64} (sq n p0 : Nat) (f : Nat → Nat) (hk : K sq = 21) (hN : n ≤ N sq) (hN2 : N sq < 2 ^ 31) (hn : n < 1000) (hp : p0 < 2 ^ 31) (hf : ∀ i, i < n → I sq i = nI (f i) ∧ f i < 2 ^ 31) : XM l yX9_nodeAt cX9_nodeAt 5 (some .int) rm_X9_nodeAt G Ri [.ref sq, .int (nI n), .int (nI p0)] (K, N, I, Q, J) (fun r S1 => r = oI (lastF (fun i => decide (f i = p0)) n) ∧ S1 = (K, N, I, Q, J)) := by
  refine x_meti (lv := [_, _, _, _, _]) (by decide +kernel) (x_cc (by first | rfl | exact x_crf _) (x_cc (by first | rfl | exact x_crf _) (x_cc (by first | rfl | exact x_crf _) x_cn))) (Nat.le_of_ble_eq_true rfl) rfl ?_
  intro pP eE sS mM aA bB hH cC Z C hini ret
  refine x_iconst C (v := (-1)) D_X9_nodeAt_0.1 (by decide +kernel) ?_
  refine x_istore_n C (lv' := [_, _, _, _, _]) D_X9_nodeAt_0.2.1 rfl (Nat.le_of_ble_eq_true rfl) (by first | rfl | exact x_ok_q rfl) rfl ?_
  refine x_iconst C (v := nI 0) D_X9_nodeAt_0.2.2.1 (by decide +kernel) ?_
  refine x_istore C (lv' := [_, _, _, _, _]) D_X9_nodeAt_0.2.2.2.1 (Nat.le_of_ble_eq_true rfl) (by first | rfl | exact x_ok_q rfl) rfl ?_
  have L_5 : ∀ (w_5 : Nat) (k0 : Nat), n - k0 < w_5 → (k0 ≤ n) → XW pP l eE rm_X9_nodeAt sS mM aA bB hH cC G Z 0 0 (K, N, I, Q, J) 5 [some (.ref sq), some (.int (nI n)), some (.int (nI p0)), some (.int (oI (lastF (fun i => decide (f i = p0)) k0))), some (.int (nI k0))] [] := by
    intro w_5
    induction w_5 with
    | zero =>
      intro k0 hw_5
      exact absurd hw_5 (Nat.not_lt_zero _)
    | succ w_5 ih_5 =>
      intro k0 hw_5 hk0
      refine x_iload C D_X9_nodeAt_0.2.2.2.2.1 rfl ?_
      refine x_iload_n C D_X9_nodeAt_0.2.2.2.2.2.1 rfl rfl ?_
      refine x_icmp_ge C 32 D_X9_nodeAt_0.2.2.2.2.2.2.1 (by decide) (fun c_8 => ?_) (fun c_8 => ?_)
      · skip
        first
        | have d_8 := cv_le c_8 (by omega) (by omega)
        | skip
        obtain rfl : k0 = n := by omega
        refine x_iload_n C D_X9_nodeAt_1.2.2.2.2.2.2.1 rfl rfl ?_
        refine ret _ _ _ _ _ _ rfl D_X9_nodeAt_1.2.2.2.2.2.2.2 (Nat.le_of_ble_eq_true rfl) (Nat.le_of_ble_eq_true rfl) ?_
        exact ⟨rfl, rfl⟩
      · skip
        first
        | have d_8 := cv_nle c_8 (by omega) (by omega)
        | skip
        have hfk := (hf k0 (by omega)).2
        refine x_aload_n C D_X9_nodeAt_0.2.2.2.2.2.2.2.1 rfl rfl (by first | exact Or.inr ⟨_, rfl⟩ | exact va_rf_or _ | exact Or.inl rfl) ?_
        refine x_iload C D_X9_nodeAt_0.2.2.2.2.2.2.2.2.1 rfl ?_
        refine x_iald C _ (by first | assumption | exact (hM.2.1 _ (by decide)).2.1) rfl (by first | omega | (rw [hM.nk _ (by decide)]; omega) | (rw [hM.np _ (by decide)]; omega)) (by first | omega | (rw [hM.nk _ (by decide)]; omega) | (rw [hM.np _ (by decide)]; omega)) D_X9_nodeAt_0.2.2.2.2.2.2.2.2.2.1 ?_
        first
        | refine x_eqi _ ((hf _ (by omega)).1) ?_
        | skip
        refine x_iload_n C D_X9_nodeAt_0.2.2.2.2.2.2.2.2.2.2.1 rfl rfl ?_
        refine x_icmp_ne C 24 D_X9_nodeAt_0.2.2.2.2.2.2.2.2.2.2.2 (by decide) (fun c_16 => ?_) (fun c_16 => ?_)
        · skip
          first
          | have d_16 := cv_ne c_16 (by omega) (by omega)
          | skip
          have hs : oI (lastF (fun i => decide (f i = p0)) (k0 + 1)) = oI (lastF (fun i => decide (f i = p0)) k0) := by simp [lastF, d_16]
          refine x_iload_n C D_X9_nodeAt_1.2.2.1 rfl rfl ?_
          refine x_istore_n C (lv' := [_, _, _, _, _]) D_X9_nodeAt_1.2.2.2.1 rfl (Nat.le_of_ble_eq_true rfl) (by first | rfl | exact x_ok_q rfl) rfl ?_
          first
          | refine x_iinc C (lv' := [_, _, _, _, _]) D_X9_nodeAt_1.2.2.2.2.1 rfl (x_incN_1 _) (by first | rfl | exact x_ok_q rfl) rfl ?_
          | refine x_iinc C (lv' := [_, _, _, _, _]) D_X9_nodeAt_1.2.2.2.2.1 rfl (x_inc_1 _) (by first | rfl | exact x_ok_q rfl) rfl ?_
          refine x_goto C 5 D_X9_nodeAt_1.2.2.2.2.2.1 (by decide) ?_
          rw [← hs]
          exact ih_5 (k0 + 1) (by omega) (by omega)
        · skip
          first
          | have d_16 := cv_eq c_16 (by omega) (by omega)
          | skip
          have hs : oI (lastF (fun i => decide (f i = p0)) (k0 + 1)) = nI k0 := by simp [lastF, d_16, oI]
          refine x_iload C D_X9_nodeAt_1.1 rfl ?_
          refine x_goto C 25 D_X9_nodeAt_1.2.1 (by decide) ?_
          refine x_istore_n C (lv' := [_, _, _, _, _]) D_X9_nodeAt_1.2.2.2.1 rfl (Nat.le_of_ble_eq_true rfl) (by first | rfl | exact x_ok_q rfl) rfl ?_
          first
          | refine x_iinc C (lv' := [_, _, _, _, _]) D_X9_nodeAt_1.2.2.2.2.1 rfl (x_incN_1 _) (by first | rfl | exact x_ok_q rfl) rfl ?_
          | refine x_iinc C (lv' := [_, _, _, _, _]) D_X9_nodeAt_1.2.2.2.2.1 rfl (x_inc_1 _) (by first | rfl | exact x_ok_q rfl) rfl ?_
          refine x_goto C 5 D_X9_nodeAt_1.2.2.2.2.2.1 (by decide) ?_
          rw [← hs]
          exact ih_5 (k0 + 1) (by omega) (by omega)
  exact L_5 _ 0 (Nat.lt_succ_self _) (Nat.zero_le _)
abbrev rm_X9_heightOf : Room := { frames := 1, cells := 0, slots := 0, locals := 22 }
set_option maxHeartbeats 4000000 in
set_option maxRecDepth 100000 in
theorem c_X9_heightOf (l : Launch) (G : xG) {K N : Nat → Nat} {I : Nat → Nat → Int32} {Q : Nat → Nat → Option Nat} {J : Nat → Nat → Int64} (sq n : Nat) (f : Nat → Nat) (hk : K sq = 21) (hN : n ≤ N sq) (hN2 : N sq < 2 ^ 31) (hn : n < 1000) (hf : ∀ i, i < n → I sq i = nI (f i) ∧ f i < 2 ^ 30) : XM l yX9_heightOf cX9_heightOf 4 (some .int) rm_X9_heightOf G Ri [.ref sq, .int (nI n)] (K, N, I, Q, J) (fun r S1 => r = nI (hmx f n) - nI 1 ∧ S1 = (K, N, I, Q, J)) := by
  refine x_meti (lv := [_, _, _, _]) (by decide +kernel) (x_cc (by first | rfl | exact x_crf _) (x_cc (by first | rfl | exact x_crf _) x_cn)) (Nat.le_of_ble_eq_true rfl) rfl ?_
  intro pP eE sS mM aA bB hH cC Z C hini ret
  have hmb : ∀ k, k ≤ n → hmx f k ≤ 30 := fun k hk => hmx_le (fun i hi => dep_lt30 (hf i (by omega)).2)
  refine x_iconst C (v := (-1)) D_X9_heightOf_0.1 (by decide +kernel) ?_
  refine x_istore_n C (lv' := [_, _, _, _]) D_X9_heightOf_0.2.1 rfl (Nat.le_of_ble_eq_true rfl) (by first | rfl | exact x_ok_q rfl) rfl ?_
  refine x_iconst C (v := nI 0) D_X9_heightOf_0.2.2.1 (by decide +kernel) ?_
  refine x_istore_n C (lv' := [_, _, _, _]) D_X9_heightOf_0.2.2.2.1 rfl (Nat.le_of_ble_eq_true rfl) (by first | rfl | exact x_ok_q rfl) rfl ?_
  have L_4 : ∀ (w_4 : Nat) (k0 : Nat), n - k0 < w_4 → (k0 ≤ n) → XW pP l eE rm_X9_heightOf sS mM aA bB hH cC G Z 0 0 (K, N, I, Q, J) 4 [some (.ref sq), some (.int (nI n)), some (.int (nI (hmx f k0) - nI 1)), some (.int (nI k0))] [] := by
    intro w_4
    induction w_4 with
    | zero =>
      intro k0 hw_4
      exact absurd hw_4 (Nat.not_lt_zero _)
    | succ w_4 ih_4 =>
      intro k0 hw_4 hk0
      refine x_iload_n C D_X9_heightOf_0.2.2.2.2.1 rfl rfl ?_
      refine x_iload_n C D_X9_heightOf_0.2.2.2.2.2.1 rfl rfl ?_
      refine x_icmp_ge C 36 D_X9_heightOf_0.2.2.2.2.2.2.1 (by decide) (fun c_6 => ?_) (fun c_6 => ?_)
      · skip
        first
        | have d_6 := cv_le c_6 (by omega) (by omega)
        | skip
        obtain rfl : k0 = n := by omega
        refine x_iload_n C D_X9_heightOf_1.2.2.2.2.2.2.2.2.2.2.1 rfl rfl ?_
        refine ret _ _ _ _ _ _ rfl D_X9_heightOf_1.2.2.2.2.2.2.2.2.2.2.2 (Nat.le_of_ble_eq_true rfl) (Nat.le_of_ble_eq_true rfl) ?_
        exact ⟨rfl, rfl⟩
      · skip
        first
        | have d_6 := cv_nle c_6 (by omega) (by omega)
        | skip
        have hfk := (hf k0 (by omega)).2
        have hb9 := hmb k0 (by omega)
        have hd9 := dep_lt30 hfk
        refine x_aload_n C D_X9_heightOf_0.2.2.2.2.2.2.2.1 rfl rfl (by first | exact Or.inr ⟨_, rfl⟩ | exact va_rf_or _ | exact Or.inl rfl) ?_
        refine x_iload_n C D_X9_heightOf_0.2.2.2.2.2.2.2.2.1 rfl rfl ?_
        refine x_iald C _ (by first | assumption | exact (hM.2.1 _ (by decide)).2.1) rfl (by first | omega | (rw [hM.nk _ (by decide)]; omega) | (rw [hM.np _ (by decide)]; omega)) (by first | omega | (rw [hM.nk _ (by decide)]; omega) | (rw [hM.np _ (by decide)]; omega)) D_X9_heightOf_0.2.2.2.2.2.2.2.2.2.1 ?_
        first
        | refine x_eqi _ ((hf _ (by omega)).1) ?_
        | skip
        refine x_callSi C (y := yX9_depthOf) (c_X9_depthOf l G (f k0) hfk) k_1011 k_1012 k_67 k_1013 hd_X9_depthOf ⟨(Nat.le_of_ble_eq_true rfl), (Nat.le_of_ble_eq_true rfl)⟩ rfl (by first | exact Nat.le_of_ble_eq_true rfl | simp [x_crf, Value.category]) rfl rfl D_X9_heightOf_0.2.2.2.2.2.2.2.2.2.2.1 ⟨(Nat.le_of_ble_eq_true rfl), (Nat.le_of_ble_eq_true rfl)⟩ (fun r_12 S_12 h_12 => ?_)
        obtain ⟨rfl, rfl⟩ := h_12
        refine x_iload_n C D_X9_heightOf_0.2.2.2.2.2.2.2.2.2.2.2 rfl rfl ?_
        refine x_icmp_le C 28 D_X9_heightOf_1.1 (by decide) (fun c_16 => ?_) (fun c_16 => ?_)
        · skip
          have d1 : dep (f k0) + 1 ≤ hmx f k0 := by
            have h9 := i32_le.mp c_16
            rw [nI_toInt (by omega), pk_sub_toInt (by omega) (by omega)] at h9
            omega
          have hs : hmx f (k0 + 1) = hmx f k0 := by simp only [hmx]; omega
          refine x_iload_n C D_X9_heightOf_1.2.2.2.2.2.2.1 rfl rfl ?_
          refine x_istore_n C (lv' := [_, _, _, _]) D_X9_heightOf_1.2.2.2.2.2.2.2.1 rfl (Nat.le_of_ble_eq_true rfl) (by first | rfl | exact x_ok_q rfl) rfl ?_
          first
          | refine x_iinc C (lv' := [_, _, _, _]) D_X9_heightOf_1.2.2.2.2.2.2.2.2.1 rfl (x_incN_1 _) (by first | rfl | exact x_ok_q rfl) rfl ?_
          | refine x_iinc C (lv' := [_, _, _, _]) D_X9_heightOf_1.2.2.2.2.2.2.2.2.1 rfl (x_inc_1 _) (by first | rfl | exact x_ok_q rfl) rfl ?_
          refine x_goto C 4 D_X9_heightOf_1.2.2.2.2.2.2.2.2.2.1 (by decide) ?_
          rw [← hs]
          exact ih_4 (k0 + 1) (by omega) (by omega)
        · skip
          have d1 : ¬ dep (f k0) + 1 ≤ hmx f k0 := by
            intro h8
            refine c_16 (i32_le.mpr ?_)
            rw [nI_toInt (by omega), pk_sub_toInt (by omega) (by omega)]
            omega
          have hs : nI (dep (f k0)) = nI (hmx f (k0 + 1)) - nI 1 := by rw [show hmx f (k0 + 1) = dep (f k0) + 1 by simp only [hmx]; omega, pk_sub (by omega)]; rfl
          refine x_aload_n C D_X9_heightOf_1.2.1 rfl rfl (by first | exact Or.inr ⟨_, rfl⟩ | exact va_rf_or _ | exact Or.inl rfl) ?_
          refine x_iload_n C D_X9_heightOf_1.2.2.1 rfl rfl ?_
          refine x_iald C _ (by first | assumption | exact (hM.2.1 _ (by decide)).2.1) rfl (by first | omega | (rw [hM.nk _ (by decide)]; omega) | (rw [hM.np _ (by decide)]; omega)) (by first | omega | (rw [hM.nk _ (by decide)]; omega) | (rw [hM.np _ (by decide)]; omega)) D_X9_heightOf_1.2.2.2.1 ?_
          first
          | refine x_eqi _ ((hf _ (by omega)).1) ?_
          | skip
          refine x_callSi C (y := yX9_depthOf) (c_X9_depthOf l G (f k0) hfk) k_1011 k_1012 k_67 k_1013 hd_X9_depthOf ⟨(Nat.le_of_ble_eq_true rfl), (Nat.le_of_ble_eq_true rfl)⟩ rfl (by first | exact Nat.le_of_ble_eq_true rfl | simp [x_crf, Value.category]) rfl rfl D_X9_heightOf_1.2.2.2.2.1 ⟨(Nat.le_of_ble_eq_true rfl), (Nat.le_of_ble_eq_true rfl)⟩ (fun r_22 S_22 h_22 => ?_)
          obtain ⟨rfl, rfl⟩ := h_22
          refine x_goto C 29 D_X9_heightOf_1.2.2.2.2.2.1 (by decide) ?_
          refine x_istore_n C (lv' := [_, _, _, _]) D_X9_heightOf_1.2.2.2.2.2.2.2.1 rfl (Nat.le_of_ble_eq_true rfl) (by first | rfl | exact x_ok_q rfl) rfl ?_
          first
          | refine x_iinc C (lv' := [_, _, _, _]) D_X9_heightOf_1.2.2.2.2.2.2.2.2.1 rfl (x_incN_1 _) (by first | rfl | exact x_ok_q rfl) rfl ?_
          | refine x_iinc C (lv' := [_, _, _, _]) D_X9_heightOf_1.2.2.2.2.2.2.2.2.1 rfl (x_inc_1 _) (by first | rfl | exact x_ok_q rfl) rfl ?_
          refine x_goto C 4 D_X9_heightOf_1.2.2.2.2.2.2.2.2.2.1 (by decide) ?_
          rw [hs]
          exact ih_4 (k0 + 1) (by omega) (by omega)
  exact L_4 _ 0 (Nat.lt_succ_self _) (Nat.zero_le _)
