theorem D_X9_nodeOf_0 : decode cX9_nodeOf 0 = .ok (.iconst (-1), 1) ∧ decode cX9_nodeOf 1 = .ok (.istore_n 2, 1) ∧ decode cX9_nodeOf 2 = .ok (.iconst 0, 1) ∧ decode cX9_nodeOf 3 = .ok (.istore_n 3, 1) ∧ decode cX9_nodeOf 4 = .ok (.iload_n 3, 1) ∧ decode cX9_nodeOf 5 = .ok (.aload_n 0, 1) ∧ decode cX9_nodeOf 6 = .ok (.getfield 60, 3) ∧ decode cX9_nodeOf 9 = .ok (.if_icmp .ge 25, 3) ∧ decode cX9_nodeOf 12 = .ok (.aload_n 0, 1) ∧ decode cX9_nodeOf 13 = .ok (.getfield 7, 3) ∧ decode cX9_nodeOf 16 = .ok (.iload_n 3, 1) ∧ decode cX9_nodeOf 17 = .ok (.iaload, 1) := by decide +kernel
theorem D_X9_nodeOf_1 : decode cX9_nodeOf 18 = .ok (.iload_n 1, 1) ∧ decode cX9_nodeOf 19 = .ok (.if_icmp .ne 7, 3) ∧ decode cX9_nodeOf 22 = .ok (.iload_n 3, 1) ∧ decode cX9_nodeOf 23 = .ok (.goto 4, 3) ∧ decode cX9_nodeOf 26 = .ok (.iload_n 2, 1) ∧ decode cX9_nodeOf 27 = .ok (.istore_n 2, 1) ∧ decode cX9_nodeOf 28 = .ok (.iinc 3 1, 3) ∧ decode cX9_nodeOf 31 = .ok (.goto (-27), 3) ∧ decode cX9_nodeOf 34 = .ok (.iload_n 2, 1) ∧ decode cX9_nodeOf 35 = .ok (.ireturn, 1) := by decide +kernel
theorem D_X9_living_0 : decode cX9_living 0 = .ok (.iconst 0, 1) ∧ decode cX9_living 1 = .ok (.istore_n 1, 1) ∧ decode cX9_living 2 = .ok (.iconst 0, 1) ∧ decode cX9_living 3 = .ok (.istore_n 2, 1) ∧ decode cX9_living 4 = .ok (.iload_n 2, 1) ∧ decode cX9_living 5 = .ok (.aload_n 0, 1) ∧ decode cX9_living 6 = .ok (.getfield 60, 3) ∧ decode cX9_living 9 = .ok (.if_icmp .ge 26, 3) ∧ decode cX9_living 12 = .ok (.iload_n 1, 1) ∧ decode cX9_living 13 = .ok (.aload_n 0, 1) ∧ decode cX9_living 14 = .ok (.getfield 13, 3) ∧ decode cX9_living 17 = .ok (.iload_n 2, 1) := by decide +kernel
theorem D_X9_living_1 : decode cX9_living 18 = .ok (.baload, 1) ∧ decode cX9_living 19 = .ok (.ifCond .eq 7, 3) ∧ decode cX9_living 22 = .ok (.iconst 1, 1) ∧ decode cX9_living 23 = .ok (.goto 4, 3) ∧ decode cX9_living 26 = .ok (.iconst 0, 1) ∧ decode cX9_living 27 = .ok (.iadd, 1) ∧ decode cX9_living 28 = .ok (.istore_n 1, 1) ∧ decode cX9_living 29 = .ok (.iinc 2 1, 3) ∧ decode cX9_living 32 = .ok (.goto (-28), 3) ∧ decode cX9_living 35 = .ok (.iload_n 1, 1) ∧ decode cX9_living 36 = .ok (.ireturn, 1) := by decide +kernel
theorem D_X9_copies_0 : decode cX9_copies 0 = .ok (.aload_n 0, 1) ∧ decode cX9_copies 1 = .ok (.getfield 7, 3) ∧ decode cX9_copies 4 = .ok (.iload_n 2, 1) ∧ decode cX9_copies 5 = .ok (.aload_n 0, 1) ∧ decode cX9_copies 6 = .ok (.getfield 7, 3) ∧ decode cX9_copies 9 = .ok (.iload_n 1, 1) ∧ decode cX9_copies 10 = .ok (.iaload, 1) ∧ decode cX9_copies 11 = .ok (.iastore, 1) ∧ decode cX9_copies 12 = .ok (.aload_n 0, 1) ∧ decode cX9_copies 13 = .ok (.getfield 13, 3) ∧ decode cX9_copies 16 = .ok (.iload_n 2, 1) ∧ decode cX9_copies 17 = .ok (.aload_n 0, 1) := by decide +kernel
theorem D_X9_copies_1 : decode cX9_copies 18 = .ok (.getfield 13, 3) ∧ decode cX9_copies 21 = .ok (.iload_n 1, 1) ∧ decode cX9_copies 22 = .ok (.baload, 1) ∧ decode cX9_copies 23 = .ok (.bastore, 1) ∧ decode cX9_copies 24 = .ok (.aload_n 0, 1) ∧ decode cX9_copies 25 = .ok (.getfield 17, 3) ∧ decode cX9_copies 28 = .ok (.iload_n 2, 1) ∧ decode cX9_copies 29 = .ok (.aload_n 0, 1) ∧ decode cX9_copies 30 = .ok (.getfield 17, 3) ∧ decode cX9_copies 33 = .ok (.iload_n 1, 1) ∧ decode cX9_copies 34 = .ok (.iaload, 1) ∧ decode cX9_copies 35 = .ok (.iastore, 1) := by decide +kernel
theorem D_X9_copies_2 : decode cX9_copies 36 = .ok (.aload_n 0, 1) ∧ decode cX9_copies 37 = .ok (.getfield 20, 3) ∧ decode cX9_copies 40 = .ok (.iload_n 2, 1) ∧ decode cX9_copies 41 = .ok (.aload_n 0, 1) ∧ decode cX9_copies 42 = .ok (.getfield 20, 3) ∧ decode cX9_copies 45 = .ok (.iload_n 1, 1) ∧ decode cX9_copies 46 = .ok (.iaload, 1) ∧ decode cX9_copies 47 = .ok (.iastore, 1) ∧ decode cX9_copies 48 = .ok (.aload_n 0, 1) ∧ decode cX9_copies 49 = .ok (.getfield 23, 3) ∧ decode cX9_copies 52 = .ok (.iload_n 2, 1) ∧ decode cX9_copies 53 = .ok (.aload_n 0, 1) := by decide +kernel
theorem D_X9_copies_3 : decode cX9_copies 54 = .ok (.getfield 23, 3) ∧ decode cX9_copies 57 = .ok (.iload_n 1, 1) ∧ decode cX9_copies 58 = .ok (.iaload, 1) ∧ decode cX9_copies 59 = .ok (.iastore, 1) ∧ decode cX9_copies 60 = .ok (.return_, 1) := by decide +kernel
theorem D_X9_leaf_0 : decode cX9_leaf 0 = .ok (.iconst 1, 1) ∧ decode cX9_leaf 1 = .ok (.istore_n 3, 1) ∧ decode cX9_leaf 2 = .ok (.aload_n 1, 1) ∧ decode cX9_leaf 3 = .ok (.aload_n 0, 1) ∧ decode cX9_leaf 4 = .ok (.getfield 60, 3) ∧ decode cX9_leaf 7 = .ok (.iload_n 3, 1) ∧ decode cX9_leaf 8 = .ok (.invokestatic 63, 3) ∧ decode cX9_leaf 11 = .ok (.istore 4, 2) ∧ decode cX9_leaf 13 = .ok (.iload 4, 2) ∧ decode cX9_leaf 15 = .ok (.iconst (-1), 1) ∧ decode cX9_leaf 16 = .ok (.if_icmp .eq 38, 3) ∧ decode cX9_leaf 19 = .ok (.iconst 2, 1) := by decide +kernel
theorem D_X9_leaf_1 : decode cX9_leaf 20 = .ok (.iload_n 3, 1) ∧ decode cX9_leaf 21 = .ok (.imul, 1) ∧ decode cX9_leaf 22 = .ok (.iload_n 2, 1) ∧ decode cX9_leaf 23 = .ok (.aload_n 0, 1) ∧ decode cX9_leaf 24 = .ok (.getfield 7, 3) ∧ decode cX9_leaf 27 = .ok (.iload 4, 2) ∧ decode cX9_leaf 29 = .ok (.iaload, 1) ∧ decode cX9_leaf 30 = .ok (.if_icmp .ge 7, 3) ∧ decode cX9_leaf 33 = .ok (.iconst 0, 1) ∧ decode cX9_leaf 34 = .ok (.goto 4, 3) ∧ decode cX9_leaf 37 = .ok (.iconst 1, 1) ∧ decode cX9_leaf 38 = .ok (.iadd, 1) := by decide +kernel
theorem D_X9_leaf_2 : decode cX9_leaf 39 = .ok (.istore_n 3, 1) ∧ decode cX9_leaf 40 = .ok (.aload_n 1, 1) ∧ decode cX9_leaf 41 = .ok (.aload_n 0, 1) ∧ decode cX9_leaf 42 = .ok (.getfield 60, 3) ∧ decode cX9_leaf 45 = .ok (.iload_n 3, 1) ∧ decode cX9_leaf 46 = .ok (.invokestatic 63, 3) ∧ decode cX9_leaf 49 = .ok (.istore 4, 2) ∧ decode cX9_leaf 51 = .ok (.goto (-38), 3) ∧ decode cX9_leaf 54 = .ok (.iload_n 3, 1) ∧ decode cX9_leaf 55 = .ok (.ireturn, 1) := by decide +kernel
theorem D_X9_inPart_0 : decode cX9_inPart 0 = .ok (.iconst 0, 1) ∧ decode cX9_inPart 1 = .ok (.istore_n 2, 1) ∧ decode cX9_inPart 2 = .ok (.iconst 0, 1) ∧ decode cX9_inPart 3 = .ok (.istore_n 3, 1) ∧ decode cX9_inPart 4 = .ok (.iload_n 3, 1) ∧ decode cX9_inPart 5 = .ok (.aload_n 0, 1) ∧ decode cX9_inPart 6 = .ok (.getfield 60, 3) ∧ decode cX9_inPart 9 = .ok (.if_icmp .ge 27, 3) ∧ decode cX9_inPart 12 = .ok (.iload_n 2, 1) ∧ decode cX9_inPart 13 = .ok (.aload_n 0, 1) ∧ decode cX9_inPart 14 = .ok (.getfield 23, 3) ∧ decode cX9_inPart 17 = .ok (.iload_n 3, 1) := by decide +kernel
theorem D_X9_inPart_1 : decode cX9_inPart 18 = .ok (.iaload, 1) ∧ decode cX9_inPart 19 = .ok (.iload_n 1, 1) ∧ decode cX9_inPart 20 = .ok (.if_icmp .ne 7, 3) ∧ decode cX9_inPart 23 = .ok (.iconst 1, 1) ∧ decode cX9_inPart 24 = .ok (.goto 4, 3) ∧ decode cX9_inPart 27 = .ok (.iconst 0, 1) ∧ decode cX9_inPart 28 = .ok (.iadd, 1) ∧ decode cX9_inPart 29 = .ok (.istore_n 2, 1) ∧ decode cX9_inPart 30 = .ok (.iinc 3 1, 3) ∧ decode cX9_inPart 33 = .ok (.goto (-29), 3) ∧ decode cX9_inPart 36 = .ok (.iload_n 2, 1) ∧ decode cX9_inPart 37 = .ok (.ireturn, 1) := by decide +kernel
theorem D_X9_load_0 : decode cX9_load 0 = .ok (.aload_n 0, 1) ∧ decode cX9_load 1 = .ok (.getfield 20, 3) ∧ decode cX9_load 4 = .ok (.aload_n 0, 1) ∧ decode cX9_load 5 = .ok (.getfield 60, 3) ∧ decode cX9_load 8 = .ok (.iload_n 1, 1) ∧ decode cX9_load 9 = .ok (.invokestatic 67, 3) ∧ decode cX9_load 12 = .ok (.iconst 1, 1) ∧ decode cX9_load 13 = .ok (.iadd, 1) ∧ decode cX9_load 14 = .ok (.ireturn, 1) := by decide +kernel
abbrev rm_X9_boundOf : Room := { frames := 0, cells := 0, slots := 0, locals := 0 }
set_option maxHeartbeats 4000000 in
set_option maxRecDepth 100000 in
theorem c_X9_boundOf (l : Launch) (G : xG) {K N : Nat → Nat} {I : Nat → Nat → Int32} {Q : Nat → Nat → Option Nat} {J : Nat → Nat → Int64} (w0 : Nat) (hm : w0 < 1000) : XM l yX9_boundOf cX9_boundOf 6 (some .int) rm_X9_boundOf G Ri [.int (nI w0)] (K, N, I, Q, J) (fun r S1 => r = nI (bnd w0) ∧ S1 = (K, N, I, Q, J)) := by
  refine x_meti (lv := [_, _, _, _, _, _]) (by decide +kernel) (x_cc (by first | rfl | exact x_crf _) x_cn) (Nat.le_of_ble_eq_true rfl) rfl ?_
  intro pP eE sS mM aA bB hH cC Z C hini ret
  refine x_iconst C (v := nI 0) D_X9_boundOf_0.1 (by decide +kernel) ?_
  refine x_istore_n C (lv' := [_, _, _, _, _, _]) D_X9_boundOf_0.2.1 rfl (Nat.le_of_ble_eq_true rfl) (by first | rfl | exact x_ok_q rfl) rfl ?_
  refine x_ldc2 C k_1032 D_X9_boundOf_0.2.2.1 ?_
  refine x_lstore_n C (lv' := [_, _, _, _, _, _]) D_X9_boundOf_0.2.2.2.1 rfl (Nat.le_of_ble_eq_true rfl) (by first | rfl | exact x_ok_q rfl) rfl ?_
  refine x_ldc2 C k_1033 D_X9_boundOf_0.2.2.2.2.1 ?_
  refine x_lstore C (lv' := [_, _, _, _, _, _]) D_X9_boundOf_0.2.2.2.2.2.1 (Nat.le_of_ble_eq_true rfl) (by first | rfl | exact x_ok_q rfl) rfl ?_
  have L_11 : ∀ (w_11 : Nat) (d0 : Nat) (y1 y3 : Int64), 30 - d0 < w_11 → (d0 ≤ 18) → (y1 = lN (3 ^ (d0 + 1))) → (y3 = lN (2 ^ (d0 + 1))) → (bndL w0 (30 - d0) d0 = bnd w0) → XW pP l eE rm_X9_boundOf sS mM aA bB hH cC G Z 0 0 (K, N, I, Q, J) 11 [some (.int (nI w0)), some (.int (nI d0)), some (.long y1), none, some (.long y3), none] [] := by
    intro w_11
    induction w_11 with
    | zero =>
      intro d0 y1 y3 hw_11
      exact absurd hw_11 (Nat.not_lt_zero _)
    | succ w_11 ih_11 =>
      intro d0 y1 y3 hw_11 hd e1_ e3_ hb
      refine x_lload_n C D_X9_boundOf_0.2.2.2.2.2.2.1 rfl rfl ?_
      refine x_iload_n C D_X9_boundOf_0.2.2.2.2.2.2.2.1 rfl rfl ?_
      refine x_i2l C D_X9_boundOf_0.2.2.2.2.2.2.2.2.1 ?_
      refine x_lload C D_X9_boundOf_0.2.2.2.2.2.2.2.2.2.1 rfl ?_
      refine x_lmul C D_X9_boundOf_0.2.2.2.2.2.2.2.2.2.2.1 ?_
      refine x_lcmp C D_X9_boundOf_0.2.2.2.2.2.2.2.2.2.2.2 ?_
      refine x_if_gt C 41 D_X9_boundOf_1.1 (by decide) (fun c_18 => ?_) (fun c_18 => ?_)
      · skip
        have c1 : ¬ 3 ^ (d0 + 1) ≤ w0 * 2 ^ (d0 + 1) := by
          rw [lg_cmp_gt, e1_, e3_, nI_l (by omega), lN_mul, pk_lLT (pow2_le hm (by omega)) (pow3_le (by omega))] at c_18
          omega
        refine x_iload_n C D_X9_boundOf_1.2.2.2.2.2.2.2.2.2.2.2 rfl rfl ?_
        refine ret _ _ _ _ _ _ rfl D_X9_boundOf_2 (Nat.le_of_ble_eq_true rfl) (Nat.le_of_ble_eq_true rfl) ?_
        refine ⟨?_, rfl⟩
        rw [← hb, bndL_step (by omega), if_neg c1]
      · skip
        have c1 : 3 ^ (d0 + 1) ≤ w0 * 2 ^ (d0 + 1) := by
          rw [lg_cmp_gt, e1_, e3_, nI_l (by omega), lN_mul, pk_lLT (pow2_le hm (by omega)) (pow3_le (by omega))] at c_18
          omega
        have c2 : d0 < 18 := by
          rcases Nat.lt_or_ge d0 18 with h | h
          · exact h
          · obtain rfl : d0 = 18 := by omega
            have h9 : 3 ^ 19 ≤ w0 * 2 ^ 19 := c1
            omega
        refine x_iinc C (lv' := [_, _, _, _, _, _]) D_X9_boundOf_1.2.1 rfl (x_inc_1 _) (by first | rfl | exact x_ok_q rfl) rfl ?_
        refine x_lload_n C D_X9_boundOf_1.2.2.1 rfl rfl ?_
        refine x_ldc2 C k_1032 D_X9_boundOf_1.2.2.2.1 ?_
        refine x_lmul C D_X9_boundOf_1.2.2.2.2.1 ?_
        refine x_lstore_n C (lv' := [_, _, _, _, _, _]) D_X9_boundOf_1.2.2.2.2.2.1 rfl (Nat.le_of_ble_eq_true rfl) (by first | rfl | exact x_ok_q rfl) rfl ?_
        refine x_lload C D_X9_boundOf_1.2.2.2.2.2.2.1 rfl ?_
        refine x_ldc2 C k_1033 D_X9_boundOf_1.2.2.2.2.2.2.2.1 ?_
        refine x_lmul C D_X9_boundOf_1.2.2.2.2.2.2.2.2.1 ?_
        refine x_lstore C (lv' := [_, _, _, _, _, _]) D_X9_boundOf_1.2.2.2.2.2.2.2.2.2.1 (Nat.le_of_ble_eq_true rfl) (by first | rfl | exact x_ok_q rfl) rfl ?_
        refine x_goto C 11 D_X9_boundOf_1.2.2.2.2.2.2.2.2.2.2.1 (by decide) ?_
        refine x_lv (lv := [_, some (.int (nI (d0 + 1))), _, _, _, _]) (by rw [nI_add]) ?_
        refine ih_11 (d0 + 1) _ _ (by omega) (by omega) ?_ ?_ ?_
        · rw [e1_, show (3 : Int64) = lN 3 from rfl, lN_mul, ← Nat.pow_succ]
        · rw [e3_, show (2 : Int64) = lN 2 from rfl, lN_mul, ← Nat.pow_succ]
        · rw [← hb, bndL_step (d := d0) (by omega), if_pos c1]
  exact L_11 _ 0 _ _ (Nat.lt_succ_self _) (Nat.zero_le _) (by decide +kernel) (by decide +kernel) rfl
abbrev rm_X9_nodeOf : Room := { frames := 0, cells := 0, slots := 0, locals := 0 }
set_option maxHeartbeats 4000000 in
set_option maxRecDepth 100000 in
theorem c_X9_nodeOf (l : Launch) (G : xG) {K N : Nat → Nat} {I : Nat → Nat → Int32} {Q : Nat → Nat → Option Nat} {J : Nat → Nat → Int64} (m n : Nat) (ar : Nat → Nat) (x : Int32) (hM : MZ K N Q m ar) (hn : I m 0 = nI n) (hnb : n ≤ 202)  : XM l yX9_nodeOf cX9_nodeOf 4 (some .int) rm_X9_nodeOf G Ri [.ref m, .int x] (K, N, I, Q, J) (fun r S1 => r = oI (lastF (fun i => decide (I (ar 5) i = x)) n) ∧ S1 = (K, N, I, Q, J)) := by
  refine x_meti (lv := [_, _, _, _]) (by decide +kernel) (x_cc (by first | rfl | exact x_crf _) (x_cc (by first | rfl | exact x_crf _) x_cn)) (Nat.le_of_ble_eq_true rfl) rfl ?_
  intro pP eE sS mM aA bB hH cC Z C hini ret
  have hk9 := hM.1
  refine x_iconst C (v := (-1)) D_X9_nodeOf_0.1 (by decide +kernel) ?_
  refine x_istore_n C (lv' := [_, _, _, _]) D_X9_nodeOf_0.2.1 rfl (Nat.le_of_ble_eq_true rfl) (by first | rfl | exact x_ok_q rfl) rfl ?_
  refine x_iconst C (v := nI 0) D_X9_nodeOf_0.2.2.1 (by decide +kernel) ?_
  refine x_istore_n C (lv' := [_, _, _, _]) D_X9_nodeOf_0.2.2.2.1 rfl (Nat.le_of_ble_eq_true rfl) (by first | rfl | exact x_ok_q rfl) rfl ?_
  have L_4 : ∀ (w_4 : Nat) (k0 : Nat), n - k0 < w_4 → (k0 ≤ n) → XW pP l eE rm_X9_nodeOf sS mM aA bB hH cC G Z 0 0 (K, N, I, Q, J) 4 [some (.ref m), some (.int x), some (.int (oI (lastF (fun i => decide (I (ar 5) i = x)) k0))), some (.int (nI k0))] [] := by
    intro w_4
    induction w_4 with
    | zero =>
      intro k0 hw_4
      exact absurd hw_4 (Nat.not_lt_zero _)
    | succ w_4 ih_4 =>
      intro k0 hw_4 hk0
      refine x_iload_n C D_X9_nodeOf_0.2.2.2.2.1 rfl rfl ?_
      refine x_aload_n C D_X9_nodeOf_0.2.2.2.2.2.1 rfl rfl (by first | exact Or.inr ⟨_, rfl⟩ | exact va_rf_or _ | exact Or.inl rfl) ?_
      refine x_getI C (ci := 8) (k0 := 0) (by assumption) (by decide) rfl (by decide) in_X9 k_902 rfl rfl D_X9_nodeOf_0.2.2.2.2.2.2.1 ?_
      first
      | refine x_eqi _ (hn) ?_
      | skip
      refine x_icmp_ge C 34 D_X9_nodeOf_0.2.2.2.2.2.2.2.1 (by decide) (fun c_9 => ?_) (fun c_9 => ?_)
      · skip
        first
        | have d_9 := cv_le c_9 (by omega) (by omega)
        | skip
        obtain rfl : k0 = n := by omega
        refine x_iload_n C D_X9_nodeOf_1.2.2.2.2.2.2.2.2.1 rfl rfl ?_
        refine ret _ _ _ _ _ _ rfl D_X9_nodeOf_1.2.2.2.2.2.2.2.2.2 (Nat.le_of_ble_eq_true rfl) (Nat.le_of_ble_eq_true rfl) ?_
        exact ⟨rfl, rfl⟩
      · skip
        first
        | have d_9 := cv_nle c_9 (by omega) (by omega)
        | skip
        refine x_aload_n C D_X9_nodeOf_0.2.2.2.2.2.2.2.2.1 rfl rfl (by first | exact Or.inr ⟨_, rfl⟩ | exact va_rf_or _ | exact Or.inl rfl) ?_
        refine x_getQ C (ci := 8) (k0 := 5) (by assumption) (by decide) rfl (by decide) in_X9 k_907 rfl rfl D_X9_nodeOf_0.2.2.2.2.2.2.2.2.2.1 ?_
        refine x_eqr (hM.2.1 5 (by decide)).1 ?_
        refine x_iload_n C D_X9_nodeOf_0.2.2.2.2.2.2.2.2.2.2.1 rfl rfl ?_
        refine x_iald C _ (by first | assumption | exact (hM.2.1 _ (by decide)).2.1) rfl (by first | omega | (rw [hM.nk _ (by decide)]; omega) | (rw [hM.np _ (by decide)]; omega)) (by first | omega | (rw [hM.nk _ (by decide)]; omega) | (rw [hM.np _ (by decide)]; omega)) D_X9_nodeOf_0.2.2.2.2.2.2.2.2.2.2.2 ?_
        first
        | refine x_eqi _ (hn) ?_
        | skip
        refine x_iload_n C D_X9_nodeOf_1.1 rfl rfl ?_
        refine x_icmp_ne C 26 D_X9_nodeOf_1.2.1 (by decide) (fun c_19 => ?_) (fun c_19 => ?_)
        · skip
          have hs : oI (lastF (fun i => decide (I (ar 5) i = x)) (k0 + 1)) = oI (lastF (fun i => decide (I (ar 5) i = x)) k0) := by simp [lastF, c_19]
          refine x_iload_n C D_X9_nodeOf_1.2.2.2.2.1 rfl rfl ?_
          refine x_istore_n C (lv' := [_, _, _, _]) D_X9_nodeOf_1.2.2.2.2.2.1 rfl (Nat.le_of_ble_eq_true rfl) (by first | rfl | exact x_ok_q rfl) rfl ?_
          first
          | refine x_iinc C (lv' := [_, _, _, _]) D_X9_nodeOf_1.2.2.2.2.2.2.1 rfl (x_incN_1 _) (by first | rfl | exact x_ok_q rfl) rfl ?_
          | refine x_iinc C (lv' := [_, _, _, _]) D_X9_nodeOf_1.2.2.2.2.2.2.1 rfl (x_inc_1 _) (by first | rfl | exact x_ok_q rfl) rfl ?_
          refine x_goto C 4 D_X9_nodeOf_1.2.2.2.2.2.2.2.1 (by decide) ?_
          rw [← hs]
          exact ih_4 (k0 + 1) (by omega) (by omega)
        · skip
          have hs : oI (lastF (fun i => decide (I (ar 5) i = x)) (k0 + 1)) = nI k0 := by simp [lastF, c_19, oI]
          refine x_iload_n C D_X9_nodeOf_1.2.2.1 rfl rfl ?_
          refine x_goto C 27 D_X9_nodeOf_1.2.2.2.1 (by decide) ?_
          refine x_istore_n C (lv' := [_, _, _, _]) D_X9_nodeOf_1.2.2.2.2.2.1 rfl (Nat.le_of_ble_eq_true rfl) (by first | rfl | exact x_ok_q rfl) rfl ?_
          first
          | refine x_iinc C (lv' := [_, _, _, _]) D_X9_nodeOf_1.2.2.2.2.2.2.1 rfl (x_incN_1 _) (by first | rfl | exact x_ok_q rfl) rfl ?_
          | refine x_iinc C (lv' := [_, _, _, _]) D_X9_nodeOf_1.2.2.2.2.2.2.1 rfl (x_inc_1 _) (by first | rfl | exact x_ok_q rfl) rfl ?_
          refine x_goto C 4 D_X9_nodeOf_1.2.2.2.2.2.2.2.1 (by decide) ?_
          rw [← hs]
          exact ih_4 (k0 + 1) (by omega) (by omega)
  exact L_4 _ 0 (Nat.lt_succ_self _) (Nat.zero_le _)
abbrev rm_X9_living : Room := { frames := 0, cells := 0, slots := 0, locals := 0 }
set_option maxHeartbeats 4000000 in
set_option maxRecDepth 100000 in
theorem c_X9_living (l : Launch) (G : xG) {K N : Nat → Nat} {I : Nat → Nat → Int32} {Q : Nat → Nat → Option Nat} {J : Nat → Nat → Int64} (m n : Nat) (ar : Nat → Nat) (al : Nat → Bool) (hM : MZ K N Q m ar) (hn : I m 0 = nI n) (hnb : n ≤ 202) (hal : ∀ i, i < n → I (ar 6) i = xb (al i)) : XM l yX9_living cX9_living 3 (some .int) rm_X9_living G Ri [.ref m] (K, N, I, Q, J) (fun r S1 => r = nI (cn al n) ∧ S1 = (K, N, I, Q, J)) := by
  refine x_meti (lv := [_, _, _]) (by decide +kernel) (x_cc (by first | rfl | exact x_crf _) x_cn) (Nat.le_of_ble_eq_true rfl) rfl ?_
  intro pP eE sS mM aA bB hH cC Z C hini ret
  have hk9 := hM.1
  refine x_iconst C (v := nI 0) D_X9_living_0.1 (by decide +kernel) ?_
  refine x_istore_n C (lv' := [_, _, _]) D_X9_living_0.2.1 rfl (Nat.le_of_ble_eq_true rfl) (by first | rfl | exact x_ok_q rfl) rfl ?_
  refine x_iconst C (v := nI 0) D_X9_living_0.2.2.1 (by decide +kernel) ?_
  refine x_istore_n C (lv' := [_, _, _]) D_X9_living_0.2.2.2.1 rfl (Nat.le_of_ble_eq_true rfl) (by first | rfl | exact x_ok_q rfl) rfl ?_
  have L_4 : ∀ (w_4 : Nat) (k0 : Nat), n - k0 < w_4 → (k0 ≤ n) → XW pP l eE rm_X9_living sS mM aA bB hH cC G Z 0 0 (K, N, I, Q, J) 4 [some (.ref m), some (.int (nI (cn al k0))), some (.int (nI k0))] [] := by
    intro w_4
    induction w_4 with
    | zero =>
      intro k0 hw_4
      exact absurd hw_4 (Nat.not_lt_zero _)
    | succ w_4 ih_4 =>
      intro k0 hw_4 hk0
      refine x_iload_n C D_X9_living_0.2.2.2.2.1 rfl rfl ?_
      refine x_aload_n C D_X9_living_0.2.2.2.2.2.1 rfl rfl (by first | exact Or.inr ⟨_, rfl⟩ | exact va_rf_or _ | exact Or.inl rfl) ?_
      refine x_getI C (ci := 8) (k0 := 0) (by assumption) (by decide) rfl (by decide) in_X9 k_902 rfl rfl D_X9_living_0.2.2.2.2.2.2.1 ?_
      first
      | refine x_eqi _ (hn) ?_
      | refine x_eqi _ (hal _ (by omega)) ?_
      | skip
      refine x_icmp_ge C 35 D_X9_living_0.2.2.2.2.2.2.2.1 (by decide) (fun c_9 => ?_) (fun c_9 => ?_)
      · skip
        first
        | have d_9 := cv_le c_9 (by omega) (by omega)
        | skip
        obtain rfl : k0 = n := by omega
        refine x_iload_n C D_X9_living_1.2.2.2.2.2.2.2.2.2.1 rfl rfl ?_
        refine ret _ _ _ _ _ _ rfl D_X9_living_1.2.2.2.2.2.2.2.2.2.2 (Nat.le_of_ble_eq_true rfl) (Nat.le_of_ble_eq_true rfl) ?_
        exact ⟨rfl, rfl⟩
      · skip
        first
        | have d_9 := cv_nle c_9 (by omega) (by omega)
        | skip
        have hcl := cn_le al k0
        refine x_iload_n C D_X9_living_0.2.2.2.2.2.2.2.2.1 rfl rfl ?_
        refine x_aload_n C D_X9_living_0.2.2.2.2.2.2.2.2.2.1 rfl rfl (by first | exact Or.inr ⟨_, rfl⟩ | exact va_rf_or _ | exact Or.inl rfl) ?_
        refine x_getQ C (ci := 8) (k0 := 6) (by assumption) (by decide) rfl (by decide) in_X9 k_908 rfl rfl D_X9_living_0.2.2.2.2.2.2.2.2.2.2.1 ?_
        refine x_eqr (hM.2.1 6 (by decide)).1 ?_
        refine x_iload_n C D_X9_living_0.2.2.2.2.2.2.2.2.2.2.2 rfl rfl ?_
        refine x_zald C _ (by first | assumption | exact (hM.2.1 _ (by decide)).2.1) rfl (by first | omega | (rw [hM.nk _ (by decide)]; omega) | (rw [hM.np _ (by decide)]; omega)) (by first | omega | (rw [hM.nk _ (by decide)]; omega) | (rw [hM.np _ (by decide)]; omega)) D_X9_living_1.1 ?_
        first
        | refine x_eqi _ (hn) ?_
        | refine x_eqi _ (hal _ (by omega)) ?_
        | skip
        refine x_if_eq C 26 D_X9_living_1.2.1 (by decide) (fun c_19 => ?_) (fun c_19 => ?_)
        · skip
          first
          | have d_19 := cz_eq c_19 (by omega)
          | have d_19 := cb_eq c_19
          | skip
          have hs : cn al (k0 + 1) = cn al k0 + 0 := by simp [cn, d_19]
          refine x_iconst C (v := nI 0) D_X9_living_1.2.2.2.2.1 (by decide +kernel) ?_
          refine x_iadd C D_X9_living_1.2.2.2.2.2.1 ?_
          first
          | refine x_eqi _ (nI_add _ _) ?_
          | skip
          refine x_istore_n C (lv' := [_, _, _]) D_X9_living_1.2.2.2.2.2.2.1 rfl (Nat.le_of_ble_eq_true rfl) (by first | rfl | exact x_ok_q rfl) rfl ?_
          first
          | refine x_iinc C (lv' := [_, _, _]) D_X9_living_1.2.2.2.2.2.2.2.1 rfl (x_incN_1 _) (by first | rfl | exact x_ok_q rfl) rfl ?_
          | refine x_iinc C (lv' := [_, _, _]) D_X9_living_1.2.2.2.2.2.2.2.1 rfl (x_inc_1 _) (by first | rfl | exact x_ok_q rfl) rfl ?_
          refine x_goto C 4 D_X9_living_1.2.2.2.2.2.2.2.2.1 (by decide) ?_
          rw [← hs]
          exact ih_4 (k0 + 1) (by omega) (by omega)
        · skip
          first
          | have d_19 := cz_ne c_19 (by omega)
          | have d_19 := cb_ne c_19
          | skip
          have hs : cn al (k0 + 1) = cn al k0 + 1 := by simp [cn, d_19]
          refine x_iconst C (v := nI 1) D_X9_living_1.2.2.1 (by decide +kernel) ?_
          refine x_goto C 27 D_X9_living_1.2.2.2.1 (by decide) ?_
          refine x_iadd C D_X9_living_1.2.2.2.2.2.1 ?_
          first
          | refine x_eqi _ (nI_add _ _) ?_
          | skip
          refine x_istore_n C (lv' := [_, _, _]) D_X9_living_1.2.2.2.2.2.2.1 rfl (Nat.le_of_ble_eq_true rfl) (by first | rfl | exact x_ok_q rfl) rfl ?_
          first
          | refine x_iinc C (lv' := [_, _, _]) D_X9_living_1.2.2.2.2.2.2.2.1 rfl (x_incN_1 _) (by first | rfl | exact x_ok_q rfl) rfl ?_
          | refine x_iinc C (lv' := [_, _, _]) D_X9_living_1.2.2.2.2.2.2.2.1 rfl (x_inc_1 _) (by first | rfl | exact x_ok_q rfl) rfl ?_
          refine x_goto C 4 D_X9_living_1.2.2.2.2.2.2.2.2.1 (by decide) ?_
          rw [← hs]
          exact ih_4 (k0 + 1) (by omega) (by omega)
  exact L_4 _ 0 (Nat.lt_succ_self _) (Nat.zero_le _)
abbrev rm_X9_inPart : Room := { frames := 0, cells := 0, slots := 0, locals := 0 }
set_option maxHeartbeats 4000000 in
set_option maxRecDepth 100000 in
theorem c_X9_inPart (l : Launch) (G : xG) {K N : Nat → Nat} {I : Nat → Nat → Int32} {Q : Nat → Nat → Option Nat} {J : Nat → Nat → Int64} (m n : Nat) (ar : Nat → Nat) (x : Int32) (hM : MZ K N Q m ar) (hn : I m 0 = nI n) (hnb : n ≤ 202)  : XM l yX9_inPart cX9_inPart 4 (some .int) rm_X9_inPart G Ri [.ref m, .int x] (K, N, I, Q, J) (fun r S1 => r = nI (cn (fun i => decide (I (ar 9) i = x)) n) ∧ S1 = (K, N, I, Q, J)) := by
  refine x_meti (lv := [_, _, _, _]) (by decide +kernel) (x_cc (by first | rfl | exact x_crf _) (x_cc (by first | rfl | exact x_crf _) x_cn)) (Nat.le_of_ble_eq_true rfl) rfl ?_
  intro pP eE sS mM aA bB hH cC Z C hini ret
  have hk9 := hM.1
  refine x_iconst C (v := nI 0) D_X9_inPart_0.1 (by decide +kernel) ?_
  refine x_istore_n C (lv' := [_, _, _, _]) D_X9_inPart_0.2.1 rfl (Nat.le_of_ble_eq_true rfl) (by first | rfl | exact x_ok_q rfl) rfl ?_
  refine x_iconst C (v := nI 0) D_X9_inPart_0.2.2.1 (by decide +kernel) ?_
  refine x_istore_n C (lv' := [_, _, _, _]) D_X9_inPart_0.2.2.2.1 rfl (Nat.le_of_ble_eq_true rfl) (by first | rfl | exact x_ok_q rfl) rfl ?_
  have L_4 : ∀ (w_4 : Nat) (k0 : Nat), n - k0 < w_4 → (k0 ≤ n) → XW pP l eE rm_X9_inPart sS mM aA bB hH cC G Z 0 0 (K, N, I, Q, J) 4 [some (.ref m), some (.int x), some (.int (nI (cn (fun i => decide (I (ar 9) i = x)) k0))), some (.int (nI k0))] [] := by
    intro w_4
    induction w_4 with
    | zero =>
      intro k0 hw_4
      exact absurd hw_4 (Nat.not_lt_zero _)
    | succ w_4 ih_4 =>
      intro k0 hw_4 hk0
      refine x_iload_n C D_X9_inPart_0.2.2.2.2.1 rfl rfl ?_
      refine x_aload_n C D_X9_inPart_0.2.2.2.2.2.1 rfl rfl (by first | exact Or.inr ⟨_, rfl⟩ | exact va_rf_or _ | exact Or.inl rfl) ?_
      refine x_getI C (ci := 8) (k0 := 0) (by assumption) (by decide) rfl (by decide) in_X9 k_902 rfl rfl D_X9_inPart_0.2.2.2.2.2.2.1 ?_
      first
      | refine x_eqi _ (hn) ?_
      | skip
      refine x_icmp_ge C 36 D_X9_inPart_0.2.2.2.2.2.2.2.1 (by decide) (fun c_9 => ?_) (fun c_9 => ?_)
      · skip
        first
        | have d_9 := cv_le c_9 (by omega) (by omega)
        | skip
        obtain rfl : k0 = n := by omega
        refine x_iload_n C D_X9_inPart_1.2.2.2.2.2.2.2.2.2.2.1 rfl rfl ?_
        refine ret _ _ _ _ _ _ rfl D_X9_inPart_1.2.2.2.2.2.2.2.2.2.2.2 (Nat.le_of_ble_eq_true rfl) (Nat.le_of_ble_eq_true rfl) ?_
        exact ⟨rfl, rfl⟩
      · skip
        first
        | have d_9 := cv_nle c_9 (by omega) (by omega)
        | skip
        have hcl := cn_le (fun i => decide (I (ar 9) i = x)) k0
        refine x_iload_n C D_X9_inPart_0.2.2.2.2.2.2.2.2.1 rfl rfl ?_
        refine x_aload_n C D_X9_inPart_0.2.2.2.2.2.2.2.2.2.1 rfl rfl (by first | exact Or.inr ⟨_, rfl⟩ | exact va_rf_or _ | exact Or.inl rfl) ?_
        refine x_getQ C (ci := 8) (k0 := 9) (by assumption) (by decide) rfl (by decide) in_X9 k_911 rfl rfl D_X9_inPart_0.2.2.2.2.2.2.2.2.2.2.1 ?_
        refine x_eqr (hM.2.1 9 (by decide)).1 ?_
        refine x_iload_n C D_X9_inPart_0.2.2.2.2.2.2.2.2.2.2.2 rfl rfl ?_
        refine x_iald C _ (by first | assumption | exact (hM.2.1 _ (by decide)).2.1) rfl (by first | omega | (rw [hM.nk _ (by decide)]; omega) | (rw [hM.np _ (by decide)]; omega)) (by first | omega | (rw [hM.nk _ (by decide)]; omega) | (rw [hM.np _ (by decide)]; omega)) D_X9_inPart_1.1 ?_
        first
        | refine x_eqi _ (hn) ?_
        | skip
        refine x_iload_n C D_X9_inPart_1.2.1 rfl rfl ?_
        refine x_icmp_ne C 27 D_X9_inPart_1.2.2.1 (by decide) (fun c_20 => ?_) (fun c_20 => ?_)
        · skip
          have hs : cn (fun i => decide (I (ar 9) i = x)) (k0 + 1) = cn (fun i => decide (I (ar 9) i = x)) k0 + 0 := by simp [cn, c_20]
          refine x_iconst C (v := nI 0) D_X9_inPart_1.2.2.2.2.2.1 (by decide +kernel) ?_
          refine x_iadd C D_X9_inPart_1.2.2.2.2.2.2.1 ?_
          first
          | refine x_eqi _ (nI_add _ _) ?_
          | skip
          refine x_istore_n C (lv' := [_, _, _, _]) D_X9_inPart_1.2.2.2.2.2.2.2.1 rfl (Nat.le_of_ble_eq_true rfl) (by first | rfl | exact x_ok_q rfl) rfl ?_
          first
          | refine x_iinc C (lv' := [_, _, _, _]) D_X9_inPart_1.2.2.2.2.2.2.2.2.1 rfl (x_incN_1 _) (by first | rfl | exact x_ok_q rfl) rfl ?_
          | refine x_iinc C (lv' := [_, _, _, _]) D_X9_inPart_1.2.2.2.2.2.2.2.2.1 rfl (x_inc_1 _) (by first | rfl | exact x_ok_q rfl) rfl ?_
          refine x_goto C 4 D_X9_inPart_1.2.2.2.2.2.2.2.2.2.1 (by decide) ?_
          rw [← hs]
          exact ih_4 (k0 + 1) (by omega) (by omega)
        · skip
          have hs : cn (fun i => decide (I (ar 9) i = x)) (k0 + 1) = cn (fun i => decide (I (ar 9) i = x)) k0 + 1 := by simp [cn, c_20]
          refine x_iconst C (v := nI 1) D_X9_inPart_1.2.2.2.1 (by decide +kernel) ?_
          refine x_goto C 28 D_X9_inPart_1.2.2.2.2.1 (by decide) ?_
          refine x_iadd C D_X9_inPart_1.2.2.2.2.2.2.1 ?_
          first
          | refine x_eqi _ (nI_add _ _) ?_
          | skip
          refine x_istore_n C (lv' := [_, _, _, _]) D_X9_inPart_1.2.2.2.2.2.2.2.1 rfl (Nat.le_of_ble_eq_true rfl) (by first | rfl | exact x_ok_q rfl) rfl ?_
          first
          | refine x_iinc C (lv' := [_, _, _, _]) D_X9_inPart_1.2.2.2.2.2.2.2.2.1 rfl (x_incN_1 _) (by first | rfl | exact x_ok_q rfl) rfl ?_
          | refine x_iinc C (lv' := [_, _, _, _]) D_X9_inPart_1.2.2.2.2.2.2.2.2.1 rfl (x_inc_1 _) (by first | rfl | exact x_ok_q rfl) rfl ?_
          refine x_goto C 4 D_X9_inPart_1.2.2.2.2.2.2.2.2.2.1 (by decide) ?_
          rw [← hs]
          exact ih_4 (k0 + 1) (by omega) (by omega)
  exact L_4 _ 0 (Nat.lt_succ_self _) (Nat.zero_le _)
abbrev rm_X9_load : Room := { frames := 3, cells := 0, slots := 0, locals := 67 }
theorem hd_X9_weightAt : yX9_weightAt.cls ≠ "java/lang/invoke/MethodHandle" ∧ yX9_weightAt.cls ≠ "java/lang/invoke/VarHandle" ∧ (parseMethodDescriptor yX9_weightAt.desc).map (fun d => d.parameters.length) = some 3 := by decide +kernel
set_option maxHeartbeats 4000000 in
set_option maxRecDepth 100000 in
theorem c_X9_load (l : Launch) (G : xG) {K N : Nat → Nat} {I : Nat → Nat → Int32} {Q : Nat → Nat → Option Nat} {J : Nat → Nat → Int64} (m n p0 : Nat) (ar tu : Nat → Nat) (hM : MZ K N Q m ar) (hn : I m 0 = nI n) (hnb : n ≤ 202) (htu : ∀ i, i < n → I (ar 8) i = nI (tu i) ∧ tu i < 2 ^ 30) (hp : p0 < 2 ^ 30) : XM l yX9_load cX9_load 2 (some .int) rm_X9_load G Ri [.ref m, .int (nI p0)] (K, N, I, Q, J) (fun r S1 => r = nI (cn (fun i => decide (0 < tu i) && bel (tu i) p0) n + 1) ∧ S1 = (K, N, I, Q, J)) := by
  refine x_meti (lv := [_, _]) (by decide +kernel) (x_cc (by first | rfl | exact x_crf _) (x_cc (by first | rfl | exact x_crf _) x_cn)) (Nat.le_of_ble_eq_true rfl) rfl ?_
  intro pP eE sS mM aA bB hH cC Z C hini ret
  have hk9 := hM.1
  have h202 := hM.nk 8 (by decide)
  refine x_aload_n C D_X9_load_0.1 rfl rfl (by first | exact Or.inr ⟨_, rfl⟩ | exact va_rf_or _ | exact Or.inl rfl) ?_
  refine x_getQ C (ci := 8) (k0 := 8) (by assumption) (by decide) rfl (by decide) in_X9 k_910 rfl rfl D_X9_load_0.2.1 ?_
  refine x_eqr (hM.2.1 8 (by decide)).1 ?_
  refine x_aload_n C D_X9_load_0.2.2.1 rfl rfl (by first | exact Or.inr ⟨_, rfl⟩ | exact va_rf_or _ | exact Or.inl rfl) ?_
  refine x_getI C (ci := 8) (k0 := 0) (by assumption) (by decide) rfl (by decide) in_X9 k_902 rfl rfl D_X9_load_0.2.2.2.1 ?_
  first
  | refine x_eqi _ (hn) ?_
  | skip
  refine x_iload_n C D_X9_load_0.2.2.2.2.1 rfl rfl ?_
  refine x_callSi C (y := yX9_weightAt) (c_X9_weightAt l G (ar 8) n p0 tu (hM.2.1 8 (by decide)).2.1 (by omega) (by omega) (by omega) hp htu) k_1005 k_1006 k_67 k_1007 hd_X9_weightAt ⟨(Nat.le_of_ble_eq_true rfl), (Nat.le_of_ble_eq_true rfl)⟩ rfl (by first | exact Nat.le_of_ble_eq_true rfl | simp [x_crf, Value.category]) rfl rfl D_X9_load_0.2.2.2.2.2.1 ⟨(Nat.le_of_ble_eq_true rfl), (Nat.le_of_ble_eq_true rfl)⟩ (fun r_9 S_9 h_9 => ?_)
  obtain ⟨rfl, rfl⟩ := h_9
  refine x_iconst C (v := nI 1) D_X9_load_0.2.2.2.2.2.2.1 (by decide +kernel) ?_
  refine x_iadd C D_X9_load_0.2.2.2.2.2.2.2.1 ?_
  first
  | refine x_eqi _ (nI_add _ _) ?_
  | skip
  refine ret _ _ _ _ _ _ rfl D_X9_load_0.2.2.2.2.2.2.2.2 (Nat.le_of_ble_eq_true rfl) (Nat.le_of_ble_eq_true rfl) ?_
  exact ⟨rfl, rfl⟩
abbrev rm_X9_leaf : Room := { frames := 1, cells := 0, slots := 0, locals := 24 }
theorem hd_X9_nodeAt : yX9_nodeAt.cls ≠ "java/lang/invoke/MethodHandle" ∧ yX9_nodeAt.cls ≠ "java/lang/invoke/VarHandle" ∧ (parseMethodDescriptor yX9_nodeAt.desc).map (fun d => d.parameters.length) = some 3 := by decide +kernel
set_option maxHeartbeats 4000000 in
set_option maxRecDepth 100000 in
theorem c_X9_leaf (l : Launch) (G : xG) {K N : Nat → Nat} {I : Nat → Nat → Int32} {Q : Nat → Nat → Option Nat} {J : Nat → Nat → Int64} (m n sq pl : Nat) (ar f : Nat → Nat) (x : Int32) (hM : MZ K N Q m ar) (hn : I m 0 = nI n) (hnb : n ≤ 202) (hk : K sq = 21) (hN : N sq = 202) (hf : ∀ i, i < n → I sq i = nI (f i) ∧ f i < 2 ^ 31) (hlf : leafW (fun p => lastF (fun i => decide (f i = p)) n) (fun k => decide (x < I (ar 5) k)) 28 1 = some pl) : XM l yX9_leaf cX9_leaf 5 (some .int) rm_X9_leaf G Ri [.ref m, .ref sq, .int x] (K, N, I, Q, J) (fun r S1 => r = nI pl ∧ S1 = (K, N, I, Q, J)) := by
  refine x_meti (lv := [_, _, _, _, _]) (by decide +kernel) (x_cc (by first | rfl | exact x_crf _) (x_cc (by first | rfl | exact x_crf _) (x_cc (by first | rfl | exact x_crf _) x_cn))) (Nat.le_of_ble_eq_true rfl) rfl ?_
  intro pP eE sS mM aA bB hH cC Z C hini ret
  have hk9 := hM.1
  refine x_iconst C (v := nI 1) D_X9_leaf_0.1 (by decide +kernel) ?_
  refine x_istore_n C (lv' := [_, _, _, _, _]) D_X9_leaf_0.2.1 rfl (Nat.le_of_ble_eq_true rfl) (by first | rfl | exact x_ok_q rfl) rfl ?_
  refine x_aload_n C D_X9_leaf_0.2.2.1 rfl rfl (by first | exact Or.inr ⟨_, rfl⟩ | exact va_rf_or _ | exact Or.inl rfl) ?_
  refine x_aload_n C D_X9_leaf_0.2.2.2.1 rfl rfl (by first | exact Or.inr ⟨_, rfl⟩ | exact va_rf_or _ | exact Or.inl rfl) ?_
  refine x_getI C (ci := 8) (k0 := 0) (by assumption) (by decide) rfl (by decide) in_X9 k_902 rfl rfl D_X9_leaf_0.2.2.2.2.1 ?_
  first
  | refine x_eqi _ (hn) ?_
  | skip
  refine x_iload_n C D_X9_leaf_0.2.2.2.2.2.1 rfl rfl ?_
  refine x_callSi C (y := yX9_nodeAt) (c_X9_nodeAt l G sq n 1 f hk (by omega) (by omega) (by omega) (by omega) hf) k_990 k_991 k_67 k_992 hd_X9_nodeAt ⟨(Nat.le_of_ble_eq_true rfl), (Nat.le_of_ble_eq_true rfl)⟩ rfl (by first | exact Nat.le_of_ble_eq_true rfl | simp [x_crf, Value.category]) rfl rfl D_X9_leaf_0.2.2.2.2.2.2.1 ⟨(Nat.le_of_ble_eq_true rfl), (Nat.le_of_ble_eq_true rfl)⟩ (fun r_8 S_8 h_8 => ?_)
  obtain ⟨rfl, rfl⟩ := h_8
  refine x_istore C (lv' := [_, _, _, _, _]) D_X9_leaf_0.2.2.2.2.2.2.2.1 (Nat.le_of_ble_eq_true rfl) (by first | rfl | exact x_ok_q rfl) rfl ?_
  have L_13 : ∀ (w_13 : Nat) (fu p0 : Nat), fu < w_13 → ((p0 + 1) * 2 ^ fu ≤ 2 ^ 29) → (leafW (fun p => lastF (fun i => decide (f i = p)) n) (fun k => decide (x < I (ar 5) k)) (fu + 1) p0 = some pl) → XW pP l eE rm_X9_leaf sS mM aA bB hH cC G Z 0 0 (K, N, I, Q, J) 13 [some (.ref m), some (.ref sq), some (.int x), some (.int (nI p0)), some (.int (oI ((fun p => lastF (fun i => decide (f i = p)) n) p0)))] [] := by
    intro w_13
    induction w_13 with
    | zero =>
      intro fu p0 hw_13
      exact absurd hw_13 (Nat.not_lt_zero _)
    | succ w_13 ih_13 =>
      intro fu p0 hw_13 hb hW
      have hp29 := pb_lt hb
      refine x_iload C D_X9_leaf_0.2.2.2.2.2.2.2.2.1 rfl ?_
      refine x_iconst C (v := (-1)) D_X9_leaf_0.2.2.2.2.2.2.2.2.2.1 (by decide +kernel) ?_
      refine x_icmp_eq C 54 D_X9_leaf_0.2.2.2.2.2.2.2.2.2.2.1 (by decide) (fun c_16 => ?_) (fun c_16 => ?_)
      · skip
        have d1 : (fun p => lastF (fun i => decide (f i = p)) n) p0 = none := oI_none c_16 (fun k hk => by have := (lastF_lt hk).1; omega)
        rw [leafW_none (nd := (fun p => lastF (fun i => decide (f i = p)) n)) (p := p0) d1] at hW
        obtain rfl : p0 = pl := Option.some.inj hW
        refine x_iload_n C D_X9_leaf_2.2.2.2.2.2.2.2.2.1 rfl rfl ?_
        refine ret _ _ _ _ _ _ rfl D_X9_leaf_2.2.2.2.2.2.2.2.2.2 (Nat.le_of_ble_eq_true rfl) (Nat.le_of_ble_eq_true rfl) ?_
        exact ⟨rfl, rfl⟩
      · skip
        obtain ⟨k1, d1⟩ := oI_some c_16
        have hk1 := (lastF_lt d1).1
        rw [leafW_some (nd := (fun p => lastF (fun i => decide (f i = p)) n)) (p := p0) d1] at hW
        obtain ⟨fv, rfl⟩ := leafW_pos hW
        rw [d1]
        refine x_iconst C (v := nI 2) D_X9_leaf_0.2.2.2.2.2.2.2.2.2.2.2 (by decide +kernel) ?_
        refine x_iload_n C D_X9_leaf_1.1 rfl rfl ?_
        refine x_imul C D_X9_leaf_1.2.1 ?_
        first
        | refine x_eqi _ (pk_mul _ _) ?_
        | skip
        refine x_iload_n C D_X9_leaf_1.2.2.1 rfl rfl ?_
        refine x_aload_n C D_X9_leaf_1.2.2.2.1 rfl rfl (by first | exact Or.inr ⟨_, rfl⟩ | exact va_rf_or _ | exact Or.inl rfl) ?_
        refine x_getQ C (ci := 8) (k0 := 5) (by assumption) (by decide) rfl (by decide) in_X9 k_907 rfl rfl D_X9_leaf_1.2.2.2.2.1 ?_
        refine x_eqr (hM.2.1 5 (by decide)).1 ?_
        refine x_iload C D_X9_leaf_1.2.2.2.2.2.1 rfl ?_
        refine x_iald C _ (by first | assumption | exact (hM.2.1 _ (by decide)).2.1) rfl (by first | omega | (rw [hM.nk _ (by decide)]; omega) | (rw [hM.np _ (by decide)]; omega)) (by first | omega | (rw [hM.nk _ (by decide)]; omega) | (rw [hM.np _ (by decide)]; omega)) D_X9_leaf_1.2.2.2.2.2.2.1 ?_
        first
        | refine x_eqi _ (hn) ?_
        | skip
        refine x_icmp_ge C 37 D_X9_leaf_1.2.2.2.2.2.2.2.1 (by decide) (fun c_30 => ?_) (fun c_30 => ?_)
        · skip
          have d2 : decide (x < I (ar 5) k1) = false := by
            simp only [decide_eq_false_iff_not]
            rw [i32_le] at c_30
            rw [i32_lt]; omega
          simp only [d2, if_true, Bool.false_eq_true, if_false] at hW
          refine x_iconst C (v := nI 1) D_X9_leaf_1.2.2.2.2.2.2.2.2.2.2.1 (by decide +kernel) ?_
          refine x_iadd C D_X9_leaf_1.2.2.2.2.2.2.2.2.2.2.2 ?_
          first
          | refine x_eqi _ (nI_add _ _) ?_
          | skip
          refine x_istore_n C (lv' := [_, _, _, _, _]) D_X9_leaf_2.1 rfl (Nat.le_of_ble_eq_true rfl) (by first | rfl | exact x_ok_q rfl) rfl ?_
          refine x_aload_n C D_X9_leaf_2.2.1 rfl rfl (by first | exact Or.inr ⟨_, rfl⟩ | exact va_rf_or _ | exact Or.inl rfl) ?_
          refine x_aload_n C D_X9_leaf_2.2.2.1 rfl rfl (by first | exact Or.inr ⟨_, rfl⟩ | exact va_rf_or _ | exact Or.inl rfl) ?_
          refine x_getI C (ci := 8) (k0 := 0) (by assumption) (by decide) rfl (by decide) in_X9 k_902 rfl rfl D_X9_leaf_2.2.2.2.1 ?_
          first
          | refine x_eqi _ (hn) ?_
          | skip
          refine x_iload_n C D_X9_leaf_2.2.2.2.2.1 rfl rfl ?_
          refine x_callSi C (y := yX9_nodeAt) (c_X9_nodeAt l G sq n (2 * p0 + 1) f hk (by omega) (by omega) (by omega) (by omega) hf) k_990 k_991 k_67 k_992 hd_X9_nodeAt ⟨(Nat.le_of_ble_eq_true rfl), (Nat.le_of_ble_eq_true rfl)⟩ rfl (by first | exact Nat.le_of_ble_eq_true rfl | simp [x_crf, Value.category]) rfl rfl D_X9_leaf_2.2.2.2.2.2.1 ⟨(Nat.le_of_ble_eq_true rfl), (Nat.le_of_ble_eq_true rfl)⟩ (fun r_46 S_46 h_46 => ?_)
          obtain ⟨rfl, rfl⟩ := h_46
          refine x_istore C (lv' := [_, _, _, _, _]) D_X9_leaf_2.2.2.2.2.2.2.1 (Nat.le_of_ble_eq_true rfl) (by first | rfl | exact x_ok_q rfl) rfl ?_
          refine x_goto C 13 D_X9_leaf_2.2.2.2.2.2.2.2.1 (by decide) ?_
          exact ih_13 fv (2 * p0 + 1) (by omega) (pb_dn hb (by omega)) hW
        · skip
          have d2 : decide (x < I (ar 5) k1) = true := by
            simp only [decide_eq_true_eq]
            rw [i32_le] at c_30
            rw [i32_lt]; omega
          simp only [d2, if_true, Bool.false_eq_true, if_false] at hW
          refine x_iconst C (v := nI 0) D_X9_leaf_1.2.2.2.2.2.2.2.2.1 (by decide +kernel) ?_
          refine x_goto C 38 D_X9_leaf_1.2.2.2.2.2.2.2.2.2.1 (by decide) ?_
          refine x_iadd C D_X9_leaf_1.2.2.2.2.2.2.2.2.2.2.2 ?_
          first
          | refine x_eqi _ (nI_add _ _) ?_
          | skip
          refine x_istore_n C (lv' := [_, _, _, _, _]) D_X9_leaf_2.1 rfl (Nat.le_of_ble_eq_true rfl) (by first | rfl | exact x_ok_q rfl) rfl ?_
          refine x_aload_n C D_X9_leaf_2.2.1 rfl rfl (by first | exact Or.inr ⟨_, rfl⟩ | exact va_rf_or _ | exact Or.inl rfl) ?_
          refine x_aload_n C D_X9_leaf_2.2.2.1 rfl rfl (by first | exact Or.inr ⟨_, rfl⟩ | exact va_rf_or _ | exact Or.inl rfl) ?_
          refine x_getI C (ci := 8) (k0 := 0) (by assumption) (by decide) rfl (by decide) in_X9 k_902 rfl rfl D_X9_leaf_2.2.2.2.1 ?_
          first
          | refine x_eqi _ (hn) ?_
          | skip
          refine x_iload_n C D_X9_leaf_2.2.2.2.2.1 rfl rfl ?_
          refine x_callSi C (y := yX9_nodeAt) (c_X9_nodeAt l G sq n (2 * p0 + 0) f hk (by omega) (by omega) (by omega) (by omega) hf) k_990 k_991 k_67 k_992 hd_X9_nodeAt ⟨(Nat.le_of_ble_eq_true rfl), (Nat.le_of_ble_eq_true rfl)⟩ rfl (by first | exact Nat.le_of_ble_eq_true rfl | simp [x_crf, Value.category]) rfl rfl D_X9_leaf_2.2.2.2.2.2.1 ⟨(Nat.le_of_ble_eq_true rfl), (Nat.le_of_ble_eq_true rfl)⟩ (fun r_46 S_46 h_46 => ?_)
          obtain ⟨rfl, rfl⟩ := h_46
          refine x_istore C (lv' := [_, _, _, _, _]) D_X9_leaf_2.2.2.2.2.2.2.1 (Nat.le_of_ble_eq_true rfl) (by first | rfl | exact x_ok_q rfl) rfl ?_
          refine x_goto C 13 D_X9_leaf_2.2.2.2.2.2.2.2.1 (by decide) ?_
          exact ih_13 fv (2 * p0 + 0) (by omega) (pb_dn (e := 0) hb (by omega)) hW
  exact L_13 _ 27 1 (Nat.lt_succ_self _) (by decide) hlf
abbrev rm_X9_copies : Room := { frames := 0, cells := 0, slots := 0, locals := 0 }
set_option maxHeartbeats 4000000 in
set_option maxRecDepth 100000 in
theorem c_X9_copies (l : Launch) (G : xG) {K N : Nat → Nat} {I : Nat → Nat → Int32} {Q : Nat → Nat → Option Nat} {J : Nat → Nat → Int64} (m i j : Nat) (ar : Nat → Nat) (b0 : Bool) (hM : MZ K N Q m ar) (hi : i < 202) (hj : j < 202) (hal : I (ar 6) i = xb b0) : XM l yX9_copies cX9_copies 3 none rm_X9_copies G Rv [.ref m, .int (nI i), .int (nI j)] (K, N, I, Q, J) (fun _ S1 => ∃ I1, S1 = (K, N, I1, Q, J) ∧ ∀ a k, I1 a k = if k = j ∧ (a = ar 5 ∨ a = ar 6 ∨ a = ar 7 ∨ a = ar 8 ∨ a = ar 9) then I a i else I a k) := by
  refine x_metv (lv := [_, _, _]) (by decide +kernel) (x_cc (by first | rfl | exact x_crf _) (x_cc (by first | rfl | exact x_crf _) (x_cc (by first | rfl | exact x_crf _) x_cn))) (Nat.le_of_ble_eq_true rfl) rfl ?_
  intro pP eE sS mM aA bB hH cC Z C hini ret
  have hk9 := hM.1
  have n56 := hM.ne 6 5 (by decide)
  have n75 := hM.ne 7 5 (by decide)
  have n76 := hM.ne 7 6 (by decide)
  have n85 := hM.ne 8 5 (by decide)
  have n86 := hM.ne 8 6 (by decide)
  have n87 := hM.ne 8 7 (by decide)
  have n95 := hM.ne 9 5 (by decide)
  have n96 := hM.ne 9 6 (by decide)
  have n97 := hM.ne 9 7 (by decide)
  have n98 := hM.ne 9 8 (by decide)
  refine x_aload_n C D_X9_copies_0.1 rfl rfl (by first | exact Or.inr ⟨_, rfl⟩ | exact va_rf_or _ | exact Or.inl rfl) ?_
  refine x_getQ C (ci := 8) (k0 := 5) (by assumption) (by decide) rfl (by decide) in_X9 k_907 rfl rfl D_X9_copies_0.2.1 ?_
  refine x_eqr (hM.2.1 5 (by decide)).1 ?_
  refine x_iload_n C D_X9_copies_0.2.2.1 rfl rfl ?_
  refine x_aload_n C D_X9_copies_0.2.2.2.1 rfl rfl (by first | exact Or.inr ⟨_, rfl⟩ | exact va_rf_or _ | exact Or.inl rfl) ?_
  refine x_getQ C (ci := 8) (k0 := 5) (by assumption) (by decide) rfl (by decide) in_X9 k_907 rfl rfl D_X9_copies_0.2.2.2.2.1 ?_
  refine x_eqr (hM.2.1 5 (by decide)).1 ?_
  refine x_iload_n C D_X9_copies_0.2.2.2.2.2.1 rfl rfl ?_
  refine x_iald C _ (by first | assumption | exact (hM.2.1 _ (by decide)).2.1) rfl (by first | omega | (rw [hM.nk _ (by decide)]; omega) | (rw [hM.np _ (by decide)]; omega)) (by first | omega | (rw [hM.nk _ (by decide)]; omega) | (rw [hM.np _ (by decide)]; omega)) D_X9_copies_0.2.2.2.2.2.2.1 ?_
  refine x_iast C _ (by first | assumption | exact (hM.2.1 _ (by decide)).2.1) rfl (by first | omega | (rw [hM.nk _ (by decide)]; omega) | (rw [hM.np _ (by decide)]; omega)) (by first | omega | (rw [hM.nk _ (by decide)]; omega) | (rw [hM.np _ (by decide)]; omega)) D_X9_copies_0.2.2.2.2.2.2.2.1 (fun I5 eI5 => ?_)
  refine x_aload_n C D_X9_copies_0.2.2.2.2.2.2.2.2.1 rfl rfl (by first | exact Or.inr ⟨_, rfl⟩ | exact va_rf_or _ | exact Or.inl rfl) ?_
  refine x_getQ C (ci := 8) (k0 := 6) (by assumption) (by decide) rfl (by decide) in_X9 k_908 rfl rfl D_X9_copies_0.2.2.2.2.2.2.2.2.2.1 ?_
  refine x_eqr (hM.2.1 6 (by decide)).1 ?_
  refine x_iload_n C D_X9_copies_0.2.2.2.2.2.2.2.2.2.2.1 rfl rfl ?_
  refine x_aload_n C D_X9_copies_0.2.2.2.2.2.2.2.2.2.2.2 rfl rfl (by first | exact Or.inr ⟨_, rfl⟩ | exact va_rf_or _ | exact Or.inl rfl) ?_
  refine x_getQ C (ci := 8) (k0 := 6) (by assumption) (by decide) rfl (by decide) in_X9 k_908 rfl rfl D_X9_copies_1.1 ?_
  refine x_eqr (hM.2.1 6 (by decide)).1 ?_
  refine x_iload_n C D_X9_copies_1.2.1 rfl rfl ?_
  refine x_zald C _ (by first | assumption | exact (hM.2.1 _ (by decide)).2.1) rfl (by first | omega | (rw [hM.nk _ (by decide)]; omega) | (rw [hM.np _ (by decide)]; omega)) (by first | omega | (rw [hM.nk _ (by decide)]; omega) | (rw [hM.np _ (by decide)]; omega)) D_X9_copies_1.2.2.1 ?_
  refine x_eqi _ (show I5 (ar 6) i = xb b0 by rw [eI5, x_u2_a _ _ n56]; exact hal) ?_
  refine x_zast C _ b0 rfl (by first | assumption | exact (hM.2.1 _ (by decide)).2.1) rfl (by first | omega | (rw [hM.nk _ (by decide)]; omega) | (rw [hM.np _ (by decide)]; omega)) (by first | omega | (rw [hM.nk _ (by decide)]; omega) | (rw [hM.np _ (by decide)]; omega)) D_X9_copies_1.2.2.2.1 (fun I6 eI6 => ?_)
  refine x_aload_n C D_X9_copies_1.2.2.2.2.1 rfl rfl (by first | exact Or.inr ⟨_, rfl⟩ | exact va_rf_or _ | exact Or.inl rfl) ?_
  refine x_getQ C (ci := 8) (k0 := 7) (by assumption) (by decide) rfl (by decide) in_X9 k_909 rfl rfl D_X9_copies_1.2.2.2.2.2.1 ?_
  refine x_eqr (hM.2.1 7 (by decide)).1 ?_
  refine x_iload_n C D_X9_copies_1.2.2.2.2.2.2.1 rfl rfl ?_
  refine x_aload_n C D_X9_copies_1.2.2.2.2.2.2.2.1 rfl rfl (by first | exact Or.inr ⟨_, rfl⟩ | exact va_rf_or _ | exact Or.inl rfl) ?_
  refine x_getQ C (ci := 8) (k0 := 7) (by assumption) (by decide) rfl (by decide) in_X9 k_909 rfl rfl D_X9_copies_1.2.2.2.2.2.2.2.2.1 ?_
  refine x_eqr (hM.2.1 7 (by decide)).1 ?_
  refine x_iload_n C D_X9_copies_1.2.2.2.2.2.2.2.2.2.1 rfl rfl ?_
  refine x_iald C _ (by first | assumption | exact (hM.2.1 _ (by decide)).2.1) rfl (by first | omega | (rw [hM.nk _ (by decide)]; omega) | (rw [hM.np _ (by decide)]; omega)) (by first | omega | (rw [hM.nk _ (by decide)]; omega) | (rw [hM.np _ (by decide)]; omega)) D_X9_copies_1.2.2.2.2.2.2.2.2.2.2.1 ?_
  refine x_iast C _ (by first | assumption | exact (hM.2.1 _ (by decide)).2.1) rfl (by first | omega | (rw [hM.nk _ (by decide)]; omega) | (rw [hM.np _ (by decide)]; omega)) (by first | omega | (rw [hM.nk _ (by decide)]; omega) | (rw [hM.np _ (by decide)]; omega)) D_X9_copies_1.2.2.2.2.2.2.2.2.2.2.2 (fun I7 eI7 => ?_)
  refine x_aload_n C D_X9_copies_2.1 rfl rfl (by first | exact Or.inr ⟨_, rfl⟩ | exact va_rf_or _ | exact Or.inl rfl) ?_
  refine x_getQ C (ci := 8) (k0 := 8) (by assumption) (by decide) rfl (by decide) in_X9 k_910 rfl rfl D_X9_copies_2.2.1 ?_
  refine x_eqr (hM.2.1 8 (by decide)).1 ?_
  refine x_iload_n C D_X9_copies_2.2.2.1 rfl rfl ?_
  refine x_aload_n C D_X9_copies_2.2.2.2.1 rfl rfl (by first | exact Or.inr ⟨_, rfl⟩ | exact va_rf_or _ | exact Or.inl rfl) ?_
  refine x_getQ C (ci := 8) (k0 := 8) (by assumption) (by decide) rfl (by decide) in_X9 k_910 rfl rfl D_X9_copies_2.2.2.2.2.1 ?_
  refine x_eqr (hM.2.1 8 (by decide)).1 ?_
  refine x_iload_n C D_X9_copies_2.2.2.2.2.2.1 rfl rfl ?_
  refine x_iald C _ (by first | assumption | exact (hM.2.1 _ (by decide)).2.1) rfl (by first | omega | (rw [hM.nk _ (by decide)]; omega) | (rw [hM.np _ (by decide)]; omega)) (by first | omega | (rw [hM.nk _ (by decide)]; omega) | (rw [hM.np _ (by decide)]; omega)) D_X9_copies_2.2.2.2.2.2.2.1 ?_
  refine x_iast C _ (by first | assumption | exact (hM.2.1 _ (by decide)).2.1) rfl (by first | omega | (rw [hM.nk _ (by decide)]; omega) | (rw [hM.np _ (by decide)]; omega)) (by first | omega | (rw [hM.nk _ (by decide)]; omega) | (rw [hM.np _ (by decide)]; omega)) D_X9_copies_2.2.2.2.2.2.2.2.1 (fun I8 eI8 => ?_)
  refine x_aload_n C D_X9_copies_2.2.2.2.2.2.2.2.2.1 rfl rfl (by first | exact Or.inr ⟨_, rfl⟩ | exact va_rf_or _ | exact Or.inl rfl) ?_
  refine x_getQ C (ci := 8) (k0 := 9) (by assumption) (by decide) rfl (by decide) in_X9 k_911 rfl rfl D_X9_copies_2.2.2.2.2.2.2.2.2.2.1 ?_
  refine x_eqr (hM.2.1 9 (by decide)).1 ?_
  refine x_iload_n C D_X9_copies_2.2.2.2.2.2.2.2.2.2.2.1 rfl rfl ?_
  refine x_aload_n C D_X9_copies_2.2.2.2.2.2.2.2.2.2.2.2 rfl rfl (by first | exact Or.inr ⟨_, rfl⟩ | exact va_rf_or _ | exact Or.inl rfl) ?_
  refine x_getQ C (ci := 8) (k0 := 9) (by assumption) (by decide) rfl (by decide) in_X9 k_911 rfl rfl D_X9_copies_3.1 ?_
  refine x_eqr (hM.2.1 9 (by decide)).1 ?_
  refine x_iload_n C D_X9_copies_3.2.1 rfl rfl ?_
  refine x_iald C _ (by first | assumption | exact (hM.2.1 _ (by decide)).2.1) rfl (by first | omega | (rw [hM.nk _ (by decide)]; omega) | (rw [hM.np _ (by decide)]; omega)) (by first | omega | (rw [hM.nk _ (by decide)]; omega) | (rw [hM.np _ (by decide)]; omega)) D_X9_copies_3.2.2.1 ?_
  refine x_iast C _ (by first | assumption | exact (hM.2.1 _ (by decide)).2.1) rfl (by first | omega | (rw [hM.nk _ (by decide)]; omega) | (rw [hM.np _ (by decide)]; omega)) (by first | omega | (rw [hM.nk _ (by decide)]; omega) | (rw [hM.np _ (by decide)]; omega)) D_X9_copies_3.2.2.2.1 (fun I9 eI9 => ?_)
  refine ret _ _ _ _ _ rfl D_X9_copies_3.2.2.2.2 (Nat.le_of_ble_eq_true rfl) (Nat.le_of_ble_eq_true rfl) ?_
  refine ⟨I9, rfl, fun a k => ?_⟩
  rw [eI9]
  by_cases e9 : a = ar 9
  · subst e9
    by_cases ek : k = j
    · subst ek
      rw [x_u2_s, if_pos ⟨rfl, by simp⟩, eI8, x_u2_a _ _ n98, eI7, x_u2_a _ _ n97, eI6, x_u2_a _ _ n96, eI5, x_u2_a _ _ n95]
    · rw [x_u2_j _ _ ek, if_neg (fun z => ek z.1), eI8, x_u2_a _ _ n98, eI7, x_u2_a _ _ n97, eI6, x_u2_a _ _ n96, eI5, x_u2_a _ _ n95]
  rw [x_u2_a _ _ e9, eI8]
  by_cases e8 : a = ar 8
  · subst e8
    by_cases ek : k = j
    · subst ek
      rw [x_u2_s, if_pos ⟨rfl, by simp⟩, eI7, x_u2_a _ _ n87, eI6, x_u2_a _ _ n86, eI5, x_u2_a _ _ n85]
    · rw [x_u2_j _ _ ek, if_neg (fun z => ek z.1), eI7, x_u2_a _ _ n87, eI6, x_u2_a _ _ n86, eI5, x_u2_a _ _ n85]
  rw [x_u2_a _ _ e8, eI7]
  by_cases e7 : a = ar 7
  · subst e7
    by_cases ek : k = j
    · subst ek
      rw [x_u2_s, if_pos ⟨rfl, by simp⟩, eI6, x_u2_a _ _ n76, eI5, x_u2_a _ _ n75]
    · rw [x_u2_j _ _ ek, if_neg (fun z => ek z.1), eI6, x_u2_a _ _ n76, eI5, x_u2_a _ _ n75]
  rw [x_u2_a _ _ e7, eI6]
  by_cases e6 : a = ar 6
  · subst e6
    by_cases ek : k = j
    · subst ek
      rw [x_u2_s, if_pos ⟨rfl, by simp⟩]; exact hal.symm
    · rw [x_u2_j _ _ ek, if_neg (fun z => ek z.1), eI5, x_u2_a _ _ n56]
  rw [x_u2_a _ _ e6, eI5]
  by_cases e5 : a = ar 5
  · subst e5
    by_cases ek : k = j
    · subst ek
      rw [x_u2_s, if_pos ⟨rfl, by simp⟩]
    · rw [x_u2_j _ _ ek, if_neg (fun z => ek z.1)]
  rw [x_u2_a _ _ e5, if_neg (fun z => by simp [e5, e6, e7, e8, e9] at z)]
