theorem D_X1_orderOf_0 : decode cX1_orderOf 0 = .ok (.iload_n 1, 1) ∧ decode cX1_orderOf 1 = .ok (.ireturn, 1) := by decide +kernel
theorem D_X5_orderOf_0 : decode cX5_orderOf 0 = .ok (.iload_n 2, 1) ∧ decode cX5_orderOf 1 = .ok (.iconst 2, 1) ∧ decode cX5_orderOf 2 = .ok (.irem, 1) ∧ decode cX5_orderOf 3 = .ok (.ifCond .ne 7, 3) ∧ decode cX5_orderOf 6 = .ok (.iload_n 1, 1) ∧ decode cX5_orderOf 7 = .ok (.goto 15, 3) ∧ decode cX5_orderOf 10 = .ok (.iload_n 1, 1) ∧ decode cX5_orderOf 11 = .ok (.bipush 100, 2) ∧ decode cX5_orderOf 13 = .ok (.irem, 1) ∧ decode cX5_orderOf 14 = .ok (.bipush 100, 2) ∧ decode cX5_orderOf 16 = .ok (.imul, 1) ∧ decode cX5_orderOf 17 = .ok (.iload_n 1, 1) := by decide +kernel
theorem D_X5_orderOf_1 : decode cX5_orderOf 18 = .ok (.bipush 100, 2) ∧ decode cX5_orderOf 20 = .ok (.idiv, 1) ∧ decode cX5_orderOf 21 = .ok (.iadd, 1) ∧ decode cX5_orderOf 22 = .ok (.ireturn, 1) := by decide +kernel
theorem D_X2_belongsLeft_0 : decode cX2_belongsLeft 0 = .ok (.aload_n 0, 1) ∧ decode cX2_belongsLeft 1 = .ok (.iload_n 1, 1) ∧ decode cX2_belongsLeft 2 = .ok (.iload_n 3, 1) ∧ decode cX2_belongsLeft 3 = .ok (.invokevirtual 82, 3) ∧ decode cX2_belongsLeft 6 = .ok (.aload_n 0, 1) ∧ decode cX2_belongsLeft 7 = .ok (.aload_n 2, 1) ∧ decode cX2_belongsLeft 8 = .ok (.getfield 69, 3) ∧ decode cX2_belongsLeft 11 = .ok (.iload_n 3, 1) ∧ decode cX2_belongsLeft 12 = .ok (.invokevirtual 82, 3) ∧ decode cX2_belongsLeft 15 = .ok (.if_icmp .ge 7, 3) ∧ decode cX2_belongsLeft 18 = .ok (.iconst 1, 1) ∧ decode cX2_belongsLeft 19 = .ok (.goto 4, 3) := by decide +kernel
theorem D_X2_belongsLeft_1 : decode cX2_belongsLeft 22 = .ok (.iconst 0, 1) ∧ decode cX2_belongsLeft 23 = .ok (.ireturn, 1) := by decide +kernel
theorem D_X2_find_0 : decode cX2_find 0 = .ok (.aload_n 0, 1) ∧ decode cX2_find 1 = .ok (.getfield 14, 3) ∧ decode cX2_find 4 = .ok (.invokevirtual 62, 3) ∧ decode cX2_find 7 = .ok (.aload_n 0, 1) ∧ decode cX2_find 8 = .ok (.getfield 20, 3) ∧ decode cX2_find 11 = .ok (.astore_n 2, 1) ∧ decode cX2_find 12 = .ok (.aload_n 2, 1) ∧ decode cX2_find 13 = .ok (.ifnull 54, 3) ∧ decode cX2_find 16 = .ok (.aload_n 0, 1) ∧ decode cX2_find 17 = .ok (.getfield 14, 3) ∧ decode cX2_find 20 = .ok (.invokevirtual 58, 3) ∧ decode cX2_find 23 = .ok (.istore_n 3, 1) := by decide +kernel
theorem D_X2_find_1 : decode cX2_find 24 = .ok (.aload_n 0, 1) ∧ decode cX2_find 25 = .ok (.getfield 14, 3) ∧ decode cX2_find 28 = .ok (.aload_n 2, 1) ∧ decode cX2_find 29 = .ok (.invokevirtual 65, 3) ∧ decode cX2_find 32 = .ok (.aload_n 2, 1) ∧ decode cX2_find 33 = .ok (.getfield 69, 3) ∧ decode cX2_find 36 = .ok (.iload_n 1, 1) ∧ decode cX2_find 37 = .ok (.if_icmp .ne 5, 3) ∧ decode cX2_find 40 = .ok (.aload_n 2, 1) ∧ decode cX2_find 41 = .ok (.areturn, 1) ∧ decode cX2_find 42 = .ok (.aload_n 0, 1) ∧ decode cX2_find 43 = .ok (.iload_n 1, 1) := by decide +kernel
theorem D_X2_find_2 : decode cX2_find 44 = .ok (.aload_n 2, 1) ∧ decode cX2_find 45 = .ok (.iload_n 3, 1) ∧ decode cX2_find 46 = .ok (.invokevirtual 72, 3) ∧ decode cX2_find 49 = .ok (.ifCond .eq 10, 3) ∧ decode cX2_find 52 = .ok (.aload_n 2, 1) ∧ decode cX2_find 53 = .ok (.getfield 76, 3) ∧ decode cX2_find 56 = .ok (.goto 7, 3) ∧ decode cX2_find 59 = .ok (.aload_n 2, 1) ∧ decode cX2_find 60 = .ok (.getfield 79, 3) ∧ decode cX2_find 63 = .ok (.astore_n 2, 1) ∧ decode cX2_find 64 = .ok (.goto (-52), 3) ∧ decode cX2_find 67 = .ok (.aconst_null, 1) := by decide +kernel
theorem D_X2_find_3 : decode cX2_find 68 = .ok (.areturn, 1) := by decide +kernel
theorem D_X2_living_0 : decode cX2_living 0 = .ok (.aload_n 0, 1) ∧ decode cX2_living 1 = .ok (.getfield 24, 3) ∧ decode cX2_living 4 = .ok (.ireturn, 1) := by decide +kernel
theorem D_X2_nodeCount_0 : decode cX2_nodeCount 0 = .ok (.aload_n 0, 1) ∧ decode cX2_nodeCount 1 = .ok (.getfield 20, 3) ∧ decode cX2_nodeCount 4 = .ok (.invokestatic 37, 3) ∧ decode cX2_nodeCount 7 = .ok (.ireturn, 1) := by decide +kernel
theorem D_X2_rebuiltWeight_0 : decode cX2_rebuiltWeight 0 = .ok (.aload_n 0, 1) ∧ decode cX2_rebuiltWeight 1 = .ok (.getfield 28, 3) ∧ decode cX2_rebuiltWeight 4 = .ok (.ireturn, 1) := by decide +kernel
theorem D_X2_dropCount_0 : decode cX2_dropCount 0 = .ok (.aload_n 0, 1) ∧ decode cX2_dropCount 1 = .ok (.getfield 31, 3) ∧ decode cX2_dropCount 4 = .ok (.ireturn, 1) := by decide +kernel
theorem D_X2_greatestDepthIn_0 : decode cX2_greatestDepthIn 0 = .ok (.aload_n 0, 1) ∧ decode cX2_greatestDepthIn 1 = .ok (.ifnull 9, 3) ∧ decode cX2_greatestDepthIn 4 = .ok (.iload_n 1, 1) ∧ decode cX2_greatestDepthIn 5 = .ok (.bipush 40, 2) ∧ decode cX2_greatestDepthIn 7 = .ok (.if_icmp .lt 7, 3) ∧ decode cX2_greatestDepthIn 10 = .ok (.iload_n 1, 1) ∧ decode cX2_greatestDepthIn 11 = .ok (.iconst 1, 1) ∧ decode cX2_greatestDepthIn 12 = .ok (.isub, 1) ∧ decode cX2_greatestDepthIn 13 = .ok (.ireturn, 1) ∧ decode cX2_greatestDepthIn 14 = .ok (.aload_n 0, 1) ∧ decode cX2_greatestDepthIn 15 = .ok (.getfield 76, 3) ∧ decode cX2_greatestDepthIn 18 = .ok (.iload_n 1, 1) := by decide +kernel
theorem D_X2_greatestDepthIn_1 : decode cX2_greatestDepthIn 19 = .ok (.iconst 1, 1) ∧ decode cX2_greatestDepthIn 20 = .ok (.iadd, 1) ∧ decode cX2_greatestDepthIn 21 = .ok (.invokestatic 43, 3) ∧ decode cX2_greatestDepthIn 24 = .ok (.aload_n 0, 1) ∧ decode cX2_greatestDepthIn 25 = .ok (.getfield 79, 3) ∧ decode cX2_greatestDepthIn 28 = .ok (.iload_n 1, 1) ∧ decode cX2_greatestDepthIn 29 = .ok (.iconst 1, 1) ∧ decode cX2_greatestDepthIn 30 = .ok (.iadd, 1) ∧ decode cX2_greatestDepthIn 31 = .ok (.invokestatic 43, 3) ∧ decode cX2_greatestDepthIn 34 = .ok (.invokestatic 132, 3) ∧ decode cX2_greatestDepthIn 37 = .ok (.ireturn, 1) := by decide +kernel
theorem D_X2_sumOfDepthsIn_0 : decode cX2_sumOfDepthsIn 0 = .ok (.aload_n 0, 1) ∧ decode cX2_sumOfDepthsIn 1 = .ok (.ifnull 9, 3) ∧ decode cX2_sumOfDepthsIn 4 = .ok (.iload_n 1, 1) ∧ decode cX2_sumOfDepthsIn 5 = .ok (.bipush 40, 2) ∧ decode cX2_sumOfDepthsIn 7 = .ok (.if_icmp .lt 5, 3) ∧ decode cX2_sumOfDepthsIn 10 = .ok (.iconst 0, 1) ∧ decode cX2_sumOfDepthsIn 11 = .ok (.ireturn, 1) ∧ decode cX2_sumOfDepthsIn 12 = .ok (.iload_n 1, 1) ∧ decode cX2_sumOfDepthsIn 13 = .ok (.aload_n 0, 1) ∧ decode cX2_sumOfDepthsIn 14 = .ok (.getfield 76, 3) ∧ decode cX2_sumOfDepthsIn 17 = .ok (.iload_n 1, 1) ∧ decode cX2_sumOfDepthsIn 18 = .ok (.iconst 1, 1) := by decide +kernel
theorem D_X2_sumOfDepthsIn_1 : decode cX2_sumOfDepthsIn 19 = .ok (.iadd, 1) ∧ decode cX2_sumOfDepthsIn 20 = .ok (.invokestatic 47, 3) ∧ decode cX2_sumOfDepthsIn 23 = .ok (.iadd, 1) ∧ decode cX2_sumOfDepthsIn 24 = .ok (.aload_n 0, 1) ∧ decode cX2_sumOfDepthsIn 25 = .ok (.getfield 79, 3) ∧ decode cX2_sumOfDepthsIn 28 = .ok (.iload_n 1, 1) ∧ decode cX2_sumOfDepthsIn 29 = .ok (.iconst 1, 1) ∧ decode cX2_sumOfDepthsIn 30 = .ok (.iadd, 1) ∧ decode cX2_sumOfDepthsIn 31 = .ok (.invokestatic 47, 3) ∧ decode cX2_sumOfDepthsIn 34 = .ok (.iadd, 1) ∧ decode cX2_sumOfDepthsIn 35 = .ok (.ireturn, 1) := by decide +kernel
theorem D_X2_greatestDepth_0 : decode cX2_greatestDepth 0 = .ok (.aload_n 0, 1) ∧ decode cX2_greatestDepth 1 = .ok (.getfield 20, 3) ∧ decode cX2_greatestDepth 4 = .ok (.iconst 0, 1) ∧ decode cX2_greatestDepth 5 = .ok (.invokestatic 43, 3) ∧ decode cX2_greatestDepth 8 = .ok (.ireturn, 1) := by decide +kernel
theorem D_X2_sumOfDepths_0 : decode cX2_sumOfDepths 0 = .ok (.aload_n 0, 1) ∧ decode cX2_sumOfDepths 1 = .ok (.getfield 20, 3) ∧ decode cX2_sumOfDepths 4 = .ok (.iconst 0, 1) ∧ decode cX2_sumOfDepths 5 = .ok (.invokestatic 47, 3) ∧ decode cX2_sumOfDepths 8 = .ok (.ireturn, 1) := by decide +kernel
theorem D_X2_holds_0 : decode cX2_holds 0 = .ok (.aload_n 0, 1) ∧ decode cX2_holds 1 = .ok (.iload_n 1, 1) ∧ decode cX2_holds 2 = .ok (.invokevirtual 50, 3) ∧ decode cX2_holds 5 = .ok (.astore_n 2, 1) ∧ decode cX2_holds 6 = .ok (.aload_n 2, 1) ∧ decode cX2_holds 7 = .ok (.ifnull 14, 3) ∧ decode cX2_holds 10 = .ok (.aload_n 2, 1) ∧ decode cX2_holds 11 = .ok (.getfield 54, 3) ∧ decode cX2_holds 14 = .ok (.ifCond .eq 7, 3) ∧ decode cX2_holds 17 = .ok (.iconst 1, 1) ∧ decode cX2_holds 18 = .ok (.goto 4, 3) ∧ decode cX2_holds 21 = .ok (.iconst 0, 1) := by decide +kernel
theorem D_X2_holds_1 : decode cX2_holds 22 = .ok (.ireturn, 1) := by decide +kernel
theorem D_X2_depthOf_0 : decode cX2_depthOf 0 = .ok (.aload_n 0, 1) ∧ decode cX2_depthOf 1 = .ok (.iload_n 1, 1) ∧ decode cX2_depthOf 2 = .ok (.invokevirtual 50, 3) ∧ decode cX2_depthOf 5 = .ok (.ifnonnull 7, 3) ∧ decode cX2_depthOf 8 = .ok (.iconst (-1), 1) ∧ decode cX2_depthOf 9 = .ok (.goto 12, 3) ∧ decode cX2_depthOf 12 = .ok (.aload_n 0, 1) ∧ decode cX2_depthOf 13 = .ok (.getfield 14, 3) ∧ decode cX2_depthOf 16 = .ok (.invokevirtual 58, 3) ∧ decode cX2_depthOf 19 = .ok (.iconst 1, 1) ∧ decode cX2_depthOf 20 = .ok (.isub, 1) ∧ decode cX2_depthOf 21 = .ok (.ireturn, 1) := by decide +kernel
theorem D_X2_appendAll_0 : decode cX2_appendAll 0 = .ok (.aload_n 0, 1) ∧ decode cX2_appendAll 1 = .ok (.ifnull 9, 3) ∧ decode cX2_appendAll 4 = .ok (.iload_n 3, 1) ∧ decode cX2_appendAll 5 = .ok (.bipush 40, 2) ∧ decode cX2_appendAll 7 = .ok (.if_icmp .lt 4, 3) ∧ decode cX2_appendAll 10 = .ok (.return_, 1) ∧ decode cX2_appendAll 11 = .ok (.aload_n 0, 1) ∧ decode cX2_appendAll 12 = .ok (.getfield 76, 3) ∧ decode cX2_appendAll 15 = .ok (.iload_n 1, 1) ∧ decode cX2_appendAll 16 = .ok (.aload_n 2, 1) ∧ decode cX2_appendAll 17 = .ok (.iload_n 3, 1) ∧ decode cX2_appendAll 18 = .ok (.iconst 1, 1) := by decide +kernel
theorem D_X2_appendAll_1 : decode cX2_appendAll 19 = .ok (.iadd, 1) ∧ decode cX2_appendAll 20 = .ok (.invokestatic 117, 3) ∧ decode cX2_appendAll 23 = .ok (.iload_n 1, 1) ∧ decode cX2_appendAll 24 = .ok (.ifCond .ne 10, 3) ∧ decode cX2_appendAll 27 = .ok (.aload_n 0, 1) ∧ decode cX2_appendAll 28 = .ok (.getfield 54, 3) ∧ decode cX2_appendAll 31 = .ok (.ifCond .eq 8, 3) ∧ decode cX2_appendAll 34 = .ok (.aload_n 2, 1) ∧ decode cX2_appendAll 35 = .ok (.aload_n 0, 1) ∧ decode cX2_appendAll 36 = .ok (.invokevirtual 65, 3) ∧ decode cX2_appendAll 39 = .ok (.aload_n 0, 1) ∧ decode cX2_appendAll 40 = .ok (.getfield 79, 3) := by decide +kernel
theorem D_X2_appendAll_2 : decode cX2_appendAll 43 = .ok (.iload_n 1, 1) ∧ decode cX2_appendAll 44 = .ok (.aload_n 2, 1) ∧ decode cX2_appendAll 45 = .ok (.iload_n 3, 1) ∧ decode cX2_appendAll 46 = .ok (.iconst 1, 1) ∧ decode cX2_appendAll 47 = .ok (.iadd, 1) ∧ decode cX2_appendAll 48 = .ok (.invokestatic 117, 3) ∧ decode cX2_appendAll 51 = .ok (.return_, 1) := by decide +kernel
theorem D_X2_gather_0 : decode cX2_gather 0 = .ok (.aload_n 0, 1) ∧ decode cX2_gather 1 = .ok (.getfield 34, 3) ∧ decode cX2_gather 4 = .ok (.invokevirtual 62, 3) ∧ decode cX2_gather 7 = .ok (.aload_n 1, 1) ∧ decode cX2_gather 8 = .ok (.iload_n 2, 1) ∧ decode cX2_gather 9 = .ok (.aload_n 0, 1) ∧ decode cX2_gather 10 = .ok (.getfield 34, 3) ∧ decode cX2_gather 13 = .ok (.iconst 0, 1) ∧ decode cX2_gather 14 = .ok (.invokestatic 117, 3) ∧ decode cX2_gather 17 = .ok (.return_, 1) := by decide +kernel
theorem D_X2_livingNodes_0 : decode cX2_livingNodes 0 = .ok (.aload_n 0, 1) ∧ decode cX2_livingNodes 1 = .ok (.aload_n 0, 1) ∧ decode cX2_livingNodes 2 = .ok (.getfield 20, 3) ∧ decode cX2_livingNodes 5 = .ok (.iconst 0, 1) ∧ decode cX2_livingNodes 6 = .ok (.invokevirtual 103, 3) ∧ decode cX2_livingNodes 9 = .ok (.aload_n 0, 1) ∧ decode cX2_livingNodes 10 = .ok (.getfield 34, 3) ∧ decode cX2_livingNodes 13 = .ok (.areturn, 1) := by decide +kernel
abbrev rm_X1_orderOf : Room := { frames := 0, cells := 0, slots := 0, locals := 0 }
set_option maxHeartbeats 4000000 in
set_option maxRecDepth 100000 in
theorem c_X1_orderOf (l : Launch) (G : xG) {K N : Nat → Nat} {I : Nat → Nat → Int32} {Q : Nat → Nat → Option Nat} {J : Nat → Nat → Int64} (t c d : Nat)  : XM l yX1_orderOf cX1_orderOf 3 (some .int) rm_X1_orderOf G Ri [.ref t, .int (cv1 c), .int (nI d)] (K, N, I, Q, J) (fun r S1 => r = cv1 (od1 d c) ∧ S1 = (K, N, I, Q, J)) := by
  refine x_meti (lv := [_, _, _]) (by decide +kernel) (x_cc (by first | rfl | exact x_crf _) (x_cc (by first | rfl | exact x_crf _) (x_cc (by first | rfl | exact x_crf _) x_cn))) (Nat.le_of_ble_eq_true rfl) rfl ?_
  intro pP eE sS mM aA bB hH cC Z C hini ret
  refine x_iload_n C D_X1_orderOf_0.1 rfl rfl ?_
  refine ret _ _ _ _ _ _ rfl D_X1_orderOf_0.2 (Nat.le_of_ble_eq_true rfl) (Nat.le_of_ble_eq_true rfl) ?_
  exact ⟨rfl, rfl⟩
abbrev rm_X5_orderOf : Room := { frames := 0, cells := 0, slots := 0, locals := 0 }
set_option maxHeartbeats 4000000 in
set_option maxRecDepth 100000 in
theorem c_X5_orderOf (l : Launch) (G : xG) {K N : Nat → Nat} {I : Nat → Nat → Int32} {Q : Nat → Nat → Option Nat} {J : Nat → Nat → Int64} (t c d : Nat) (hc : c < 10000) (hd : d < 1000) : XM l yX5_orderOf cX5_orderOf 3 (some .int) rm_X5_orderOf G Ri [.ref t, .int (cv5 c), .int (nI d)] (K, N, I, Q, J) (fun r S1 => r = cv5 (od5 d c) ∧ S1 = (K, N, I, Q, J)) := by
  refine x_meti (lv := [_, _, _]) (by decide +kernel) (x_cc (by first | rfl | exact x_crf _) (x_cc (by first | rfl | exact x_crf _) (x_cc (by first | rfl | exact x_crf _) x_cn))) (Nat.le_of_ble_eq_true rfl) rfl ?_
  intro pP eE sS mM aA bB hH cC Z C hini ret
  refine x_iload_n C D_X5_orderOf_0.1 rfl rfl ?_
  refine x_iconst C (v := nI 2) D_X5_orderOf_0.2.1 (by decide +kernel) ?_
  refine x_irem C D_X5_orderOf_0.2.2.1 (by decide) ?_
  refine x_eqi _ (pk_rem (a := d) (d := 2) (by omega) (by omega) (by omega)) ?_
  refine x_if_ne C 10 D_X5_orderOf_0.2.2.2.1 (by decide) (fun c_3 => ?_) (fun c_3 => ?_)
  · skip
    have c1 : ¬ d % 2 = 0 := fun h => c_3 (by rw [h]; rfl)
    refine x_iload_n C D_X5_orderOf_0.2.2.2.2.2.2.1 rfl rfl ?_
    refine x_bipush C (v := nI 100) D_X5_orderOf_0.2.2.2.2.2.2.2.1 (by decide +kernel) ?_
    refine x_irem C D_X5_orderOf_0.2.2.2.2.2.2.2.2.1 (by decide) ?_
    refine x_eqi _ (pk_rem (a := c) (d := 100) (by omega) (by omega) (by omega)) ?_
    refine x_bipush C (v := nI 100) D_X5_orderOf_0.2.2.2.2.2.2.2.2.2.1 (by decide +kernel) ?_
    refine x_imul C D_X5_orderOf_0.2.2.2.2.2.2.2.2.2.2.1 ?_
    refine x_eqi _ (pk_mul (c % 100) 100) ?_
    refine x_iload_n C D_X5_orderOf_0.2.2.2.2.2.2.2.2.2.2.2 rfl rfl ?_
    refine x_bipush C (v := nI 100) D_X5_orderOf_1.1 (by decide +kernel) ?_
    refine x_idiv C D_X5_orderOf_1.2.1 (by decide) ?_
    refine x_eqi _ (pk_div (a := c) (d := 100) (by omega) (by omega) (by omega)) ?_
    refine x_iadd C D_X5_orderOf_1.2.2.1 ?_
    refine x_eqi _ (nI_add _ _) ?_
    refine ret _ _ _ _ _ _ rfl D_X5_orderOf_1.2.2.2 (Nat.le_of_ble_eq_true rfl) (Nat.le_of_ble_eq_true rfl) ?_
    exact ⟨by simp [cv5, od5, c1], rfl⟩
  · skip
    have c1 : d % 2 = 0 := by
      have h := (nI_eq (a := d % 2) (b := 0) (by omega) (by omega)).mp c_3
      omega
    refine x_iload_n C D_X5_orderOf_0.2.2.2.2.1 rfl rfl ?_
    refine x_goto C 22 D_X5_orderOf_0.2.2.2.2.2.1 (by decide) ?_
    refine ret _ _ _ _ _ _ rfl D_X5_orderOf_1.2.2.2 (Nat.le_of_ble_eq_true rfl) (Nat.le_of_ble_eq_true rfl) ?_
    exact ⟨by simp [cv5, od5, c1], rfl⟩
abbrev rm_X2_belongsLeft_1 : Room := { frames := 1, cells := 0, slots := 0, locals := 22 }
theorem hd_X1_orderOf : yX1_orderOf.cls ≠ "java/lang/invoke/MethodHandle" ∧ yX1_orderOf.cls ≠ "java/lang/invoke/VarHandle" ∧ (parseMethodDescriptor yX1_orderOf.desc).map (fun d => d.parameters.length) = some 2 := by decide +kernel
theorem hu_X1_orderOf : "ScapegoatSpur$LazyTree" ≠ "java/lang/invoke/MethodHandle" ∧ "ScapegoatSpur$LazyTree" ≠ "java/lang/invoke/VarHandle" ∧ (parseMethodDescriptor "(II)I").map (fun d => d.parameters.length) = some 2 := by decide +kernel
set_option maxHeartbeats 4000000 in
set_option maxRecDepth 100000 in
theorem c_X2_belongsLeft_1 (l : Launch) (G : xG) {K N : Nat → Nat} {I : Nat → Nat → Int32} {Q : Nat → Nat → Option Nat} {J : Nat → Nat → Int64} (t c d q : Nat) (cd : Nat → Nat) (hkt : K t = 2) (hc : c < 1999) (hd : d < 1000) (hq : K q = 3) (hI : I q 0 = cv1 (cd q)) (hcd : cd q < 1999) : XM l yX2_belongsLeft cX2_belongsLeft 4 (some .boolean) rm_X2_belongsLeft_1 G Rz [.ref t, .int (cv1 c), .ref q, .int (nI d)] (K, N, I, Q, J) (fun r S1 => r = decide (od1 d c < od1 d (cd q)) ∧ S1 = (K, N, I, Q, J)) := by
  refine x_metz (lv := [_, _, _, _]) (by decide +kernel) (x_cc (by first | rfl | exact x_crf _) (x_cc (by first | rfl | exact x_crf _) (x_cc (by first | rfl | exact x_crf _) (x_cc (by first | rfl | exact x_crf _) x_cn)))) (Nat.le_of_ble_eq_true rfl) rfl ?_
  intro pP eE sS mM aA bB hH cC Z C hini ret
  refine x_aload_n C D_X2_belongsLeft_0.1 rfl rfl (by first | exact Or.inr ⟨_, rfl⟩ | exact va_rf_or _ | exact Or.inl rfl) ?_
  refine x_iload_n C D_X2_belongsLeft_0.2.1 rfl rfl ?_
  refine x_iload_n C D_X2_belongsLeft_0.2.2.1 rfl rfl ?_
  refine x_callAi C (x := ⟨"ScapegoatSpur$LazyTree", "orderOf", "(II)I"⟩) (y := yX1_orderOf) (owner := "ScapegoatSpur$LazyTree") (c_X1_orderOf l G t c d) (ci := 1) (by assumption) (by decide) rfl k_232 k_234 k_235 k_236 k_62 k_237 C.2.2.2.2.2.1.2.1 hu_X1_orderOf ⟨(Nat.le_of_ble_eq_true rfl), (Nat.le_of_ble_eq_true rfl)⟩ rfl (by first | exact Nat.le_of_ble_eq_true rfl | simp [x_crf, Value.category]) rfl rfl D_X2_belongsLeft_0.2.2.2.1 ⟨(Nat.le_of_ble_eq_true rfl), (Nat.le_of_ble_eq_true rfl)⟩ (fun r_3 S_3 h_3 => ?_)
  obtain ⟨rfl, rfl⟩ := h_3
  refine x_aload_n C D_X2_belongsLeft_0.2.2.2.2.1 rfl rfl (by first | exact Or.inr ⟨_, rfl⟩ | exact va_rf_or _ | exact Or.inl rfl) ?_
  refine x_aload_n C D_X2_belongsLeft_0.2.2.2.2.2.1 rfl rfl (by first | exact Or.inr ⟨_, rfl⟩ | exact va_rf_or _ | exact Or.inl rfl) ?_
  refine x_getI C (ci := 2) (k0 := 0) (by assumption) (by decide) rfl (by decide) in_X3 k_611 rfl rfl D_X2_belongsLeft_0.2.2.2.2.2.2.1 ?_
  refine x_eqi _ hI ?_
  refine x_iload_n C D_X2_belongsLeft_0.2.2.2.2.2.2.2.1 rfl rfl ?_
  refine x_callAi C (x := ⟨"ScapegoatSpur$LazyTree", "orderOf", "(II)I"⟩) (y := yX1_orderOf) (owner := "ScapegoatSpur$LazyTree") (c_X1_orderOf l G t (cd q) d) (ci := 1) (by assumption) (by decide) rfl k_232 k_234 k_235 k_236 k_62 k_237 C.2.2.2.2.2.1.2.1 hu_X1_orderOf ⟨(Nat.le_of_ble_eq_true rfl), (Nat.le_of_ble_eq_true rfl)⟩ rfl (by first | exact Nat.le_of_ble_eq_true rfl | simp [x_crf, Value.category]) rfl rfl D_X2_belongsLeft_0.2.2.2.2.2.2.2.2.1 ⟨(Nat.le_of_ble_eq_true rfl), (Nat.le_of_ble_eq_true rfl)⟩ (fun r_12 S_12 h_12 => ?_)
  obtain ⟨rfl, rfl⟩ := h_12
  refine x_icmp_ge C 22 D_X2_belongsLeft_0.2.2.2.2.2.2.2.2.2.1 (by decide) (fun c_15 => ?_) (fun c_15 => ?_)
  · skip
    have c1 : ¬ od1 d c < od1 d (cd q) := fun h => by
      have h1 := i32_le.mp c_15
      rw [cv1_toInt (od1_lt hc), cv1_toInt (od1_lt hcd)] at h1
      omega
    refine x_iconst C (v := nI 0) D_X2_belongsLeft_1.1 (by decide +kernel) ?_
    refine ret _ _ _ _ _ _ false rfl D_X2_belongsLeft_1.2 (Nat.le_of_ble_eq_true rfl) (Nat.le_of_ble_eq_true rfl) rfl ?_
    exact ⟨by simp [c1], rfl⟩
  · skip
    have c1 : od1 d c < od1 d (cd q) := by
      rw [i32_le, cv1_toInt (od1_lt hc), cv1_toInt (od1_lt hcd)] at c_15
      omega
    refine x_iconst C (v := nI 1) D_X2_belongsLeft_0.2.2.2.2.2.2.2.2.2.2.1 (by decide +kernel) ?_
    refine x_goto C 23 D_X2_belongsLeft_0.2.2.2.2.2.2.2.2.2.2.2 (by decide) ?_
    refine ret _ _ _ _ _ _ true rfl D_X2_belongsLeft_1.2 (Nat.le_of_ble_eq_true rfl) (Nat.le_of_ble_eq_true rfl) rfl ?_
    exact ⟨by simp [c1], rfl⟩
abbrev rm_X2_living_1 : Room := { frames := 0, cells := 0, slots := 0, locals := 0 }
set_option maxHeartbeats 4000000 in
set_option maxRecDepth 100000 in
theorem c_X2_living_1 (l : Launch) (G : xG) {K N : Nat → Nat} {I : Nat → Nat → Int32} {Q : Nat → Nat → Option Nat} {J : Nat → Nat → Int64} (t : Nat) (h : K t = 2) : XM l yX2_living cX2_living 1 (some .int) rm_X2_living_1 G Ri [.ref t] (K, N, I, Q, J) (fun r S1 => r = I t 3 ∧ S1 = (K, N, I, Q, J)) := by
  refine x_meti (lv := [_]) (by decide +kernel) (x_cc (by first | rfl | exact x_crf _) x_cn) (Nat.le_of_ble_eq_true rfl) rfl ?_
  intro pP eE sS mM aA bB hH cC Z C hini ret
  refine x_aload_n C D_X2_living_0.1 rfl rfl (by first | exact Or.inr ⟨_, rfl⟩ | exact va_rf_or _ | exact Or.inl rfl) ?_
  refine x_getI C (ci := 1) (k0 := 3) (by assumption) (by decide) rfl (by decide) in_X1 k_113 rfl rfl D_X2_living_0.2.1 ?_
  refine ret _ _ _ _ _ _ rfl D_X2_living_0.2.2 (Nat.le_of_ble_eq_true rfl) (Nat.le_of_ble_eq_true rfl) ?_
  exact ⟨rfl, rfl⟩
abbrev rm_X2_rebuiltWeight_1 : Room := { frames := 0, cells := 0, slots := 0, locals := 0 }
set_option maxHeartbeats 4000000 in
set_option maxRecDepth 100000 in
theorem c_X2_rebuiltWeight_1 (l : Launch) (G : xG) {K N : Nat → Nat} {I : Nat → Nat → Int32} {Q : Nat → Nat → Option Nat} {J : Nat → Nat → Int64} (t : Nat) (h : K t = 2) : XM l yX2_rebuiltWeight cX2_rebuiltWeight 1 (some .int) rm_X2_rebuiltWeight_1 G Ri [.ref t] (K, N, I, Q, J) (fun r S1 => r = I t 4 ∧ S1 = (K, N, I, Q, J)) := by
  refine x_meti (lv := [_]) (by decide +kernel) (x_cc (by first | rfl | exact x_crf _) x_cn) (Nat.le_of_ble_eq_true rfl) rfl ?_
  intro pP eE sS mM aA bB hH cC Z C hini ret
  refine x_aload_n C D_X2_rebuiltWeight_0.1 rfl rfl (by first | exact Or.inr ⟨_, rfl⟩ | exact va_rf_or _ | exact Or.inl rfl) ?_
  refine x_getI C (ci := 1) (k0 := 4) (by assumption) (by decide) rfl (by decide) in_X1 k_114 rfl rfl D_X2_rebuiltWeight_0.2.1 ?_
  refine ret _ _ _ _ _ _ rfl D_X2_rebuiltWeight_0.2.2 (Nat.le_of_ble_eq_true rfl) (Nat.le_of_ble_eq_true rfl) ?_
  exact ⟨rfl, rfl⟩
abbrev rm_X2_dropCount_1 : Room := { frames := 0, cells := 0, slots := 0, locals := 0 }
set_option maxHeartbeats 4000000 in
set_option maxRecDepth 100000 in
theorem c_X2_dropCount_1 (l : Launch) (G : xG) {K N : Nat → Nat} {I : Nat → Nat → Int32} {Q : Nat → Nat → Option Nat} {J : Nat → Nat → Int64} (t : Nat) (h : K t = 2) : XM l yX2_dropCount cX2_dropCount 1 (some .int) rm_X2_dropCount_1 G Ri [.ref t] (K, N, I, Q, J) (fun r S1 => r = I t 5 ∧ S1 = (K, N, I, Q, J)) := by
  refine x_meti (lv := [_]) (by decide +kernel) (x_cc (by first | rfl | exact x_crf _) x_cn) (Nat.le_of_ble_eq_true rfl) rfl ?_
  intro pP eE sS mM aA bB hH cC Z C hini ret
  refine x_aload_n C D_X2_dropCount_0.1 rfl rfl (by first | exact Or.inr ⟨_, rfl⟩ | exact va_rf_or _ | exact Or.inl rfl) ?_
  refine x_getI C (ci := 1) (k0 := 5) (by assumption) (by decide) rfl (by decide) in_X1 k_115 rfl rfl D_X2_dropCount_0.2.1 ?_
  refine ret _ _ _ _ _ _ rfl D_X2_dropCount_0.2.2 (Nat.le_of_ble_eq_true rfl) (Nat.le_of_ble_eq_true rfl) ?_
  exact ⟨rfl, rfl⟩
abbrev rm_X2_nodeCount_1 : Room := { frames := 1, cells := 0, slots := 0, locals := 20 }
theorem hd_X3_weightOf : yX3_weightOf.cls ≠ "java/lang/invoke/MethodHandle" ∧ yX3_weightOf.cls ≠ "java/lang/invoke/VarHandle" ∧ (parseMethodDescriptor yX3_weightOf.desc).map (fun d => d.parameters.length) = some 1 := by decide +kernel
set_option maxHeartbeats 4000000 in
set_option maxRecDepth 100000 in
theorem c_X2_nodeCount_1 (l : Launch) (G : xG) {K N : Nat → Nat} {I : Nat → Nat → Int32} {Q : Nat → Nat → Option Nat} {J : Nat → Nat → Int64} (t : Nat) (h : K t = 2) (hr : ∀ q, Q t 2 = some q → K q = 3) : XM l yX2_nodeCount cX2_nodeCount 1 (some .int) rm_X2_nodeCount_1 G Ri [.ref t] (K, N, I, Q, J) (fun r S1 => r = wOf I (Q t 2) ∧ S1 = (K, N, I, Q, J)) := by
  refine x_meti (lv := [_]) (by decide +kernel) (x_cc (by first | rfl | exact x_crf _) x_cn) (Nat.le_of_ble_eq_true rfl) rfl ?_
  intro pP eE sS mM aA bB hH cC Z C hini ret
  refine x_aload_n C D_X2_nodeCount_0.1 rfl rfl (by first | exact Or.inr ⟨_, rfl⟩ | exact va_rf_or _ | exact Or.inl rfl) ?_
  refine x_getQ C (ci := 1) (k0 := 2) (by assumption) (by decide) rfl (by decide) in_X1 k_112 rfl rfl D_X2_nodeCount_0.2.1 ?_
  refine x_nmq (fun o_1 eo_1 => ?_)
  refine x_callSi C (y := yX3_weightOf) (c_X3_weightOf l G o_1 (fun q hq => hr q (by rw [← eo_1]; exact hq))) k_247 k_248 k_73 k_249 hd_X3_weightOf ⟨(Nat.le_of_ble_eq_true rfl), (Nat.le_of_ble_eq_true rfl)⟩ rfl (by first | exact Nat.le_of_ble_eq_true rfl | simp [x_crf, Value.category]) rfl rfl D_X2_nodeCount_0.2.2.1 ⟨(Nat.le_of_ble_eq_true rfl), (Nat.le_of_ble_eq_true rfl)⟩ (fun r_4 S_4 h_4 => ?_)
  obtain ⟨rfl, rfl⟩ := h_4
  refine ret _ _ _ _ _ _ rfl D_X2_nodeCount_0.2.2.2 (Nat.le_of_ble_eq_true rfl) (Nat.le_of_ble_eq_true rfl) ?_
  exact ⟨by rw [eo_1], rfl⟩
abbrev rm_X2_find_1 : Room := { frames := 2, cells := 0, slots := 0, locals := 45 }
theorem hd_X2_belongsLeft : yX2_belongsLeft.cls ≠ "java/lang/invoke/MethodHandle" ∧ yX2_belongsLeft.cls ≠ "java/lang/invoke/VarHandle" ∧ (parseMethodDescriptor yX2_belongsLeft.desc).map (fun d => d.parameters.length) = some 3 := by decide +kernel
theorem hd_X4_append : yX4_append.cls ≠ "java/lang/invoke/MethodHandle" ∧ yX4_append.cls ≠ "java/lang/invoke/VarHandle" ∧ (parseMethodDescriptor yX4_append.desc).map (fun d => d.parameters.length) = some 1 := by decide +kernel
theorem hd_X4_empty : yX4_empty.cls ≠ "java/lang/invoke/MethodHandle" ∧ yX4_empty.cls ≠ "java/lang/invoke/VarHandle" ∧ (parseMethodDescriptor yX4_empty.desc).map (fun d => d.parameters.length) = some 0 := by decide +kernel
theorem hd_X4_length : yX4_length.cls ≠ "java/lang/invoke/MethodHandle" ∧ yX4_length.cls ≠ "java/lang/invoke/VarHandle" ∧ (parseMethodDescriptor yX4_length.desc).map (fun d => d.parameters.length) = some 0 := by decide +kernel
theorem hu_X2_belongsLeft : "ScapegoatSpur$LazyTree" ≠ "java/lang/invoke/MethodHandle" ∧ "ScapegoatSpur$LazyTree" ≠ "java/lang/invoke/VarHandle" ∧ (parseMethodDescriptor "(ILScapegoatSpur$Node;I)Z").map (fun d => d.parameters.length) = some 3 := by decide +kernel
set_option maxHeartbeats 4000000 in
set_option maxRecDepth 100000 in
theorem c_X2_find_1 (l : Launch) (G : xG) {K N : Nat → Nat} {I : Nat → Nat → Int32} {Q : Nat → Nat → Option Nat} {J : Nat → Nat → Int64} (t pq pn rw rn cap c : Nat) (A : Tr) (cd : Nat → Nat) (hz : LZ K N Q t 2 pq pn rw rn cap) (hT0 : TP K Q A (Q t 2)) (hnd : ND cv1 1999 K I cd (ino A)) (hA : ht A ≤ 40) (hc : c < 1999) : XM l yX2_find cX2_find 4 (some (.object "ScapegoatSpur$Node")) rm_X2_find_1 G Rq [.ref t, .int (cv1 c)] (K, N, I, Q, J) (fun r S1 => r = sfind od1 cd c A 0 ∧ (∃ g, S1 = (K, N, x_u2 I pq 1 (nI (spath od1 cd c A 0).length), x_up Q pn g, J) ∧ SEG g 0 (spath od1 cd c A 0))) := by
  refine x_metq (lv := [_, _, _, _]) (by decide +kernel) (x_cc (by first | rfl | exact x_crf _) (x_cc (by first | rfl | exact x_crf _) x_cn)) (Nat.le_of_ble_eq_true rfl) rfl ?_
  intro pP eE sS mM aA bB hH cC Z C hini ret
  obtain ⟨hk, hkd, h0, h1, hp, hrw, hpr, hpn⟩ := hz
  refine x_aload_n C D_X2_find_0.1 rfl rfl (by first | exact Or.inr ⟨_, rfl⟩ | exact va_rf_or _ | exact Or.inl rfl) ?_
  refine x_getQ C (ci := 1) (k0 := 0) (by assumption) (by decide) rfl (by decide) in_X1 k_110 rfl rfl D_X2_find_0.2.1 ?_
  refine x_eqr h0 ?_
  refine x_callVv C (y := yX4_empty) (c_X4_empty l G pq hp.1) (ci := 3) hp.1 (by decide) rfl rfl k_216 k_217 k_218 k_63 k_219 hd_X4_empty ⟨(Nat.le_of_ble_eq_true rfl), (Nat.le_of_ble_eq_true rfl)⟩ rfl (by first | exact Nat.le_of_ble_eq_true rfl | simp [x_crf, Value.category]) rfl rfl D_X2_find_0.2.2.1 ⟨(Nat.le_of_ble_eq_true rfl), (Nat.le_of_ble_eq_true rfl)⟩ (fun _ S_4 h_4 => ?_)
  subst h_4
  refine x_aload_n C D_X2_find_0.2.2.2.1 rfl rfl (by first | exact Or.inr ⟨_, rfl⟩ | exact va_rf_or _ | exact Or.inl rfl) ?_
  refine x_getQ C (ci := 1) (k0 := 2) (by assumption) (by decide) rfl (by decide) in_X1 k_112 rfl rfl D_X2_find_0.2.2.2.2.1 ?_
  refine x_eqq _ (rfl : Q t 2 = Q t 2) ?_
  refine x_astore_n C (lv' := [_, _, _, _]) D_X2_find_0.2.2.2.2.2.1 rfl (Nat.le_of_ble_eq_true rfl) rfl (by first | exact Or.inr ⟨_, rfl⟩ | exact va_rf_or _ | exact Or.inl rfl) rfl ?_
  have L_12 : ∀ (w_12 : Nat) (B : Tr) (Pw : List Nat) (o : Option Nat) (I1 : Nat → Nat → Int32) (Q1 : Nat → Nat → Option Nat) (g : Nat → Option Nat) (v3 : Option Value), sz B < w_12 → (TP K Q B o) → (∀ a ∈ ino B, a ∈ ino A) → (spath od1 cd c A 0 = Pw ++ spath od1 cd c B Pw.length) → (sfind od1 cd c B Pw.length = sfind od1 cd c A 0) → (I1 = x_u2 I pq 1 (nI Pw.length)) → (Q1 = x_up Q pn g) → (SEG g 0 Pw) → XW pP l eE rm_X2_find_1 sS mM aA bB hH cC G Z 0 0 (K, N, I1, Q1, J) 12 [some (.ref t), some (.int (cv1 c)), some (va_rf o), v3] [] := by
    intro w_12
    induction w_12 with
    | zero =>
      intro B Pw o I1 Q1 g v3 hw_12
      exact absurd hw_12 (Nat.not_lt_zero _)
    | succ w_12 ih_12 =>
      intro B Pw o I1 Q1 g v3 hw_12 hT hsub hP hF eI1 eQ1 hseg_
      refine x_aload_n C D_X2_find_0.2.2.2.2.2.2.1 rfl rfl (by first | exact Or.inr ⟨_, rfl⟩ | exact va_rf_or _ | exact Or.inl rfl) ?_
      refine x_ifnull C 67 D_X2_find_0.2.2.2.2.2.2.2.1 (by decide) (fun e_13 => ?_) (fun q e_13 => ?_)
      · skip
        subst e_13
        obtain rfl := hT.none
        simp only [spath, List.append_nil] at hP
        subst hP
        refine x_null C D_X2_find_2.2.2.2.2.2.2.2.2.2.2.2 ?_
        refine ret _ _ _ _ _ _ _ ⟨_, rfl⟩ D_X2_find_3 (Nat.le_of_ble_eq_true rfl) (Nat.le_of_ble_eq_true rfl) (by first | exact rfl | exact (rfl : _ = va_rf (some _)) | exact (rfl : _ = va_rf none)) ?_
        refine ⟨hF, g, ?_, hseg_⟩
        rw [eI1, eQ1]
      · skip
        subst e_13
        obtain ⟨tl_, tr_, rfl, hq3, hTl, hTr⟩ := hT.some
        obtain ⟨hK3, hI0, hcd⟩ := hnd q (hsub q (by simp [ino]))
        have hqt : q ≠ pq := nodes_ne hK3 hp.1 (by omega)
        have hqn : q ≠ pn := nodes_ne hK3 hp.2.2.1 (by omega)
        have hPl : Pw.length < 40 := by
          have h7 : (Pw ++ spath od1 cd c (.branch q tl_ tr_) Pw.length).length ≤ ht A := by rw [← hP]; exact spath_len _ _ _ _ _
          simp [spath] at h7
          omega
        have hrow : RowOK K N I1 Q1 pq pn 40 Pw.length := by rw [eI1, eQ1]; exact (hp.row g).ok (x_u2_s _ _ _ _) (by omega)
        refine x_aload_n C D_X2_find_0.2.2.2.2.2.2.2.2.1 rfl rfl (by first | exact Or.inr ⟨_, rfl⟩ | exact va_rf_or _ | exact Or.inl rfl) ?_
        refine x_getQ C (ci := 1) (k0 := 0) (by assumption) (by decide) rfl (by decide) in_X1 k_110 rfl rfl D_X2_find_0.2.2.2.2.2.2.2.2.2.1 ?_
        refine x_eqr (show Q1 t 0 = some pq by rw [eQ1, x_up_n _ _ (fun e => by have := hk; rw [e, hp.2.2.1] at this; omega)]; exact h0) ?_
        refine x_callVi C (y := yX4_length) (c_X4_length l G pq hp.1) (ci := 3) hp.1 (by decide) rfl rfl k_220 k_221 k_222 k_63 k_223 hd_X4_length ⟨(Nat.le_of_ble_eq_true rfl), (Nat.le_of_ble_eq_true rfl)⟩ rfl (by first | exact Nat.le_of_ble_eq_true rfl | simp [x_crf, Value.category]) rfl rfl D_X2_find_0.2.2.2.2.2.2.2.2.2.2.1 ⟨(Nat.le_of_ble_eq_true rfl), (Nat.le_of_ble_eq_true rfl)⟩ (fun r_20 S_20 h_20 => ?_)
        obtain ⟨rfl, rfl⟩ := h_20
        refine x_eqi _ (show I1 pq 1 = nI Pw.length by rw [eI1, x_u2_s]) ?_
        refine x_istore_n C (lv' := [_, _, _, _]) D_X2_find_0.2.2.2.2.2.2.2.2.2.2.2 rfl (Nat.le_of_ble_eq_true rfl) rfl rfl ?_
        refine x_aload_n C D_X2_find_1.1 rfl rfl (by first | exact Or.inr ⟨_, rfl⟩ | exact va_rf_or _ | exact Or.inl rfl) ?_
        refine x_getQ C (ci := 1) (k0 := 0) (by assumption) (by decide) rfl (by decide) in_X1 k_110 rfl rfl D_X2_find_1.2.1 ?_
        refine x_eqr (show Q1 t 0 = some pq by rw [eQ1, x_up_n _ _ (fun e => by have := hk; rw [e, hp.2.2.1] at this; omega)]; exact h0) ?_
        refine x_aload_n C D_X2_find_1.2.2.1 rfl rfl (by first | exact Or.inr ⟨_, rfl⟩ | exact va_rf_or _ | exact Or.inl rfl) ?_
        refine x_callVv C (y := yX4_append) (c_X4_append l G pq pn 40 Pw.length q hrow hq3 hPl) (ci := 3) hp.1 (by decide) rfl rfl k_224 k_225 k_226 k_63 k_227 hd_X4_append ⟨(Nat.le_of_ble_eq_true rfl), (Nat.le_of_ble_eq_true rfl)⟩ rfl (by first | exact Nat.le_of_ble_eq_true rfl | simp [x_crf, Value.category]) rfl rfl D_X2_find_1.2.2.2.1 ⟨(Nat.le_of_ble_eq_true rfl), (Nat.le_of_ble_eq_true rfl)⟩ (fun _ S_29 h_29 => ?_)
        obtain ⟨I2, Q2, rfl, eI2, eQ2⟩ : ∃ I2 Q2, S_29 = (K, N, I2, Q2, J) ∧ I2 = x_u2 I pq 1 (nI (Pw ++ [q]).length) ∧ Q2 = x_up Q pn (x_up g Pw.length (some q)) := ⟨_, _, h_29, by rw [eI1, x_u2_u2]; simp, by rw [eQ1, x_u2_up]⟩
        have hseg2 : SEG (x_up g Pw.length (some q)) 0 (Pw ++ [q]) := by
          intro i hi
          simp at hi
          by_cases e : i = Pw.length
          · subst e; simp [x_up]
          · rw [Nat.zero_add, x_up_n _ _ e, List.getElem?_append_left (by omega)]
            have := hseg_ i (by omega)
            rwa [Nat.zero_add] at this
        refine x_aload_n C D_X2_find_1.2.2.2.2.1 rfl rfl (by first | exact Or.inr ⟨_, rfl⟩ | exact va_rf_or _ | exact Or.inl rfl) ?_
        refine x_getI C (ci := 2) (k0 := 0) hq3 (by decide) rfl (by decide) in_X3 k_611 rfl rfl D_X2_find_1.2.2.2.2.2.1 ?_
        refine x_eqi _ (show I2 q 0 = cv1 (cd q) by rw [eI2, x_u2_a _ _ hqt]; exact hI0) ?_
        refine x_iload_n C D_X2_find_1.2.2.2.2.2.2.1 rfl rfl ?_
        refine x_icmp_ne C 42 D_X2_find_1.2.2.2.2.2.2.2.1 (by decide) (fun c_37 => ?_) (fun c_37 => ?_)
        · skip
          have c1 : ¬ cd q = c := fun h => c_37 (by rw [h])
          refine x_aload_n C D_X2_find_1.2.2.2.2.2.2.2.2.2.2.1 rfl rfl (by first | exact Or.inr ⟨_, rfl⟩ | exact va_rf_or _ | exact Or.inl rfl) ?_
          refine x_iload_n C D_X2_find_1.2.2.2.2.2.2.2.2.2.2.2 rfl rfl ?_
          refine x_aload_n C D_X2_find_2.1 rfl rfl (by first | exact Or.inr ⟨_, rfl⟩ | exact va_rf_or _ | exact Or.inl rfl) ?_
          refine x_iload_n C D_X2_find_2.2.1 rfl rfl ?_
          refine x_callUz C (x := ⟨"ScapegoatSpur$LazyTree", "belongsLeft", "(ILScapegoatSpur$Node;I)Z"⟩) (y := yX2_belongsLeft) (owner := "ScapegoatSpur$LazyTree") (c_X2_belongsLeft_1 l G t c Pw.length q cd hk hc (by omega) hq3 (by rw [eI2, x_u2_a _ _ hqt]; exact hI0) hcd) (ci := 1) (by assumption) (by decide) rfl k_228 k_0 k_1 k_230 k_61 k_231 rfl hu_X2_belongsLeft ⟨(Nat.le_of_ble_eq_true rfl), (Nat.le_of_ble_eq_true rfl)⟩ rfl (by first | exact Nat.le_of_ble_eq_true rfl | simp [x_crf, Value.category]) rfl rfl D_X2_find_2.2.2.1 ⟨(Nat.le_of_ble_eq_true rfl), (Nat.le_of_ble_eq_true rfl)⟩ (fun r_46 S_46 h_46 => ?_)
          obtain ⟨rfl, rfl⟩ := h_46
          refine x_if_eq C 59 D_X2_find_2.2.2.2.1 (by decide) (fun c_49 => ?_) (fun c_49 => ?_)
          · skip
            have c2 : ¬ od1 Pw.length c < od1 Pw.length (cd q) := by
              intro h
              rw [decide_eq_true h] at c_49
              exact absurd c_49 (by decide)
            have hP2 : spath od1 cd c A 0 = (Pw ++ [q]) ++ spath od1 cd c tr_ (Pw ++ [q]).length := by rw [hP]; simp [spath, c1, c2]
            have hF2 : sfind od1 cd c tr_ (Pw ++ [q]).length = sfind od1 cd c A 0 := by rw [← hF]; simp [sfind, c1, c2]
            refine x_aload_n C D_X2_find_2.2.2.2.2.2.2.2.1 rfl rfl (by first | exact Or.inr ⟨_, rfl⟩ | exact va_rf_or _ | exact Or.inl rfl) ?_
            refine x_getQ C (ci := 2) (k0 := 4) hq3 (by decide) rfl (by decide) in_X3 k_625 rfl rfl D_X2_find_2.2.2.2.2.2.2.2.2.1 ?_
            refine x_eqq _ (show Q2 q 4 = Q q 4 by rw [eQ2, x_up_n _ _ hqn]) ?_
            refine x_astore_n C (lv' := [_, _, _, _]) D_X2_find_2.2.2.2.2.2.2.2.2.2.1 rfl (Nat.le_of_ble_eq_true rfl) rfl (by first | exact Or.inr ⟨_, rfl⟩ | exact va_rf_or _ | exact Or.inl rfl) rfl ?_
            refine x_goto C 12 D_X2_find_2.2.2.2.2.2.2.2.2.2.2.1 (by decide) ?_
            exact ih_12 tr_ (Pw ++ [q]) _ _ _ _ _ (by simp only [sz] at hw_12; omega) hTr (fun a ha => hsub a (by simp [ino, ha])) hP2 hF2 eI2 eQ2 hseg2
          · skip
            have c2 : od1 Pw.length c < od1 Pw.length (cd q) := by
              by_cases h : od1 Pw.length c < od1 Pw.length (cd q)
              · exact h
              · rw [decide_eq_false h] at c_49
                exact absurd rfl c_49
            have hP2 : spath od1 cd c A 0 = (Pw ++ [q]) ++ spath od1 cd c tl_ (Pw ++ [q]).length := by rw [hP]; simp [spath, c1, c2]
            have hF2 : sfind od1 cd c tl_ (Pw ++ [q]).length = sfind od1 cd c A 0 := by rw [← hF]; simp [sfind, c1, c2]
            refine x_aload_n C D_X2_find_2.2.2.2.2.1 rfl rfl (by first | exact Or.inr ⟨_, rfl⟩ | exact va_rf_or _ | exact Or.inl rfl) ?_
            refine x_getQ C (ci := 2) (k0 := 3) hq3 (by decide) rfl (by decide) in_X3 k_622 rfl rfl D_X2_find_2.2.2.2.2.2.1 ?_
            refine x_eqq _ (show Q2 q 3 = Q q 3 by rw [eQ2, x_up_n _ _ hqn]) ?_
            refine x_goto C 63 D_X2_find_2.2.2.2.2.2.2.1 (by decide) ?_
            refine x_astore_n C (lv' := [_, _, _, _]) D_X2_find_2.2.2.2.2.2.2.2.2.2.1 rfl (Nat.le_of_ble_eq_true rfl) rfl (by first | exact Or.inr ⟨_, rfl⟩ | exact va_rf_or _ | exact Or.inl rfl) rfl ?_
            refine x_goto C 12 D_X2_find_2.2.2.2.2.2.2.2.2.2.2.1 (by decide) ?_
            exact ih_12 tl_ (Pw ++ [q]) _ _ _ _ _ (by simp only [sz] at hw_12; omega) hTl (fun a ha => hsub a (by simp [ino, ha])) hP2 hF2 eI2 eQ2 hseg2
        · skip
          have c1 : cd q = c := (cv1_eq hcd hc).mp c_37
          refine x_aload_n C D_X2_find_1.2.2.2.2.2.2.2.2.1 rfl rfl (by first | exact Or.inr ⟨_, rfl⟩ | exact va_rf_or _ | exact Or.inl rfl) ?_
          refine ret _ _ _ _ _ _ _ ⟨_, rfl⟩ D_X2_find_1.2.2.2.2.2.2.2.2.2.1 (Nat.le_of_ble_eq_true rfl) (Nat.le_of_ble_eq_true rfl) (by first | exact rfl | exact (rfl : _ = va_rf (some _)) | exact (rfl : _ = va_rf none)) ?_
          refine ⟨by rw [← hF]; simp [sfind, c1], x_up g Pw.length (some q), ?_, ?_⟩
          · rw [hP]
            simp only [spath, c1, if_true]
            rw [eI2, eQ2]
          · rw [hP]
            simp only [spath, c1, if_true]
            exact hseg2
  exact L_12 _ A [] _ _ Q (Q pn) none (Nat.lt_succ_self _) hT0 (fun _ h => h) rfl rfl rfl (x_up_id Q pn).symm (fun i hi => absurd hi (Nat.not_lt_zero _))
abbrev rm_X2_holds_1 : Room := { frames := 3, cells := 0, slots := 0, locals := 68 }
theorem hd_X2_find : yX2_find.cls ≠ "java/lang/invoke/MethodHandle" ∧ yX2_find.cls ≠ "java/lang/invoke/VarHandle" ∧ (parseMethodDescriptor yX2_find.desc).map (fun d => d.parameters.length) = some 1 := by decide +kernel
theorem hu_X2_find : "ScapegoatSpur$LazyTree" ≠ "java/lang/invoke/MethodHandle" ∧ "ScapegoatSpur$LazyTree" ≠ "java/lang/invoke/VarHandle" ∧ (parseMethodDescriptor "(I)LScapegoatSpur$Node;").map (fun d => d.parameters.length) = some 1 := by decide +kernel
set_option maxHeartbeats 4000000 in
set_option maxRecDepth 100000 in
theorem c_X2_holds_1 (l : Launch) (G : xG) {K N : Nat → Nat} {I : Nat → Nat → Int32} {Q : Nat → Nat → Option Nat} {J : Nat → Nat → Int64} (t pq pn rw rn cap c : Nat) (A : Tr) (cd : Nat → Nat) (hz : LZ K N Q t 2 pq pn rw rn cap) (hT0 : TP K Q A (Q t 2)) (hnd : ND cv1 1999 K I cd (ino A)) (hA : ht A ≤ 40) (hc : c < 1999) : XM l yX2_holds cX2_holds 3 (some .boolean) rm_X2_holds_1 G Rz [.ref t, .int (cv1 c)] (K, N, I, Q, J) (fun r S1 => r = ((sfind od1 cd c A 0).map (alv I)).getD false ∧ (∃ g, S1 = (K, N, x_u2 I pq 1 (nI (spath od1 cd c A 0).length), x_up Q pn g, J) ∧ SEG g 0 (spath od1 cd c A 0))) := by
  refine x_metz (lv := [_, _, _]) (by decide +kernel) (x_cc (by first | rfl | exact x_crf _) (x_cc (by first | rfl | exact x_crf _) x_cn)) (Nat.le_of_ble_eq_true rfl) rfl ?_
  intro pP eE sS mM aA bB hH cC Z C hini ret
  have hkq : ∀ q, sfind od1 cd c A 0 = some q → K q = 3 := fun q h => (hnd q (sfind_mem _ _ _ _ _ _ h)).1
  have hpk := hz.2.2.2.2.1.1
  refine x_aload_n C D_X2_holds_0.1 rfl rfl (by first | exact Or.inr ⟨_, rfl⟩ | exact va_rf_or _ | exact Or.inl rfl) ?_
  refine x_iload_n C D_X2_holds_0.2.1 rfl rfl ?_
  refine x_callUq C (x := ⟨"ScapegoatSpur$LazyTree", "find", "(I)LScapegoatSpur$Node;"⟩) (y := yX2_find) (owner := "ScapegoatSpur$LazyTree") (c_X2_find_1 l G t pq pn rw rn cap c A cd hz hT0 hnd hA hc) (ci := 1) hz.1 (by decide) rfl k_210 k_212 k_213 k_211 k_61 k_215 rfl hu_X2_find ⟨(Nat.le_of_ble_eq_true rfl), (Nat.le_of_ble_eq_true rfl)⟩ rfl (by first | exact Nat.le_of_ble_eq_true rfl | simp [x_crf, Value.category]) rfl rfl D_X2_holds_0.2.2.1 ⟨(Nat.le_of_ble_eq_true rfl), (Nat.le_of_ble_eq_true rfl)⟩ (fun r_2 S_2 h_2 => ?_)
  obtain ⟨hr, g, rfl, hseg_⟩ := h_2
  refine x_astore_n C (lv' := [_, _, _]) D_X2_holds_0.2.2.2.1 rfl (Nat.le_of_ble_eq_true rfl) rfl (by first | exact Or.inr ⟨_, rfl⟩ | exact va_rf_or _ | exact Or.inl rfl) rfl ?_
  refine x_aload_n C D_X2_holds_0.2.2.2.2.1 rfl rfl (by first | exact Or.inr ⟨_, rfl⟩ | exact va_rf_or _ | exact Or.inl rfl) ?_
  refine x_ifnull C 21 D_X2_holds_0.2.2.2.2.2.1 (by decide) (fun e_7 => ?_) (fun q e_7 => ?_)
  · skip
    subst e_7
    refine x_iconst C (v := nI 0) D_X2_holds_0.2.2.2.2.2.2.2.2.2.2.2 (by decide +kernel) ?_
    refine ret _ _ _ _ _ _ false rfl D_X2_holds_1 (Nat.le_of_ble_eq_true rfl) (Nat.le_of_ble_eq_true rfl) rfl ?_
    exact ⟨by rw [← hr]; rfl, g, rfl, hseg_⟩
  · skip
    subst e_7
    have hq3 := hkq q hr.symm
    have hI1 : x_u2 I pq 1 (nI (spath od1 cd c A 0).length) q 1 = I q 1 := by rw [x_u2_a _ _ (nodes_ne hq3 hpk (by omega))]
    refine x_aload_n C D_X2_holds_0.2.2.2.2.2.2.1 rfl rfl (by first | exact Or.inr ⟨_, rfl⟩ | exact va_rf_or _ | exact Or.inl rfl) ?_
    refine x_getI C (ci := 2) (k0 := 1) hq3 (by decide) rfl (by decide) in_X3 k_614 rfl rfl D_X2_holds_0.2.2.2.2.2.2.2.1 ?_
    refine x_eqi _ hI1 ?_
    refine x_if_eq C 21 D_X2_holds_0.2.2.2.2.2.2.2.2.1 (by decide) (fun c_14 => ?_) (fun c_14 => ?_)
    · skip
      have c1 : alv I q = false := by simp [alv, c_14]
      refine x_iconst C (v := nI 0) D_X2_holds_0.2.2.2.2.2.2.2.2.2.2.2 (by decide +kernel) ?_
      refine ret _ _ _ _ _ _ false rfl D_X2_holds_1 (Nat.le_of_ble_eq_true rfl) (Nat.le_of_ble_eq_true rfl) rfl ?_
      exact ⟨by rw [← hr]; simp [c1], g, rfl, hseg_⟩
    · skip
      have c1 : alv I q = true := by simp [alv, c_14]
      refine x_iconst C (v := nI 1) D_X2_holds_0.2.2.2.2.2.2.2.2.2.1 (by decide +kernel) ?_
      refine x_goto C 22 D_X2_holds_0.2.2.2.2.2.2.2.2.2.2.1 (by decide) ?_
      refine ret _ _ _ _ _ _ true rfl D_X2_holds_1 (Nat.le_of_ble_eq_true rfl) (Nat.le_of_ble_eq_true rfl) rfl ?_
      exact ⟨by rw [← hr]; simp [c1], g, rfl, hseg_⟩
abbrev rm_X2_depthOf_1 : Room := { frames := 3, cells := 0, slots := 0, locals := 68 }
set_option maxHeartbeats 4000000 in
set_option maxRecDepth 100000 in
theorem c_X2_depthOf_1 (l : Launch) (G : xG) {K N : Nat → Nat} {I : Nat → Nat → Int32} {Q : Nat → Nat → Option Nat} {J : Nat → Nat → Int64} (t pq pn rw rn cap c : Nat) (A : Tr) (cd : Nat → Nat) (hz : LZ K N Q t 2 pq pn rw rn cap) (hT0 : TP K Q A (Q t 2)) (hnd : ND cv1 1999 K I cd (ino A)) (hA : ht A ≤ 40) (hc : c < 1999) : XM l yX2_depthOf cX2_depthOf 2 (some .int) rm_X2_depthOf_1 G Ri [.ref t, .int (cv1 c)] (K, N, I, Q, J) (fun r S1 => r = (if (sfind od1 cd c A 0).isSome then nI (spath od1 cd c A 0).length - nI 1 else (-1)) ∧ (∃ g, S1 = (K, N, x_u2 I pq 1 (nI (spath od1 cd c A 0).length), x_up Q pn g, J) ∧ SEG g 0 (spath od1 cd c A 0))) := by
  refine x_meti (lv := [_, _]) (by decide +kernel) (x_cc (by first | rfl | exact x_crf _) (x_cc (by first | rfl | exact x_crf _) x_cn)) (Nat.le_of_ble_eq_true rfl) rfl ?_
  intro pP eE sS mM aA bB hH cC Z C hini ret
  have hpk := hz.2.2.2.2.1.1
  have hq0 := hz.2.2.1
  have hpn_ : t ≠ pn := fun e => by
    have h1 := hz.1
    have h2 := hz.2.2.2.2.1.2.2.1
    rw [e, h2] at h1
    omega
  refine x_aload_n C D_X2_depthOf_0.1 rfl rfl (by first | exact Or.inr ⟨_, rfl⟩ | exact va_rf_or _ | exact Or.inl rfl) ?_
  refine x_iload_n C D_X2_depthOf_0.2.1 rfl rfl ?_
  refine x_callUq C (x := ⟨"ScapegoatSpur$LazyTree", "find", "(I)LScapegoatSpur$Node;"⟩) (y := yX2_find) (owner := "ScapegoatSpur$LazyTree") (c_X2_find_1 l G t pq pn rw rn cap c A cd hz hT0 hnd hA hc) (ci := 1) hz.1 (by decide) rfl k_210 k_212 k_213 k_211 k_61 k_215 rfl hu_X2_find ⟨(Nat.le_of_ble_eq_true rfl), (Nat.le_of_ble_eq_true rfl)⟩ rfl (by first | exact Nat.le_of_ble_eq_true rfl | simp [x_crf, Value.category]) rfl rfl D_X2_depthOf_0.2.2.1 ⟨(Nat.le_of_ble_eq_true rfl), (Nat.le_of_ble_eq_true rfl)⟩ (fun r_2 S_2 h_2 => ?_)
  obtain ⟨hr, g, rfl, hseg_⟩ := h_2
  refine x_ifnonnull C 12 D_X2_depthOf_0.2.2.2.1 (by decide) (fun q_5 e_5 => ?_) (fun e_5 => ?_)
  · skip
    subst e_5
    refine x_aload_n C D_X2_depthOf_0.2.2.2.2.2.2.1 rfl rfl (by first | exact Or.inr ⟨_, rfl⟩ | exact va_rf_or _ | exact Or.inl rfl) ?_
    refine x_getQ C (ci := 1) (k0 := 0) hz.1 (by decide) rfl (by decide) in_X1 k_110 rfl rfl D_X2_depthOf_0.2.2.2.2.2.2.2.1 ?_
    refine x_eqr (show x_up Q pn g t 0 = some pq by rw [x_up_n _ _ hpn_]; exact hq0) ?_
    refine x_callVi C (y := yX4_length) (c_X4_length l G pq hpk) (ci := 3) hpk (by decide) rfl rfl k_220 k_221 k_222 k_63 k_223 hd_X4_length ⟨(Nat.le_of_ble_eq_true rfl), (Nat.le_of_ble_eq_true rfl)⟩ rfl (by first | exact Nat.le_of_ble_eq_true rfl | simp [x_crf, Value.category]) rfl rfl D_X2_depthOf_0.2.2.2.2.2.2.2.2.1 ⟨(Nat.le_of_ble_eq_true rfl), (Nat.le_of_ble_eq_true rfl)⟩ (fun r_16 S_16 h_16 => ?_)
    obtain ⟨rfl, rfl⟩ := h_16
    refine x_iconst C (v := nI 1) D_X2_depthOf_0.2.2.2.2.2.2.2.2.2.1 (by decide +kernel) ?_
    refine x_isub C D_X2_depthOf_0.2.2.2.2.2.2.2.2.2.2.1 ?_
    refine ret _ _ _ _ _ _ rfl D_X2_depthOf_0.2.2.2.2.2.2.2.2.2.2.2 (Nat.le_of_ble_eq_true rfl) (Nat.le_of_ble_eq_true rfl) ?_
    refine ⟨by rw [← hr, x_u2_s]; rfl, g, rfl, hseg_⟩
  · skip
    subst e_5
    refine x_iconst C (v := (-1)) D_X2_depthOf_0.2.2.2.2.1 (by decide +kernel) ?_
    refine x_goto C 21 D_X2_depthOf_0.2.2.2.2.2.1 (by decide) ?_
    refine ret _ _ _ _ _ _ rfl D_X2_depthOf_0.2.2.2.2.2.2.2.2.2.2.2 (Nat.le_of_ble_eq_true rfl) (Nat.le_of_ble_eq_true rfl) ?_
    refine ⟨by rw [← hr]; rfl, g, rfl, hseg_⟩
abbrev rm_X2_greatestDepthIn (b : Nat) : Room := { frames := b + 1, cells := 0, slots := 0, locals := 21 * b + 40 }
theorem hd_X2_greatestDepthIn : yX2_greatestDepthIn.cls ≠ "java/lang/invoke/MethodHandle" ∧ yX2_greatestDepthIn.cls ≠ "java/lang/invoke/VarHandle" ∧ (parseMethodDescriptor yX2_greatestDepthIn.desc).map (fun d => d.parameters.length) = some 2 := by decide +kernel
set_option maxHeartbeats 4000000 in
set_option maxRecDepth 100000 in
theorem c_X2_greatestDepthIn (l : Launch) (G : xG) {K N : Nat → Nat} {I : Nat → Nat → Int32} {Q : Nat → Nat → Option Nat} {J : Nat → Nat → Int64} : ∀ (b : Nat) (A : Tr) (d : Nat) (o : Option Nat), (TP K Q A o) → (ht A ≤ b) → (d + ht A ≤ 40) → XM l yX2_greatestDepthIn cX2_greatestDepthIn 2 (some .int) (rm_X2_greatestDepthIn b) G Ri [va_rf o, .int (nI d)] (K, N, I, Q, J) (fun r S1 => r = nI (d + ht A) - nI 1 ∧ S1 = (K, N, I, Q, J)) := by
  intro b
  induction b using Nat.strongRecOn with
  | _ b ih =>
  intro A d o hT hb hd
  refine x_meti (lv := [_, _]) (by decide +kernel) (x_cc (by first | rfl | exact x_crf _) (x_cc (by first | rfl | exact x_crf _) x_cn)) (Nat.le_of_ble_eq_true rfl) rfl ?_
  intro pP eE sS mM aA bB hH cC Z C hini ret
  refine x_aload_n C D_X2_greatestDepthIn_0.1 rfl rfl (by first | exact Or.inr ⟨_, rfl⟩ | exact va_rf_or _ | exact Or.inl rfl) ?_
  refine x_ifnull C 10 D_X2_greatestDepthIn_0.2.1 (by decide) (fun e_1 => ?_) (fun q e_1 => ?_)
  · skip
    subst e_1
    obtain rfl := hT.none
    refine x_iload_n C D_X2_greatestDepthIn_0.2.2.2.2.2.1 rfl rfl ?_
    refine x_iconst C (v := nI 1) D_X2_greatestDepthIn_0.2.2.2.2.2.2.1 (by decide +kernel) ?_
    refine x_isub C D_X2_greatestDepthIn_0.2.2.2.2.2.2.2.1 ?_
    refine ret _ _ _ _ _ _ rfl D_X2_greatestDepthIn_0.2.2.2.2.2.2.2.2.1 (Nat.le_of_ble_eq_true rfl) (Nat.le_of_ble_eq_true rfl) ?_
    exact ⟨rfl, rfl⟩
  · skip
    subst e_1
    obtain ⟨tl_, tr_, rfl, hq3, hTl, hTr⟩ := hT.some
    simp only [ht] at hb hd
    refine x_iload_n C D_X2_greatestDepthIn_0.2.2.1 rfl rfl ?_
    refine x_bipush C (v := nI 40) D_X2_greatestDepthIn_0.2.2.2.1 (by decide +kernel) ?_
    refine x_icmp_lt C 14 D_X2_greatestDepthIn_0.2.2.2.2.1 (by decide) (fun c_7 => ?_) (fun c_7 => ?_)
    · skip
      refine x_aload_n C D_X2_greatestDepthIn_0.2.2.2.2.2.2.2.2.2.1 rfl rfl (by first | exact Or.inr ⟨_, rfl⟩ | exact va_rf_or _ | exact Or.inl rfl) ?_
      refine x_getQ C (ci := 2) (k0 := 3) hq3 (by decide) rfl (by decide) in_X3 k_622 rfl rfl D_X2_greatestDepthIn_0.2.2.2.2.2.2.2.2.2.2.1 ?_
      refine x_eqq _ (rfl : Q q 3 = Q q 3) ?_
      refine x_iload_n C D_X2_greatestDepthIn_0.2.2.2.2.2.2.2.2.2.2.2 rfl rfl ?_
      refine x_iconst C (v := nI 1) D_X2_greatestDepthIn_1.1 (by decide +kernel) ?_
      refine x_iadd C D_X2_greatestDepthIn_1.2.1 ?_
      refine x_eqi _ (nI_add _ _) ?_
      refine x_callSi C (y := yX2_greatestDepthIn) (ih (b - 1) (by omega) tl_ (d + 1) _ hTl (by omega) (by omega)) k_385 k_386 k_61 k_387 hd_X2_greatestDepthIn ⟨show b - 1 + 1 + 1 ≤ b + 1 by omega, show 8 + (2 + 11) + (21 * (b - 1) + 40) ≤ 21 * b + 40 by omega⟩ rfl (by first | exact Nat.le_of_ble_eq_true rfl | simp [x_crf, Value.category]) rfl rfl D_X2_greatestDepthIn_1.2.2.1 ⟨(Nat.le_of_ble_eq_true rfl), (Nat.le_of_ble_eq_true rfl)⟩ (fun r_21 S_21 h_21 => ?_)
      obtain ⟨rfl, rfl⟩ := h_21
      refine x_aload_n C D_X2_greatestDepthIn_1.2.2.2.1 rfl rfl (by first | exact Or.inr ⟨_, rfl⟩ | exact va_rf_or _ | exact Or.inl rfl) ?_
      refine x_getQ C (ci := 2) (k0 := 4) hq3 (by decide) rfl (by decide) in_X3 k_625 rfl rfl D_X2_greatestDepthIn_1.2.2.2.2.1 ?_
      refine x_eqq _ (rfl : Q q 4 = Q q 4) ?_
      refine x_iload_n C D_X2_greatestDepthIn_1.2.2.2.2.2.1 rfl rfl ?_
      refine x_iconst C (v := nI 1) D_X2_greatestDepthIn_1.2.2.2.2.2.2.1 (by decide +kernel) ?_
      refine x_iadd C D_X2_greatestDepthIn_1.2.2.2.2.2.2.2.1 ?_
      refine x_eqi _ (nI_add _ _) ?_
      refine x_callSi C (y := yX2_greatestDepthIn) (ih (b - 1) (by omega) tr_ (d + 1) _ hTr (by omega) (by omega)) k_385 k_386 k_61 k_387 hd_X2_greatestDepthIn ⟨show b - 1 + 1 + 1 ≤ b + 1 by omega, show 8 + (2 + 11) + (21 * (b - 1) + 40) ≤ 21 * b + 40 by omega⟩ rfl (by first | exact Nat.le_of_ble_eq_true rfl | simp [x_crf, Value.category]) rfl rfl D_X2_greatestDepthIn_1.2.2.2.2.2.2.2.2.1 ⟨(Nat.le_of_ble_eq_true rfl), (Nat.le_of_ble_eq_true rfl)⟩ (fun r_31 S_31 h_31 => ?_)
      obtain ⟨rfl, rfl⟩ := h_31
      refine x_mmax C k_388 k_389 k_74 k_390 rfl (show 1 ≤ b + 1 by omega) (show 0 + 13 ≤ 21 * b + 40 by omega) (Nat.le_of_ble_eq_true rfl) (Nat.le_of_ble_eq_true rfl) D_X2_greatestDepthIn_1.2.2.2.2.2.2.2.2.2.1 ?_
      refine x_eqi _ (imax (by omega) (by omega)) ?_
      refine ret _ _ _ _ _ _ rfl D_X2_greatestDepthIn_1.2.2.2.2.2.2.2.2.2.2 (Nat.le_of_ble_eq_true rfl) (Nat.le_of_ble_eq_true rfl) ?_
      exact ⟨by rw [show max (d + 1 + ht tl_) (d + 1 + ht tr_) = d + ht (.branch q tl_ tr_) by simp only [ht]; omega], rfl⟩
    · skip
      exact absurd ((nI_leI (by omega) (by omega)).mp (fa_of_nlt c_7)) (by omega)
      --end
abbrev rm_X2_belongsLeft_5 : Room := { frames := 1, cells := 0, slots := 0, locals := 22 }
theorem hd_X5_orderOf : yX5_orderOf.cls ≠ "java/lang/invoke/MethodHandle" ∧ yX5_orderOf.cls ≠ "java/lang/invoke/VarHandle" ∧ (parseMethodDescriptor yX5_orderOf.desc).map (fun d => d.parameters.length) = some 2 := by decide +kernel
theorem hu_X5_orderOf : "ScapegoatSpur$LazyTree" ≠ "java/lang/invoke/MethodHandle" ∧ "ScapegoatSpur$LazyTree" ≠ "java/lang/invoke/VarHandle" ∧ (parseMethodDescriptor "(II)I").map (fun d => d.parameters.length) = some 2 := by decide +kernel
set_option maxHeartbeats 4000000 in
set_option maxRecDepth 100000 in
theorem c_X2_belongsLeft_5 (l : Launch) (G : xG) {K N : Nat → Nat} {I : Nat → Nat → Int32} {Q : Nat → Nat → Option Nat} {J : Nat → Nat → Int64} (t c d q : Nat) (cd : Nat → Nat) (hkt : K t = 5) (hc : c < 10000) (hd : d < 1000) (hq : K q = 3) (hI : I q 0 = cv5 (cd q)) (hcd : cd q < 10000) : XM l yX2_belongsLeft cX2_belongsLeft 4 (some .boolean) rm_X2_belongsLeft_5 G Rz [.ref t, .int (cv5 c), .ref q, .int (nI d)] (K, N, I, Q, J) (fun r S1 => r = decide (od5 d c < od5 d (cd q)) ∧ S1 = (K, N, I, Q, J)) := by
  refine x_metz (lv := [_, _, _, _]) (by decide +kernel) (x_cc (by first | rfl | exact x_crf _) (x_cc (by first | rfl | exact x_crf _) (x_cc (by first | rfl | exact x_crf _) (x_cc (by first | rfl | exact x_crf _) x_cn)))) (Nat.le_of_ble_eq_true rfl) rfl ?_
  intro pP eE sS mM aA bB hH cC Z C hini ret
  refine x_aload_n C D_X2_belongsLeft_0.1 rfl rfl (by first | exact Or.inr ⟨_, rfl⟩ | exact va_rf_or _ | exact Or.inl rfl) ?_
  refine x_iload_n C D_X2_belongsLeft_0.2.1 rfl rfl ?_
  refine x_iload_n C D_X2_belongsLeft_0.2.2.1 rfl rfl ?_
  refine x_callAi C (x := ⟨"ScapegoatSpur$LazyTree", "orderOf", "(II)I"⟩) (y := yX5_orderOf) (owner := "ScapegoatSpur$LazyTree") (c_X5_orderOf l G t c d (by omega) (by omega)) (ci := 4) (by assumption) (by decide) rfl k_232 k_234 k_238 k_239 k_66 k_240 C.2.2.2.2.2.1.2.1 hu_X5_orderOf ⟨(Nat.le_of_ble_eq_true rfl), (Nat.le_of_ble_eq_true rfl)⟩ rfl (by first | exact Nat.le_of_ble_eq_true rfl | simp [x_crf, Value.category]) rfl rfl D_X2_belongsLeft_0.2.2.2.1 ⟨(Nat.le_of_ble_eq_true rfl), (Nat.le_of_ble_eq_true rfl)⟩ (fun r_3 S_3 h_3 => ?_)
  obtain ⟨rfl, rfl⟩ := h_3
  refine x_aload_n C D_X2_belongsLeft_0.2.2.2.2.1 rfl rfl (by first | exact Or.inr ⟨_, rfl⟩ | exact va_rf_or _ | exact Or.inl rfl) ?_
  refine x_aload_n C D_X2_belongsLeft_0.2.2.2.2.2.1 rfl rfl (by first | exact Or.inr ⟨_, rfl⟩ | exact va_rf_or _ | exact Or.inl rfl) ?_
  refine x_getI C (ci := 2) (k0 := 0) (by assumption) (by decide) rfl (by decide) in_X3 k_611 rfl rfl D_X2_belongsLeft_0.2.2.2.2.2.2.1 ?_
  refine x_eqi _ hI ?_
  refine x_iload_n C D_X2_belongsLeft_0.2.2.2.2.2.2.2.1 rfl rfl ?_
  refine x_callAi C (x := ⟨"ScapegoatSpur$LazyTree", "orderOf", "(II)I"⟩) (y := yX5_orderOf) (owner := "ScapegoatSpur$LazyTree") (c_X5_orderOf l G t (cd q) d (by omega) (by omega)) (ci := 4) (by assumption) (by decide) rfl k_232 k_234 k_238 k_239 k_66 k_240 C.2.2.2.2.2.1.2.1 hu_X5_orderOf ⟨(Nat.le_of_ble_eq_true rfl), (Nat.le_of_ble_eq_true rfl)⟩ rfl (by first | exact Nat.le_of_ble_eq_true rfl | simp [x_crf, Value.category]) rfl rfl D_X2_belongsLeft_0.2.2.2.2.2.2.2.2.1 ⟨(Nat.le_of_ble_eq_true rfl), (Nat.le_of_ble_eq_true rfl)⟩ (fun r_12 S_12 h_12 => ?_)
  obtain ⟨rfl, rfl⟩ := h_12
  refine x_icmp_ge C 22 D_X2_belongsLeft_0.2.2.2.2.2.2.2.2.2.1 (by decide) (fun c_15 => ?_) (fun c_15 => ?_)
  · skip
    have c1 : ¬ od5 d c < od5 d (cd q) := fun h => by
      have h1 := i32_le.mp c_15
      rw [cv5_toInt (od5_lt hc), cv5_toInt (od5_lt hcd)] at h1
      omega
    refine x_iconst C (v := nI 0) D_X2_belongsLeft_1.1 (by decide +kernel) ?_
    refine ret _ _ _ _ _ _ false rfl D_X2_belongsLeft_1.2 (Nat.le_of_ble_eq_true rfl) (Nat.le_of_ble_eq_true rfl) rfl ?_
    exact ⟨by simp [c1], rfl⟩
  · skip
    have c1 : od5 d c < od5 d (cd q) := by
      rw [i32_le, cv5_toInt (od5_lt hc), cv5_toInt (od5_lt hcd)] at c_15
      omega
    refine x_iconst C (v := nI 1) D_X2_belongsLeft_0.2.2.2.2.2.2.2.2.2.2.1 (by decide +kernel) ?_
    refine x_goto C 23 D_X2_belongsLeft_0.2.2.2.2.2.2.2.2.2.2.2 (by decide) ?_
    refine ret _ _ _ _ _ _ true rfl D_X2_belongsLeft_1.2 (Nat.le_of_ble_eq_true rfl) (Nat.le_of_ble_eq_true rfl) rfl ?_
    exact ⟨by simp [c1], rfl⟩
abbrev rm_X2_living_5 : Room := { frames := 0, cells := 0, slots := 0, locals := 0 }
set_option maxHeartbeats 4000000 in
set_option maxRecDepth 100000 in
theorem c_X2_living_5 (l : Launch) (G : xG) {K N : Nat → Nat} {I : Nat → Nat → Int32} {Q : Nat → Nat → Option Nat} {J : Nat → Nat → Int64} (t : Nat) (h : K t = 5) : XM l yX2_living cX2_living 1 (some .int) rm_X2_living_5 G Ri [.ref t] (K, N, I, Q, J) (fun r S1 => r = I t 3 ∧ S1 = (K, N, I, Q, J)) := by
  refine x_meti (lv := [_]) (by decide +kernel) (x_cc (by first | rfl | exact x_crf _) x_cn) (Nat.le_of_ble_eq_true rfl) rfl ?_
  intro pP eE sS mM aA bB hH cC Z C hini ret
  refine x_aload_n C D_X2_living_0.1 rfl rfl (by first | exact Or.inr ⟨_, rfl⟩ | exact va_rf_or _ | exact Or.inl rfl) ?_
  refine x_getI C (ci := 4) (k0 := 3) (by assumption) (by decide) rfl (by decide) in_X5 k_113 rfl rfl D_X2_living_0.2.1 ?_
  refine ret _ _ _ _ _ _ rfl D_X2_living_0.2.2 (Nat.le_of_ble_eq_true rfl) (Nat.le_of_ble_eq_true rfl) ?_
  exact ⟨rfl, rfl⟩
abbrev rm_X2_rebuiltWeight_5 : Room := { frames := 0, cells := 0, slots := 0, locals := 0 }
set_option maxHeartbeats 4000000 in
set_option maxRecDepth 100000 in
theorem c_X2_rebuiltWeight_5 (l : Launch) (G : xG) {K N : Nat → Nat} {I : Nat → Nat → Int32} {Q : Nat → Nat → Option Nat} {J : Nat → Nat → Int64} (t : Nat) (h : K t = 5) : XM l yX2_rebuiltWeight cX2_rebuiltWeight 1 (some .int) rm_X2_rebuiltWeight_5 G Ri [.ref t] (K, N, I, Q, J) (fun r S1 => r = I t 4 ∧ S1 = (K, N, I, Q, J)) := by
  refine x_meti (lv := [_]) (by decide +kernel) (x_cc (by first | rfl | exact x_crf _) x_cn) (Nat.le_of_ble_eq_true rfl) rfl ?_
  intro pP eE sS mM aA bB hH cC Z C hini ret
  refine x_aload_n C D_X2_rebuiltWeight_0.1 rfl rfl (by first | exact Or.inr ⟨_, rfl⟩ | exact va_rf_or _ | exact Or.inl rfl) ?_
  refine x_getI C (ci := 4) (k0 := 4) (by assumption) (by decide) rfl (by decide) in_X5 k_114 rfl rfl D_X2_rebuiltWeight_0.2.1 ?_
  refine ret _ _ _ _ _ _ rfl D_X2_rebuiltWeight_0.2.2 (Nat.le_of_ble_eq_true rfl) (Nat.le_of_ble_eq_true rfl) ?_
  exact ⟨rfl, rfl⟩
abbrev rm_X2_dropCount_5 : Room := { frames := 0, cells := 0, slots := 0, locals := 0 }
set_option maxHeartbeats 4000000 in
set_option maxRecDepth 100000 in
theorem c_X2_dropCount_5 (l : Launch) (G : xG) {K N : Nat → Nat} {I : Nat → Nat → Int32} {Q : Nat → Nat → Option Nat} {J : Nat → Nat → Int64} (t : Nat) (h : K t = 5) : XM l yX2_dropCount cX2_dropCount 1 (some .int) rm_X2_dropCount_5 G Ri [.ref t] (K, N, I, Q, J) (fun r S1 => r = I t 5 ∧ S1 = (K, N, I, Q, J)) := by
  refine x_meti (lv := [_]) (by decide +kernel) (x_cc (by first | rfl | exact x_crf _) x_cn) (Nat.le_of_ble_eq_true rfl) rfl ?_
  intro pP eE sS mM aA bB hH cC Z C hini ret
  refine x_aload_n C D_X2_dropCount_0.1 rfl rfl (by first | exact Or.inr ⟨_, rfl⟩ | exact va_rf_or _ | exact Or.inl rfl) ?_
  refine x_getI C (ci := 4) (k0 := 5) (by assumption) (by decide) rfl (by decide) in_X5 k_115 rfl rfl D_X2_dropCount_0.2.1 ?_
  refine ret _ _ _ _ _ _ rfl D_X2_dropCount_0.2.2 (Nat.le_of_ble_eq_true rfl) (Nat.le_of_ble_eq_true rfl) ?_
  exact ⟨rfl, rfl⟩
abbrev rm_X2_nodeCount_5 : Room := { frames := 1, cells := 0, slots := 0, locals := 20 }
set_option maxHeartbeats 4000000 in
set_option maxRecDepth 100000 in
theorem c_X2_nodeCount_5 (l : Launch) (G : xG) {K N : Nat → Nat} {I : Nat → Nat → Int32} {Q : Nat → Nat → Option Nat} {J : Nat → Nat → Int64} (t : Nat) (h : K t = 5) (hr : ∀ q, Q t 2 = some q → K q = 3) : XM l yX2_nodeCount cX2_nodeCount 1 (some .int) rm_X2_nodeCount_5 G Ri [.ref t] (K, N, I, Q, J) (fun r S1 => r = wOf I (Q t 2) ∧ S1 = (K, N, I, Q, J)) := by
  refine x_meti (lv := [_]) (by decide +kernel) (x_cc (by first | rfl | exact x_crf _) x_cn) (Nat.le_of_ble_eq_true rfl) rfl ?_
  intro pP eE sS mM aA bB hH cC Z C hini ret
  refine x_aload_n C D_X2_nodeCount_0.1 rfl rfl (by first | exact Or.inr ⟨_, rfl⟩ | exact va_rf_or _ | exact Or.inl rfl) ?_
  refine x_getQ C (ci := 4) (k0 := 2) (by assumption) (by decide) rfl (by decide) in_X5 k_112 rfl rfl D_X2_nodeCount_0.2.1 ?_
  refine x_nmq (fun o_1 eo_1 => ?_)
  refine x_callSi C (y := yX3_weightOf) (c_X3_weightOf l G o_1 (fun q hq => hr q (by rw [← eo_1]; exact hq))) k_247 k_248 k_73 k_249 hd_X3_weightOf ⟨(Nat.le_of_ble_eq_true rfl), (Nat.le_of_ble_eq_true rfl)⟩ rfl (by first | exact Nat.le_of_ble_eq_true rfl | simp [x_crf, Value.category]) rfl rfl D_X2_nodeCount_0.2.2.1 ⟨(Nat.le_of_ble_eq_true rfl), (Nat.le_of_ble_eq_true rfl)⟩ (fun r_4 S_4 h_4 => ?_)
  obtain ⟨rfl, rfl⟩ := h_4
  refine ret _ _ _ _ _ _ rfl D_X2_nodeCount_0.2.2.2 (Nat.le_of_ble_eq_true rfl) (Nat.le_of_ble_eq_true rfl) ?_
  exact ⟨by rw [eo_1], rfl⟩
abbrev rm_X2_find_5 : Room := { frames := 2, cells := 0, slots := 0, locals := 45 }
set_option maxHeartbeats 4000000 in
set_option maxRecDepth 100000 in
theorem c_X2_find_5 (l : Launch) (G : xG) {K N : Nat → Nat} {I : Nat → Nat → Int32} {Q : Nat → Nat → Option Nat} {J : Nat → Nat → Int64} (t pq pn rw rn cap c : Nat) (A : Tr) (cd : Nat → Nat) (hz : LZ K N Q t 5 pq pn rw rn cap) (hT0 : TP K Q A (Q t 2)) (hnd : ND cv5 10000 K I cd (ino A)) (hA : ht A ≤ 40) (hc : c < 10000) : XM l yX2_find cX2_find 4 (some (.object "ScapegoatSpur$Node")) rm_X2_find_5 G Rq [.ref t, .int (cv5 c)] (K, N, I, Q, J) (fun r S1 => r = sfind od5 cd c A 0 ∧ (∃ g, S1 = (K, N, x_u2 I pq 1 (nI (spath od5 cd c A 0).length), x_up Q pn g, J) ∧ SEG g 0 (spath od5 cd c A 0))) := by
  refine x_metq (lv := [_, _, _, _]) (by decide +kernel) (x_cc (by first | rfl | exact x_crf _) (x_cc (by first | rfl | exact x_crf _) x_cn)) (Nat.le_of_ble_eq_true rfl) rfl ?_
  intro pP eE sS mM aA bB hH cC Z C hini ret
  obtain ⟨hk, hkd, h0, h1, hp, hrw, hpr, hpn⟩ := hz
  refine x_aload_n C D_X2_find_0.1 rfl rfl (by first | exact Or.inr ⟨_, rfl⟩ | exact va_rf_or _ | exact Or.inl rfl) ?_
  refine x_getQ C (ci := 4) (k0 := 0) (by assumption) (by decide) rfl (by decide) in_X5 k_110 rfl rfl D_X2_find_0.2.1 ?_
  refine x_eqr h0 ?_
  refine x_callVv C (y := yX4_empty) (c_X4_empty l G pq hp.1) (ci := 3) hp.1 (by decide) rfl rfl k_216 k_217 k_218 k_63 k_219 hd_X4_empty ⟨(Nat.le_of_ble_eq_true rfl), (Nat.le_of_ble_eq_true rfl)⟩ rfl (by first | exact Nat.le_of_ble_eq_true rfl | simp [x_crf, Value.category]) rfl rfl D_X2_find_0.2.2.1 ⟨(Nat.le_of_ble_eq_true rfl), (Nat.le_of_ble_eq_true rfl)⟩ (fun _ S_4 h_4 => ?_)
  subst h_4
  refine x_aload_n C D_X2_find_0.2.2.2.1 rfl rfl (by first | exact Or.inr ⟨_, rfl⟩ | exact va_rf_or _ | exact Or.inl rfl) ?_
  refine x_getQ C (ci := 4) (k0 := 2) (by assumption) (by decide) rfl (by decide) in_X5 k_112 rfl rfl D_X2_find_0.2.2.2.2.1 ?_
  refine x_eqq _ (rfl : Q t 2 = Q t 2) ?_
  refine x_astore_n C (lv' := [_, _, _, _]) D_X2_find_0.2.2.2.2.2.1 rfl (Nat.le_of_ble_eq_true rfl) rfl (by first | exact Or.inr ⟨_, rfl⟩ | exact va_rf_or _ | exact Or.inl rfl) rfl ?_
  have L_12 : ∀ (w_12 : Nat) (B : Tr) (Pw : List Nat) (o : Option Nat) (I1 : Nat → Nat → Int32) (Q1 : Nat → Nat → Option Nat) (g : Nat → Option Nat) (v3 : Option Value), sz B < w_12 → (TP K Q B o) → (∀ a ∈ ino B, a ∈ ino A) → (spath od5 cd c A 0 = Pw ++ spath od5 cd c B Pw.length) → (sfind od5 cd c B Pw.length = sfind od5 cd c A 0) → (I1 = x_u2 I pq 1 (nI Pw.length)) → (Q1 = x_up Q pn g) → (SEG g 0 Pw) → XW pP l eE rm_X2_find_5 sS mM aA bB hH cC G Z 0 0 (K, N, I1, Q1, J) 12 [some (.ref t), some (.int (cv5 c)), some (va_rf o), v3] [] := by
    intro w_12
    induction w_12 with
    | zero =>
      intro B Pw o I1 Q1 g v3 hw_12
      exact absurd hw_12 (Nat.not_lt_zero _)
    | succ w_12 ih_12 =>
      intro B Pw o I1 Q1 g v3 hw_12 hT hsub hP hF eI1 eQ1 hseg_
      refine x_aload_n C D_X2_find_0.2.2.2.2.2.2.1 rfl rfl (by first | exact Or.inr ⟨_, rfl⟩ | exact va_rf_or _ | exact Or.inl rfl) ?_
      refine x_ifnull C 67 D_X2_find_0.2.2.2.2.2.2.2.1 (by decide) (fun e_13 => ?_) (fun q e_13 => ?_)
      · skip
        subst e_13
        obtain rfl := hT.none
        simp only [spath, List.append_nil] at hP
        subst hP
        refine x_null C D_X2_find_2.2.2.2.2.2.2.2.2.2.2.2 ?_
        refine ret _ _ _ _ _ _ _ ⟨_, rfl⟩ D_X2_find_3 (Nat.le_of_ble_eq_true rfl) (Nat.le_of_ble_eq_true rfl) (by first | exact rfl | exact (rfl : _ = va_rf (some _)) | exact (rfl : _ = va_rf none)) ?_
        refine ⟨hF, g, ?_, hseg_⟩
        rw [eI1, eQ1]
      · skip
        subst e_13
        obtain ⟨tl_, tr_, rfl, hq3, hTl, hTr⟩ := hT.some
        obtain ⟨hK3, hI0, hcd⟩ := hnd q (hsub q (by simp [ino]))
        have hqt : q ≠ pq := nodes_ne hK3 hp.1 (by omega)
        have hqn : q ≠ pn := nodes_ne hK3 hp.2.2.1 (by omega)
        have hPl : Pw.length < 40 := by
          have h7 : (Pw ++ spath od5 cd c (.branch q tl_ tr_) Pw.length).length ≤ ht A := by rw [← hP]; exact spath_len _ _ _ _ _
          simp [spath] at h7
          omega
        have hrow : RowOK K N I1 Q1 pq pn 40 Pw.length := by rw [eI1, eQ1]; exact (hp.row g).ok (x_u2_s _ _ _ _) (by omega)
        refine x_aload_n C D_X2_find_0.2.2.2.2.2.2.2.2.1 rfl rfl (by first | exact Or.inr ⟨_, rfl⟩ | exact va_rf_or _ | exact Or.inl rfl) ?_
        refine x_getQ C (ci := 4) (k0 := 0) (by assumption) (by decide) rfl (by decide) in_X5 k_110 rfl rfl D_X2_find_0.2.2.2.2.2.2.2.2.2.1 ?_
        refine x_eqr (show Q1 t 0 = some pq by rw [eQ1, x_up_n _ _ (fun e => by have := hk; rw [e, hp.2.2.1] at this; omega)]; exact h0) ?_
        refine x_callVi C (y := yX4_length) (c_X4_length l G pq hp.1) (ci := 3) hp.1 (by decide) rfl rfl k_220 k_221 k_222 k_63 k_223 hd_X4_length ⟨(Nat.le_of_ble_eq_true rfl), (Nat.le_of_ble_eq_true rfl)⟩ rfl (by first | exact Nat.le_of_ble_eq_true rfl | simp [x_crf, Value.category]) rfl rfl D_X2_find_0.2.2.2.2.2.2.2.2.2.2.1 ⟨(Nat.le_of_ble_eq_true rfl), (Nat.le_of_ble_eq_true rfl)⟩ (fun r_20 S_20 h_20 => ?_)
        obtain ⟨rfl, rfl⟩ := h_20
        refine x_eqi _ (show I1 pq 1 = nI Pw.length by rw [eI1, x_u2_s]) ?_
        refine x_istore_n C (lv' := [_, _, _, _]) D_X2_find_0.2.2.2.2.2.2.2.2.2.2.2 rfl (Nat.le_of_ble_eq_true rfl) rfl rfl ?_
        refine x_aload_n C D_X2_find_1.1 rfl rfl (by first | exact Or.inr ⟨_, rfl⟩ | exact va_rf_or _ | exact Or.inl rfl) ?_
        refine x_getQ C (ci := 4) (k0 := 0) (by assumption) (by decide) rfl (by decide) in_X5 k_110 rfl rfl D_X2_find_1.2.1 ?_
        refine x_eqr (show Q1 t 0 = some pq by rw [eQ1, x_up_n _ _ (fun e => by have := hk; rw [e, hp.2.2.1] at this; omega)]; exact h0) ?_
        refine x_aload_n C D_X2_find_1.2.2.1 rfl rfl (by first | exact Or.inr ⟨_, rfl⟩ | exact va_rf_or _ | exact Or.inl rfl) ?_
        refine x_callVv C (y := yX4_append) (c_X4_append l G pq pn 40 Pw.length q hrow hq3 hPl) (ci := 3) hp.1 (by decide) rfl rfl k_224 k_225 k_226 k_63 k_227 hd_X4_append ⟨(Nat.le_of_ble_eq_true rfl), (Nat.le_of_ble_eq_true rfl)⟩ rfl (by first | exact Nat.le_of_ble_eq_true rfl | simp [x_crf, Value.category]) rfl rfl D_X2_find_1.2.2.2.1 ⟨(Nat.le_of_ble_eq_true rfl), (Nat.le_of_ble_eq_true rfl)⟩ (fun _ S_29 h_29 => ?_)
        obtain ⟨I2, Q2, rfl, eI2, eQ2⟩ : ∃ I2 Q2, S_29 = (K, N, I2, Q2, J) ∧ I2 = x_u2 I pq 1 (nI (Pw ++ [q]).length) ∧ Q2 = x_up Q pn (x_up g Pw.length (some q)) := ⟨_, _, h_29, by rw [eI1, x_u2_u2]; simp, by rw [eQ1, x_u2_up]⟩
        have hseg2 : SEG (x_up g Pw.length (some q)) 0 (Pw ++ [q]) := by
          intro i hi
          simp at hi
          by_cases e : i = Pw.length
          · subst e; simp [x_up]
          · rw [Nat.zero_add, x_up_n _ _ e, List.getElem?_append_left (by omega)]
            have := hseg_ i (by omega)
            rwa [Nat.zero_add] at this
        refine x_aload_n C D_X2_find_1.2.2.2.2.1 rfl rfl (by first | exact Or.inr ⟨_, rfl⟩ | exact va_rf_or _ | exact Or.inl rfl) ?_
        refine x_getI C (ci := 2) (k0 := 0) hq3 (by decide) rfl (by decide) in_X3 k_611 rfl rfl D_X2_find_1.2.2.2.2.2.1 ?_
        refine x_eqi _ (show I2 q 0 = cv5 (cd q) by rw [eI2, x_u2_a _ _ hqt]; exact hI0) ?_
        refine x_iload_n C D_X2_find_1.2.2.2.2.2.2.1 rfl rfl ?_
        refine x_icmp_ne C 42 D_X2_find_1.2.2.2.2.2.2.2.1 (by decide) (fun c_37 => ?_) (fun c_37 => ?_)
        · skip
          have c1 : ¬ cd q = c := fun h => c_37 (by rw [h])
          refine x_aload_n C D_X2_find_1.2.2.2.2.2.2.2.2.2.2.1 rfl rfl (by first | exact Or.inr ⟨_, rfl⟩ | exact va_rf_or _ | exact Or.inl rfl) ?_
          refine x_iload_n C D_X2_find_1.2.2.2.2.2.2.2.2.2.2.2 rfl rfl ?_
          refine x_aload_n C D_X2_find_2.1 rfl rfl (by first | exact Or.inr ⟨_, rfl⟩ | exact va_rf_or _ | exact Or.inl rfl) ?_
          refine x_iload_n C D_X2_find_2.2.1 rfl rfl ?_
          refine x_callUz C (x := ⟨"ScapegoatSpur$LazyTree", "belongsLeft", "(ILScapegoatSpur$Node;I)Z"⟩) (y := yX2_belongsLeft) (owner := "ScapegoatSpur$LazyTree") (c_X2_belongsLeft_5 l G t c Pw.length q cd hk hc (by omega) hq3 (by rw [eI2, x_u2_a _ _ hqt]; exact hI0) hcd) (ci := 4) (by assumption) (by decide) rfl k_228 k_0 k_2 k_230 k_61 k_231 rfl hu_X2_belongsLeft ⟨(Nat.le_of_ble_eq_true rfl), (Nat.le_of_ble_eq_true rfl)⟩ rfl (by first | exact Nat.le_of_ble_eq_true rfl | simp [x_crf, Value.category]) rfl rfl D_X2_find_2.2.2.1 ⟨(Nat.le_of_ble_eq_true rfl), (Nat.le_of_ble_eq_true rfl)⟩ (fun r_46 S_46 h_46 => ?_)
          obtain ⟨rfl, rfl⟩ := h_46
          refine x_if_eq C 59 D_X2_find_2.2.2.2.1 (by decide) (fun c_49 => ?_) (fun c_49 => ?_)
          · skip
            have c2 : ¬ od5 Pw.length c < od5 Pw.length (cd q) := by
              intro h
              rw [decide_eq_true h] at c_49
              exact absurd c_49 (by decide)
            have hP2 : spath od5 cd c A 0 = (Pw ++ [q]) ++ spath od5 cd c tr_ (Pw ++ [q]).length := by rw [hP]; simp [spath, c1, c2]
            have hF2 : sfind od5 cd c tr_ (Pw ++ [q]).length = sfind od5 cd c A 0 := by rw [← hF]; simp [sfind, c1, c2]
            refine x_aload_n C D_X2_find_2.2.2.2.2.2.2.2.1 rfl rfl (by first | exact Or.inr ⟨_, rfl⟩ | exact va_rf_or _ | exact Or.inl rfl) ?_
            refine x_getQ C (ci := 2) (k0 := 4) hq3 (by decide) rfl (by decide) in_X3 k_625 rfl rfl D_X2_find_2.2.2.2.2.2.2.2.2.1 ?_
            refine x_eqq _ (show Q2 q 4 = Q q 4 by rw [eQ2, x_up_n _ _ hqn]) ?_
            refine x_astore_n C (lv' := [_, _, _, _]) D_X2_find_2.2.2.2.2.2.2.2.2.2.1 rfl (Nat.le_of_ble_eq_true rfl) rfl (by first | exact Or.inr ⟨_, rfl⟩ | exact va_rf_or _ | exact Or.inl rfl) rfl ?_
            refine x_goto C 12 D_X2_find_2.2.2.2.2.2.2.2.2.2.2.1 (by decide) ?_
            exact ih_12 tr_ (Pw ++ [q]) _ _ _ _ _ (by simp only [sz] at hw_12; omega) hTr (fun a ha => hsub a (by simp [ino, ha])) hP2 hF2 eI2 eQ2 hseg2
          · skip
            have c2 : od5 Pw.length c < od5 Pw.length (cd q) := by
              by_cases h : od5 Pw.length c < od5 Pw.length (cd q)
              · exact h
              · rw [decide_eq_false h] at c_49
                exact absurd rfl c_49
            have hP2 : spath od5 cd c A 0 = (Pw ++ [q]) ++ spath od5 cd c tl_ (Pw ++ [q]).length := by rw [hP]; simp [spath, c1, c2]
            have hF2 : sfind od5 cd c tl_ (Pw ++ [q]).length = sfind od5 cd c A 0 := by rw [← hF]; simp [sfind, c1, c2]
            refine x_aload_n C D_X2_find_2.2.2.2.2.1 rfl rfl (by first | exact Or.inr ⟨_, rfl⟩ | exact va_rf_or _ | exact Or.inl rfl) ?_
            refine x_getQ C (ci := 2) (k0 := 3) hq3 (by decide) rfl (by decide) in_X3 k_622 rfl rfl D_X2_find_2.2.2.2.2.2.1 ?_
            refine x_eqq _ (show Q2 q 3 = Q q 3 by rw [eQ2, x_up_n _ _ hqn]) ?_
            refine x_goto C 63 D_X2_find_2.2.2.2.2.2.2.1 (by decide) ?_
            refine x_astore_n C (lv' := [_, _, _, _]) D_X2_find_2.2.2.2.2.2.2.2.2.2.1 rfl (Nat.le_of_ble_eq_true rfl) rfl (by first | exact Or.inr ⟨_, rfl⟩ | exact va_rf_or _ | exact Or.inl rfl) rfl ?_
            refine x_goto C 12 D_X2_find_2.2.2.2.2.2.2.2.2.2.2.1 (by decide) ?_
            exact ih_12 tl_ (Pw ++ [q]) _ _ _ _ _ (by simp only [sz] at hw_12; omega) hTl (fun a ha => hsub a (by simp [ino, ha])) hP2 hF2 eI2 eQ2 hseg2
        · skip
          have c1 : cd q = c := (cv5_eq hcd hc).mp c_37
          refine x_aload_n C D_X2_find_1.2.2.2.2.2.2.2.2.1 rfl rfl (by first | exact Or.inr ⟨_, rfl⟩ | exact va_rf_or _ | exact Or.inl rfl) ?_
          refine ret _ _ _ _ _ _ _ ⟨_, rfl⟩ D_X2_find_1.2.2.2.2.2.2.2.2.2.1 (Nat.le_of_ble_eq_true rfl) (Nat.le_of_ble_eq_true rfl) (by first | exact rfl | exact (rfl : _ = va_rf (some _)) | exact (rfl : _ = va_rf none)) ?_
          refine ⟨by rw [← hF]; simp [sfind, c1], x_up g Pw.length (some q), ?_, ?_⟩
          · rw [hP]
            simp only [spath, c1, if_true]
            rw [eI2, eQ2]
          · rw [hP]
            simp only [spath, c1, if_true]
            exact hseg2
  exact L_12 _ A [] _ _ Q (Q pn) none (Nat.lt_succ_self _) hT0 (fun _ h => h) rfl rfl rfl (x_up_id Q pn).symm (fun i hi => absurd hi (Nat.not_lt_zero _))
abbrev rm_X2_holds_5 : Room := { frames := 3, cells := 0, slots := 0, locals := 68 }
set_option maxHeartbeats 4000000 in
set_option maxRecDepth 100000 in
theorem c_X2_holds_5 (l : Launch) (G : xG) {K N : Nat → Nat} {I : Nat → Nat → Int32} {Q : Nat → Nat → Option Nat} {J : Nat → Nat → Int64} (t pq pn rw rn cap c : Nat) (A : Tr) (cd : Nat → Nat) (hz : LZ K N Q t 5 pq pn rw rn cap) (hT0 : TP K Q A (Q t 2)) (hnd : ND cv5 10000 K I cd (ino A)) (hA : ht A ≤ 40) (hc : c < 10000) : XM l yX2_holds cX2_holds 3 (some .boolean) rm_X2_holds_5 G Rz [.ref t, .int (cv5 c)] (K, N, I, Q, J) (fun r S1 => r = ((sfind od5 cd c A 0).map (alv I)).getD false ∧ (∃ g, S1 = (K, N, x_u2 I pq 1 (nI (spath od5 cd c A 0).length), x_up Q pn g, J) ∧ SEG g 0 (spath od5 cd c A 0))) := by
  refine x_metz (lv := [_, _, _]) (by decide +kernel) (x_cc (by first | rfl | exact x_crf _) (x_cc (by first | rfl | exact x_crf _) x_cn)) (Nat.le_of_ble_eq_true rfl) rfl ?_
  intro pP eE sS mM aA bB hH cC Z C hini ret
  have hkq : ∀ q, sfind od5 cd c A 0 = some q → K q = 3 := fun q h => (hnd q (sfind_mem _ _ _ _ _ _ h)).1
  have hpk := hz.2.2.2.2.1.1
  refine x_aload_n C D_X2_holds_0.1 rfl rfl (by first | exact Or.inr ⟨_, rfl⟩ | exact va_rf_or _ | exact Or.inl rfl) ?_
  refine x_iload_n C D_X2_holds_0.2.1 rfl rfl ?_
  refine x_callUq C (x := ⟨"ScapegoatSpur$LazyTree", "find", "(I)LScapegoatSpur$Node;"⟩) (y := yX2_find) (owner := "ScapegoatSpur$LazyTree") (c_X2_find_5 l G t pq pn rw rn cap c A cd hz hT0 hnd hA hc) (ci := 4) hz.1 (by decide) rfl k_210 k_212 k_214 k_211 k_61 k_215 rfl hu_X2_find ⟨(Nat.le_of_ble_eq_true rfl), (Nat.le_of_ble_eq_true rfl)⟩ rfl (by first | exact Nat.le_of_ble_eq_true rfl | simp [x_crf, Value.category]) rfl rfl D_X2_holds_0.2.2.1 ⟨(Nat.le_of_ble_eq_true rfl), (Nat.le_of_ble_eq_true rfl)⟩ (fun r_2 S_2 h_2 => ?_)
  obtain ⟨hr, g, rfl, hseg_⟩ := h_2
  refine x_astore_n C (lv' := [_, _, _]) D_X2_holds_0.2.2.2.1 rfl (Nat.le_of_ble_eq_true rfl) rfl (by first | exact Or.inr ⟨_, rfl⟩ | exact va_rf_or _ | exact Or.inl rfl) rfl ?_
  refine x_aload_n C D_X2_holds_0.2.2.2.2.1 rfl rfl (by first | exact Or.inr ⟨_, rfl⟩ | exact va_rf_or _ | exact Or.inl rfl) ?_
  refine x_ifnull C 21 D_X2_holds_0.2.2.2.2.2.1 (by decide) (fun e_7 => ?_) (fun q e_7 => ?_)
  · skip
    subst e_7
    refine x_iconst C (v := nI 0) D_X2_holds_0.2.2.2.2.2.2.2.2.2.2.2 (by decide +kernel) ?_
    refine ret _ _ _ _ _ _ false rfl D_X2_holds_1 (Nat.le_of_ble_eq_true rfl) (Nat.le_of_ble_eq_true rfl) rfl ?_
    exact ⟨by rw [← hr]; rfl, g, rfl, hseg_⟩
  · skip
    subst e_7
    have hq3 := hkq q hr.symm
    have hI1 : x_u2 I pq 1 (nI (spath od5 cd c A 0).length) q 1 = I q 1 := by rw [x_u2_a _ _ (nodes_ne hq3 hpk (by omega))]
    refine x_aload_n C D_X2_holds_0.2.2.2.2.2.2.1 rfl rfl (by first | exact Or.inr ⟨_, rfl⟩ | exact va_rf_or _ | exact Or.inl rfl) ?_
    refine x_getI C (ci := 2) (k0 := 1) hq3 (by decide) rfl (by decide) in_X3 k_614 rfl rfl D_X2_holds_0.2.2.2.2.2.2.2.1 ?_
    refine x_eqi _ hI1 ?_
    refine x_if_eq C 21 D_X2_holds_0.2.2.2.2.2.2.2.2.1 (by decide) (fun c_14 => ?_) (fun c_14 => ?_)
    · skip
      have c1 : alv I q = false := by simp [alv, c_14]
      refine x_iconst C (v := nI 0) D_X2_holds_0.2.2.2.2.2.2.2.2.2.2.2 (by decide +kernel) ?_
      refine ret _ _ _ _ _ _ false rfl D_X2_holds_1 (Nat.le_of_ble_eq_true rfl) (Nat.le_of_ble_eq_true rfl) rfl ?_
      exact ⟨by rw [← hr]; simp [c1], g, rfl, hseg_⟩
    · skip
      have c1 : alv I q = true := by simp [alv, c_14]
      refine x_iconst C (v := nI 1) D_X2_holds_0.2.2.2.2.2.2.2.2.2.1 (by decide +kernel) ?_
      refine x_goto C 22 D_X2_holds_0.2.2.2.2.2.2.2.2.2.2.1 (by decide) ?_
      refine ret _ _ _ _ _ _ true rfl D_X2_holds_1 (Nat.le_of_ble_eq_true rfl) (Nat.le_of_ble_eq_true rfl) rfl ?_
      exact ⟨by rw [← hr]; simp [c1], g, rfl, hseg_⟩
abbrev rm_X2_depthOf_5 : Room := { frames := 3, cells := 0, slots := 0, locals := 68 }
set_option maxHeartbeats 4000000 in
set_option maxRecDepth 100000 in
theorem c_X2_depthOf_5 (l : Launch) (G : xG) {K N : Nat → Nat} {I : Nat → Nat → Int32} {Q : Nat → Nat → Option Nat} {J : Nat → Nat → Int64} (t pq pn rw rn cap c : Nat) (A : Tr) (cd : Nat → Nat) (hz : LZ K N Q t 5 pq pn rw rn cap) (hT0 : TP K Q A (Q t 2)) (hnd : ND cv5 10000 K I cd (ino A)) (hA : ht A ≤ 40) (hc : c < 10000) : XM l yX2_depthOf cX2_depthOf 2 (some .int) rm_X2_depthOf_5 G Ri [.ref t, .int (cv5 c)] (K, N, I, Q, J) (fun r S1 => r = (if (sfind od5 cd c A 0).isSome then nI (spath od5 cd c A 0).length - nI 1 else (-1)) ∧ (∃ g, S1 = (K, N, x_u2 I pq 1 (nI (spath od5 cd c A 0).length), x_up Q pn g, J) ∧ SEG g 0 (spath od5 cd c A 0))) := by
  refine x_meti (lv := [_, _]) (by decide +kernel) (x_cc (by first | rfl | exact x_crf _) (x_cc (by first | rfl | exact x_crf _) x_cn)) (Nat.le_of_ble_eq_true rfl) rfl ?_
  intro pP eE sS mM aA bB hH cC Z C hini ret
  have hpk := hz.2.2.2.2.1.1
  have hq0 := hz.2.2.1
  have hpn_ : t ≠ pn := fun e => by
    have h1 := hz.1
    have h2 := hz.2.2.2.2.1.2.2.1
    rw [e, h2] at h1
    omega
  refine x_aload_n C D_X2_depthOf_0.1 rfl rfl (by first | exact Or.inr ⟨_, rfl⟩ | exact va_rf_or _ | exact Or.inl rfl) ?_
  refine x_iload_n C D_X2_depthOf_0.2.1 rfl rfl ?_
  refine x_callUq C (x := ⟨"ScapegoatSpur$LazyTree", "find", "(I)LScapegoatSpur$Node;"⟩) (y := yX2_find) (owner := "ScapegoatSpur$LazyTree") (c_X2_find_5 l G t pq pn rw rn cap c A cd hz hT0 hnd hA hc) (ci := 4) hz.1 (by decide) rfl k_210 k_212 k_214 k_211 k_61 k_215 rfl hu_X2_find ⟨(Nat.le_of_ble_eq_true rfl), (Nat.le_of_ble_eq_true rfl)⟩ rfl (by first | exact Nat.le_of_ble_eq_true rfl | simp [x_crf, Value.category]) rfl rfl D_X2_depthOf_0.2.2.1 ⟨(Nat.le_of_ble_eq_true rfl), (Nat.le_of_ble_eq_true rfl)⟩ (fun r_2 S_2 h_2 => ?_)
  obtain ⟨hr, g, rfl, hseg_⟩ := h_2
  refine x_ifnonnull C 12 D_X2_depthOf_0.2.2.2.1 (by decide) (fun q_5 e_5 => ?_) (fun e_5 => ?_)
  · skip
    subst e_5
    refine x_aload_n C D_X2_depthOf_0.2.2.2.2.2.2.1 rfl rfl (by first | exact Or.inr ⟨_, rfl⟩ | exact va_rf_or _ | exact Or.inl rfl) ?_
    refine x_getQ C (ci := 4) (k0 := 0) hz.1 (by decide) rfl (by decide) in_X5 k_110 rfl rfl D_X2_depthOf_0.2.2.2.2.2.2.2.1 ?_
    refine x_eqr (show x_up Q pn g t 0 = some pq by rw [x_up_n _ _ hpn_]; exact hq0) ?_
    refine x_callVi C (y := yX4_length) (c_X4_length l G pq hpk) (ci := 3) hpk (by decide) rfl rfl k_220 k_221 k_222 k_63 k_223 hd_X4_length ⟨(Nat.le_of_ble_eq_true rfl), (Nat.le_of_ble_eq_true rfl)⟩ rfl (by first | exact Nat.le_of_ble_eq_true rfl | simp [x_crf, Value.category]) rfl rfl D_X2_depthOf_0.2.2.2.2.2.2.2.2.1 ⟨(Nat.le_of_ble_eq_true rfl), (Nat.le_of_ble_eq_true rfl)⟩ (fun r_16 S_16 h_16 => ?_)
    obtain ⟨rfl, rfl⟩ := h_16
    refine x_iconst C (v := nI 1) D_X2_depthOf_0.2.2.2.2.2.2.2.2.2.1 (by decide +kernel) ?_
    refine x_isub C D_X2_depthOf_0.2.2.2.2.2.2.2.2.2.2.1 ?_
    refine ret _ _ _ _ _ _ rfl D_X2_depthOf_0.2.2.2.2.2.2.2.2.2.2.2 (Nat.le_of_ble_eq_true rfl) (Nat.le_of_ble_eq_true rfl) ?_
    refine ⟨by rw [← hr, x_u2_s]; rfl, g, rfl, hseg_⟩
  · skip
    subst e_5
    refine x_iconst C (v := (-1)) D_X2_depthOf_0.2.2.2.2.1 (by decide +kernel) ?_
    refine x_goto C 21 D_X2_depthOf_0.2.2.2.2.2.1 (by decide) ?_
    refine ret _ _ _ _ _ _ rfl D_X2_depthOf_0.2.2.2.2.2.2.2.2.2.2.2 (Nat.le_of_ble_eq_true rfl) (Nat.le_of_ble_eq_true rfl) ?_
    refine ⟨by rw [← hr]; rfl, g, rfl, hseg_⟩
abbrev rm_X2_sumOfDepthsIn (b : Nat) : Room := { frames := b + 1, cells := 0, slots := 0, locals := 21 * b + 40 }
theorem hd_X2_sumOfDepthsIn : yX2_sumOfDepthsIn.cls ≠ "java/lang/invoke/MethodHandle" ∧ yX2_sumOfDepthsIn.cls ≠ "java/lang/invoke/VarHandle" ∧ (parseMethodDescriptor yX2_sumOfDepthsIn.desc).map (fun d => d.parameters.length) = some 2 := by decide +kernel
set_option maxHeartbeats 4000000 in
set_option maxRecDepth 100000 in
theorem c_X2_sumOfDepthsIn (l : Launch) (G : xG) {K N : Nat → Nat} {I : Nat → Nat → Int32} {Q : Nat → Nat → Option Nat} {J : Nat → Nat → Int64} : ∀ (b : Nat) (A : Tr) (d : Nat) (o : Option Nat), (TP K Q A o) → (ht A ≤ b) → (d + ht A ≤ 40) → XM l yX2_sumOfDepthsIn cX2_sumOfDepthsIn 2 (some .int) (rm_X2_sumOfDepthsIn b) G Ri [va_rf o, .int (nI d)] (K, N, I, Q, J) (fun r S1 => r = nI (sumd A d) ∧ S1 = (K, N, I, Q, J)) := by
  intro b
  induction b using Nat.strongRecOn with
  | _ b ih =>
  intro A d o hT hb hd
  refine x_meti (lv := [_, _]) (by decide +kernel) (x_cc (by first | rfl | exact x_crf _) (x_cc (by first | rfl | exact x_crf _) x_cn)) (Nat.le_of_ble_eq_true rfl) rfl ?_
  intro pP eE sS mM aA bB hH cC Z C hini ret
  refine x_aload_n C D_X2_sumOfDepthsIn_0.1 rfl rfl (by first | exact Or.inr ⟨_, rfl⟩ | exact va_rf_or _ | exact Or.inl rfl) ?_
  refine x_ifnull C 10 D_X2_sumOfDepthsIn_0.2.1 (by decide) (fun e_1 => ?_) (fun q e_1 => ?_)
  · skip
    subst e_1
    obtain rfl := hT.none
    refine x_iconst C (v := nI 0) D_X2_sumOfDepthsIn_0.2.2.2.2.2.1 (by decide +kernel) ?_
    refine ret _ _ _ _ _ _ rfl D_X2_sumOfDepthsIn_0.2.2.2.2.2.2.1 (Nat.le_of_ble_eq_true rfl) (Nat.le_of_ble_eq_true rfl) ?_
    exact ⟨rfl, rfl⟩
  · skip
    subst e_1
    obtain ⟨tl_, tr_, rfl, hq3, hTl, hTr⟩ := hT.some
    simp only [ht] at hb hd
    refine x_iload_n C D_X2_sumOfDepthsIn_0.2.2.1 rfl rfl ?_
    refine x_bipush C (v := nI 40) D_X2_sumOfDepthsIn_0.2.2.2.1 (by decide +kernel) ?_
    refine x_icmp_lt C 12 D_X2_sumOfDepthsIn_0.2.2.2.2.1 (by decide) (fun c_7 => ?_) (fun c_7 => ?_)
    · skip
      refine x_iload_n C D_X2_sumOfDepthsIn_0.2.2.2.2.2.2.2.1 rfl rfl ?_
      refine x_aload_n C D_X2_sumOfDepthsIn_0.2.2.2.2.2.2.2.2.1 rfl rfl (by first | exact Or.inr ⟨_, rfl⟩ | exact va_rf_or _ | exact Or.inl rfl) ?_
      refine x_getQ C (ci := 2) (k0 := 3) hq3 (by decide) rfl (by decide) in_X3 k_622 rfl rfl D_X2_sumOfDepthsIn_0.2.2.2.2.2.2.2.2.2.1 ?_
      refine x_eqq _ (rfl : Q q 3 = Q q 3) ?_
      refine x_iload_n C D_X2_sumOfDepthsIn_0.2.2.2.2.2.2.2.2.2.2.1 rfl rfl ?_
      refine x_iconst C (v := nI 1) D_X2_sumOfDepthsIn_0.2.2.2.2.2.2.2.2.2.2.2 (by decide +kernel) ?_
      refine x_iadd C D_X2_sumOfDepthsIn_1.1 ?_
      refine x_eqi _ (nI_add _ _) ?_
      refine x_callSi C (y := yX2_sumOfDepthsIn) (ih (b - 1) (by omega) tl_ (d + 1) _ hTl (by omega) (by omega)) k_421 k_422 k_61 k_423 hd_X2_sumOfDepthsIn ⟨show b - 1 + 1 + 1 ≤ b + 1 by omega, show 8 + (2 + 11) + (21 * (b - 1) + 40) ≤ 21 * b + 40 by omega⟩ rfl (by first | exact Nat.le_of_ble_eq_true rfl | simp [x_crf, Value.category]) rfl rfl D_X2_sumOfDepthsIn_1.2.1 ⟨(Nat.le_of_ble_eq_true rfl), (Nat.le_of_ble_eq_true rfl)⟩ (fun r_20 S_20 h_20 => ?_)
      obtain ⟨rfl, rfl⟩ := h_20
      refine x_iadd C D_X2_sumOfDepthsIn_1.2.2.1 ?_
      refine x_eqi _ (nI_add _ _) ?_
      refine x_aload_n C D_X2_sumOfDepthsIn_1.2.2.2.1 rfl rfl (by first | exact Or.inr ⟨_, rfl⟩ | exact va_rf_or _ | exact Or.inl rfl) ?_
      refine x_getQ C (ci := 2) (k0 := 4) hq3 (by decide) rfl (by decide) in_X3 k_625 rfl rfl D_X2_sumOfDepthsIn_1.2.2.2.2.1 ?_
      refine x_eqq _ (rfl : Q q 4 = Q q 4) ?_
      refine x_iload_n C D_X2_sumOfDepthsIn_1.2.2.2.2.2.1 rfl rfl ?_
      refine x_iconst C (v := nI 1) D_X2_sumOfDepthsIn_1.2.2.2.2.2.2.1 (by decide +kernel) ?_
      refine x_iadd C D_X2_sumOfDepthsIn_1.2.2.2.2.2.2.2.1 ?_
      refine x_eqi _ (nI_add _ _) ?_
      refine x_callSi C (y := yX2_sumOfDepthsIn) (ih (b - 1) (by omega) tr_ (d + 1) _ hTr (by omega) (by omega)) k_421 k_422 k_61 k_423 hd_X2_sumOfDepthsIn ⟨show b - 1 + 1 + 1 ≤ b + 1 by omega, show 8 + (2 + 11) + (21 * (b - 1) + 40) ≤ 21 * b + 40 by omega⟩ rfl (by first | exact Nat.le_of_ble_eq_true rfl | simp [x_crf, Value.category]) rfl rfl D_X2_sumOfDepthsIn_1.2.2.2.2.2.2.2.2.1 ⟨(Nat.le_of_ble_eq_true rfl), (Nat.le_of_ble_eq_true rfl)⟩ (fun r_31 S_31 h_31 => ?_)
      obtain ⟨rfl, rfl⟩ := h_31
      refine x_iadd C D_X2_sumOfDepthsIn_1.2.2.2.2.2.2.2.2.2.1 ?_
      refine x_eqi _ (nI_add _ _) ?_
      refine ret _ _ _ _ _ _ rfl D_X2_sumOfDepthsIn_1.2.2.2.2.2.2.2.2.2.2 (Nat.le_of_ble_eq_true rfl) (Nat.le_of_ble_eq_true rfl) ?_
      exact ⟨rfl, rfl⟩
    · skip
      exact absurd ((nI_leI (by omega) (by omega)).mp (fa_of_nlt c_7)) (by omega)
      --end
abbrev rm_X2_appendAll (b : Nat) : Room := { frames := b + 1, cells := 0, slots := 0, locals := 23 * b + 40 }
theorem hd_X2_appendAll : yX2_appendAll.cls ≠ "java/lang/invoke/MethodHandle" ∧ yX2_appendAll.cls ≠ "java/lang/invoke/VarHandle" ∧ (parseMethodDescriptor yX2_appendAll.desc).map (fun d => d.parameters.length) = some 4 := by decide +kernel
set_option maxHeartbeats 4000000 in
set_option maxRecDepth 100000 in
theorem c_X2_appendAll (l : Launch) (G : xG) {K N : Nat → Nat} {J : Nat → Nat → Int64} (rw rn cap : Nat) (dd : Bool) : ∀ (b : Nat) (A : Tr) (d n : Nat) (o : Option Nat) (I : Nat → Nat → Int32) (Q : Nat → Nat → Option Nat), (TP K Q A o) → (ht A ≤ b) → (d + ht A ≤ 40) → (RowS K N Q rw rn cap) → (I rw 1 = nI n) → (n + (apd dd I A).length ≤ cap) → XM l yX2_appendAll cX2_appendAll 4 none (rm_X2_appendAll b) G Rv [va_rf o, .int (xb dd), .ref rw, .int (nI d)] (K, N, I, Q, J) (fun _ S1 => (∃ g, S1 = (K, N, x_u2 I rw 1 (nI (n + (apd dd I A).length)), x_up Q rn g, J) ∧ (∀ i, i < n → g i = Q rn i) ∧ SEG g n (apd dd I A))) := by
  intro b
  induction b using Nat.strongRecOn with
  | _ b ih =>
  intro A d n o I Q hT hb hd hrw hn hcap
  refine x_metv (lv := [_, _, _, _]) (by decide +kernel) (x_cc (by first | rfl | exact x_crf _) (x_cc (by first | rfl | exact x_crf _) (x_cc (by first | rfl | exact x_crf _) (x_cc (by first | rfl | exact x_crf _) x_cn)))) (Nat.le_of_ble_eq_true rfl) rfl ?_
  intro pP eE sS mM aA bB hH cC Z C hini ret
  refine x_aload_n C D_X2_appendAll_0.1 rfl rfl (by first | exact Or.inr ⟨_, rfl⟩ | exact va_rf_or _ | exact Or.inl rfl) ?_
  refine x_ifnull C 10 D_X2_appendAll_0.2.1 (by decide) (fun e_1 => ?_) (fun q e_1 => ?_)
  · skip
    subst e_1
    obtain rfl := hT.none
    refine ret _ _ _ _ _ rfl D_X2_appendAll_0.2.2.2.2.2.1 (Nat.le_of_ble_eq_true rfl) (Nat.le_of_ble_eq_true rfl) ?_
    exact ⟨Q rn, by simp [apd, ino, ← hn, x_u2, x_up_id], fun i _ => rfl, SEG_nil⟩
  · skip
    subst e_1
    obtain ⟨tl_, tr_, rfl, hq3, hTl, hTr⟩ := hT.some
    simp only [ht] at hb hd
    rw [apd_node] at hcap
    simp only [List.length_append] at hcap
    have hkr := hrw.1
    have hkn := hrw.2.2.1
    have hqr : q ≠ rw := nodes_ne hq3 hkr (by omega)
    have hqn : q ≠ rn := nodes_ne hq3 hkn (by omega)
    refine x_iload_n C D_X2_appendAll_0.2.2.1 rfl rfl ?_
    refine x_bipush C (v := nI 40) D_X2_appendAll_0.2.2.2.1 (by decide +kernel) ?_
    refine x_icmp_lt C 11 D_X2_appendAll_0.2.2.2.2.1 (by decide) (fun c_7 => ?_) (fun c_7 => ?_)
    · skip
      refine x_aload_n C D_X2_appendAll_0.2.2.2.2.2.2.1 rfl rfl (by first | exact Or.inr ⟨_, rfl⟩ | exact va_rf_or _ | exact Or.inl rfl) ?_
      refine x_getQ C (ci := 2) (k0 := 3) hq3 (by decide) rfl (by decide) in_X3 k_622 rfl rfl D_X2_appendAll_0.2.2.2.2.2.2.2.1 ?_
      refine x_eqq _ (rfl : Q q 3 = Q q 3) ?_
      refine x_iload_n C D_X2_appendAll_0.2.2.2.2.2.2.2.2.1 rfl rfl ?_
      refine x_aload_n C D_X2_appendAll_0.2.2.2.2.2.2.2.2.2.1 rfl rfl (by first | exact Or.inr ⟨_, rfl⟩ | exact va_rf_or _ | exact Or.inl rfl) ?_
      refine x_iload_n C D_X2_appendAll_0.2.2.2.2.2.2.2.2.2.2.1 rfl rfl ?_
      refine x_iconst C (v := nI 1) D_X2_appendAll_0.2.2.2.2.2.2.2.2.2.2.2 (by decide +kernel) ?_
      refine x_iadd C D_X2_appendAll_1.1 ?_
      refine x_eqi _ (nI_add _ _) ?_
      refine x_callSv C (y := yX2_appendAll) (ih (b - 1) (by omega) tl_ (d + 1) n _ I Q hTl (by omega) (by omega) hrw hn (by omega)) k_258 k_259 k_61 k_260 hd_X2_appendAll ⟨show b - 1 + 1 + 1 ≤ b + 1 by omega, show 8 + (4 + 11) + (23 * (b - 1) + 40) ≤ 23 * b + 40 by omega⟩ rfl (by first | exact Nat.le_of_ble_eq_true rfl | simp [x_crf, Value.category]) rfl rfl D_X2_appendAll_1.2.1 ⟨(Nat.le_of_ble_eq_true rfl), (Nat.le_of_ble_eq_true rfl)⟩ (fun _ S_20 h_20 => ?_)
      obtain ⟨g1, rfl, hg1, hs1⟩ := h_20
      obtain ⟨I1, eI1⟩ : ∃ I1, I1 = x_u2 I rw 1 (nI (n + (apd dd I tl_).length)) := ⟨_, rfl⟩
      obtain ⟨Q1, eQ1⟩ : ∃ Q1, Q1 = x_up Q rn g1 := ⟨_, rfl⟩
      rw [← eI1, ← eQ1]
      have hr1 : RowOK K N I1 Q1 rw rn cap (n + (apd dd I tl_).length) := by rw [eI1, eQ1]; exact (hrw.row g1).ok (x_u2_s _ _ _ _) (by omega)
      have ha1 : I1 q 1 = I q 1 := by rw [eI1, x_u2_a _ _ hqr]
      have L_39 : ∀ (I2 : Nat → Nat → Int32) (Q2 : Nat → Nat → Option Nat) (g2 : Nat → Option Nat), (I2 = x_u2 I rw 1 (nI (n + (apd dd I tl_).length + (if dd || alv I q then [q] else []).length))) → (Q2 = x_up Q rn g2) → (∀ i, i < n → g2 i = Q rn i) → (SEG g2 n (apd dd I tl_ ++ (if dd || alv I q then [q] else []))) → XW pP l eE (rm_X2_appendAll b) sS mM aA bB hH cC G Z 0 0 (K, N, I2, Q2, J) 39 [some (va_rf (some q)), some (.int (xb dd)), some (.ref rw), some (.int (nI d))] [] := by
        intro I2 Q2 g2 eI2 eQ2 hg2 hs2
        have hap2 : apd dd I2 tr_ = apd dd I tr_ := apd_congr (fun a ha => by rw [eI2, x_u2_a _ _ (nodes_ne (hTr.kind a ha) hkr (by omega))])
        refine x_aload_n C D_X2_appendAll_1.2.2.2.2.2.2.2.2.2.2.1 rfl rfl (by first | exact Or.inr ⟨_, rfl⟩ | exact va_rf_or _ | exact Or.inl rfl) ?_
        refine x_getQ C (ci := 2) (k0 := 4) hq3 (by decide) rfl (by decide) in_X3 k_625 rfl rfl D_X2_appendAll_1.2.2.2.2.2.2.2.2.2.2.2 ?_
        refine x_eqq _ (show Q2 q 4 = Q q 4 by rw [eQ2, x_up_n _ _ hqn]) ?_
        refine x_iload_n C D_X2_appendAll_2.1 rfl rfl ?_
        refine x_aload_n C D_X2_appendAll_2.2.1 rfl rfl (by first | exact Or.inr ⟨_, rfl⟩ | exact va_rf_or _ | exact Or.inl rfl) ?_
        refine x_iload_n C D_X2_appendAll_2.2.2.1 rfl rfl ?_
        refine x_iconst C (v := nI 1) D_X2_appendAll_2.2.2.2.1 (by decide +kernel) ?_
        refine x_iadd C D_X2_appendAll_2.2.2.2.2.1 ?_
        refine x_eqi _ (nI_add _ _) ?_
        refine x_callSv C (y := yX2_appendAll) (ih (b - 1) (by omega) tr_ (d + 1) (n + (apd dd I tl_).length + (if dd || alv I q then [q] else []).length) _ I2 Q2 (by rw [eQ2]; exact hTr.row hkn g2) (by omega) (by omega) (by rw [eQ2]; exact hrw.row g2) (by rw [eI2, x_u2_s]) (by rw [hap2]; omega)) k_258 k_259 k_61 k_260 hd_X2_appendAll ⟨show b - 1 + 1 + 1 ≤ b + 1 by omega, show 8 + (4 + 11) + (23 * (b - 1) + 40) ≤ 23 * b + 40 by omega⟩ rfl (by first | exact Nat.le_of_ble_eq_true rfl | simp [x_crf, Value.category]) rfl rfl D_X2_appendAll_2.2.2.2.2.2.1 ⟨(Nat.le_of_ble_eq_true rfl), (Nat.le_of_ble_eq_true rfl)⟩ (fun _ S_48 h_48 => ?_)
        obtain ⟨g3, rfl, hg3, hs3⟩ := h_48
        rw [hap2] at hs3
        refine ret _ _ _ _ _ rfl D_X2_appendAll_2.2.2.2.2.2.2 (Nat.le_of_ble_eq_true rfl) (Nat.le_of_ble_eq_true rfl) ?_
        refine ⟨g3, ?_, ?_, ?_⟩
        · rw [hap2, eI2, eQ2, x_u2_u2, x_up_up, apd_node]; simp only [List.length_append, Nat.add_assoc]
        · intro i hi
          rw [hg3 i (by omega), eQ2, x_up_s]; exact hg2 i hi
        · rw [apd_node, ← List.append_assoc]
          refine SEG_app (SEG_congr hs2 (fun i h1 h2 => ?_)) ?_
          · rw [hg3 i (by simp only [List.length_append] at h2; omega), eQ2, x_up_s]
          · rw [List.length_append, ← Nat.add_assoc]; exact hs3
      refine x_iload_n C D_X2_appendAll_1.2.2.1 rfl rfl ?_
      refine x_if_ne C 34 D_X2_appendAll_1.2.2.2.1 (by decide) (fun c_24 => ?_) (fun c_24 => ?_)
      · skip
        have cd_ : dd = true := by
          cases dd with
          | false => exact absurd rfl c_24
          | true => rfl
        have cm_ : (if dd || alv I q then [q] else []) = [q] := by rw [cd_]; rfl
        rw [cm_] at hcap
        simp only [List.length_singleton] at hcap
        refine x_aload_n C D_X2_appendAll_1.2.2.2.2.2.2.2.1 rfl rfl (by first | exact Or.inr ⟨_, rfl⟩ | exact va_rf_or _ | exact Or.inl rfl) ?_
        refine x_aload_n C D_X2_appendAll_1.2.2.2.2.2.2.2.2.1 rfl rfl (by first | exact Or.inr ⟨_, rfl⟩ | exact va_rf_or _ | exact Or.inl rfl) ?_
        refine x_callVv C (y := yX4_append) (c_X4_append l G rw rn cap (n + (apd dd I tl_).length) q hr1 hq3 (by omega)) (ci := 3) hkr (by decide) rfl rfl k_224 k_225 k_226 k_63 k_227 hd_X4_append ⟨(Nat.le_of_ble_eq_true rfl), (Nat.le_of_ble_eq_true rfl)⟩ rfl (by first | exact Nat.le_of_ble_eq_true rfl | simp [x_crf, Value.category]) rfl rfl D_X2_appendAll_1.2.2.2.2.2.2.2.2.2.1 ⟨(Nat.le_of_ble_eq_true rfl), (Nat.le_of_ble_eq_true rfl)⟩ (fun _ S_36 h_36 => ?_)
        obtain rfl := h_36
        refine L_39 _ _ (x_up g1 (n + (apd dd I tl_).length) (some q)) ?_ ?_ ?_ ?_
        · rw [eI1, x_u2_u2, cm_]; rfl
        · rw [eQ1, x_u2_up]
        · intro i hi
          rw [x_up_n _ _ (by omega)]; exact hg1 i hi
        · rw [cm_]
          exact SEG_app (SEG_congr hs1 (fun i h1 h2 => x_up_n _ _ (by omega))) (SEG_one (x_up_s _ _ _))
      · skip
        have cd_ : dd = false := by
          cases dd with
          | false => rfl
          | true => exact absurd c_24 (by decide)
        refine x_aload_n C D_X2_appendAll_1.2.2.2.2.1 rfl rfl (by first | exact Or.inr ⟨_, rfl⟩ | exact va_rf_or _ | exact Or.inl rfl) ?_
        refine x_getI C (ci := 2) (k0 := 1) hq3 (by decide) rfl (by decide) in_X3 k_614 rfl rfl D_X2_appendAll_1.2.2.2.2.2.1 ?_
        refine x_eqi _ ha1 ?_
        refine x_if_eq C 39 D_X2_appendAll_1.2.2.2.2.2.2.1 (by decide) (fun c_31 => ?_) (fun c_31 => ?_)
        · skip
          have cm_ : (if dd || alv I q then [q] else []) = [] := by rw [cd_]; simp [alv, c_31]
          refine L_39 _ _ g1 ?_ eQ1 hg1 ?_
          · rw [eI1, cm_]; rfl
          · rw [cm_, List.append_nil]; exact hs1
        · skip
          have cm_ : (if dd || alv I q then [q] else []) = [q] := by rw [cd_]; simp [alv, c_31]
          rw [cm_] at hcap
          simp only [List.length_singleton] at hcap
          refine x_aload_n C D_X2_appendAll_1.2.2.2.2.2.2.2.1 rfl rfl (by first | exact Or.inr ⟨_, rfl⟩ | exact va_rf_or _ | exact Or.inl rfl) ?_
          refine x_aload_n C D_X2_appendAll_1.2.2.2.2.2.2.2.2.1 rfl rfl (by first | exact Or.inr ⟨_, rfl⟩ | exact va_rf_or _ | exact Or.inl rfl) ?_
          refine x_callVv C (y := yX4_append) (c_X4_append l G rw rn cap (n + (apd dd I tl_).length) q hr1 hq3 (by omega)) (ci := 3) hkr (by decide) rfl rfl k_224 k_225 k_226 k_63 k_227 hd_X4_append ⟨(Nat.le_of_ble_eq_true rfl), (Nat.le_of_ble_eq_true rfl)⟩ rfl (by first | exact Nat.le_of_ble_eq_true rfl | simp [x_crf, Value.category]) rfl rfl D_X2_appendAll_1.2.2.2.2.2.2.2.2.2.1 ⟨(Nat.le_of_ble_eq_true rfl), (Nat.le_of_ble_eq_true rfl)⟩ (fun _ S_36 h_36 => ?_)
          obtain rfl := h_36
          refine L_39 _ _ (x_up g1 (n + (apd dd I tl_).length) (some q)) ?_ ?_ ?_ ?_
          · rw [eI1, x_u2_u2, cm_]; rfl
          · rw [eQ1, x_u2_up]
          · intro i hi
            rw [x_up_n _ _ (by omega)]; exact hg1 i hi
          · rw [cm_]
            exact SEG_app (SEG_congr hs1 (fun i h1 h2 => x_up_n _ _ (by omega))) (SEG_one (x_up_s _ _ _))
    · skip
      exact absurd ((nI_leI (by omega) (by omega)).mp (fa_of_nlt c_7)) (by omega)
      --end
