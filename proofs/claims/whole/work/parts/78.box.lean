theorem D_X5_keyOf_0 : decode cX5_keyOf 0 = .ok (.iload_n 0, 1) ∧ decode cX5_keyOf 1 = .ok (.bipush 100, 2) ∧ decode cX5_keyOf 3 = .ok (.imul, 1) ∧ decode cX5_keyOf 4 = .ok (.iload_n 1, 1) ∧ decode cX5_keyOf 5 = .ok (.iadd, 1) ∧ decode cX5_keyOf 6 = .ok (.ireturn, 1) := by decide +kernel
theorem D_X5_firstOf_0 : decode cX5_firstOf 0 = .ok (.iload_n 0, 1) ∧ decode cX5_firstOf 1 = .ok (.bipush 100, 2) ∧ decode cX5_firstOf 3 = .ok (.idiv, 1) ∧ decode cX5_firstOf 4 = .ok (.ireturn, 1) := by decide +kernel
theorem D_X5_secondOf_0 : decode cX5_secondOf 0 = .ok (.iload_n 0, 1) ∧ decode cX5_secondOf 1 = .ok (.bipush 100, 2) ∧ decode cX5_secondOf 3 = .ok (.irem, 1) ∧ decode cX5_secondOf 4 = .ok (.ireturn, 1) := by decide +kernel
theorem D_X5_isBetween_0 : decode cX5_isBetween 0 = .ok (.iload_n 0, 1) ∧ decode cX5_isBetween 1 = .ok (.iload_n 1, 1) ∧ decode cX5_isBetween 2 = .ok (.if_icmp .gt 12, 3) ∧ decode cX5_isBetween 5 = .ok (.iload_n 1, 1) ∧ decode cX5_isBetween 6 = .ok (.iload_n 2, 1) ∧ decode cX5_isBetween 7 = .ok (.if_icmp .gt 7, 3) ∧ decode cX5_isBetween 10 = .ok (.iconst 1, 1) ∧ decode cX5_isBetween 11 = .ok (.goto 4, 3) ∧ decode cX5_isBetween 14 = .ok (.iconst 0, 1) ∧ decode cX5_isBetween 15 = .ok (.ireturn, 1) := by decide +kernel
theorem D_X5_squaredDistance_0 : decode cX5_squaredDistance 0 = .ok (.iload_n 0, 1) ∧ decode cX5_squaredDistance 1 = .ok (.invokestatic 55, 3) ∧ decode cX5_squaredDistance 4 = .ok (.iload_n 1, 1) ∧ decode cX5_squaredDistance 5 = .ok (.isub, 1) ∧ decode cX5_squaredDistance 6 = .ok (.istore_n 3, 1) ∧ decode cX5_squaredDistance 7 = .ok (.iload_n 0, 1) ∧ decode cX5_squaredDistance 8 = .ok (.invokestatic 63, 3) ∧ decode cX5_squaredDistance 11 = .ok (.iload_n 2, 1) ∧ decode cX5_squaredDistance 12 = .ok (.isub, 1) ∧ decode cX5_squaredDistance 13 = .ok (.istore 4, 2) ∧ decode cX5_squaredDistance 15 = .ok (.iload_n 3, 1) ∧ decode cX5_squaredDistance 16 = .ok (.iload_n 3, 1) := by decide +kernel
theorem D_X5_squaredDistance_1 : decode cX5_squaredDistance 17 = .ok (.imul, 1) ∧ decode cX5_squaredDistance 18 = .ok (.iload 4, 2) ∧ decode cX5_squaredDistance 20 = .ok (.iload 4, 2) ∧ decode cX5_squaredDistance 22 = .ok (.imul, 1) ∧ decode cX5_squaredDistance 23 = .ok (.iadd, 1) ∧ decode cX5_squaredDistance 24 = .ok (.ireturn, 1) := by decide +kernel
theorem D_X5_livingInBox_0 : decode cX5_livingInBox 0 = .ok (.aload_n 0, 1) ∧ decode cX5_livingInBox 1 = .ok (.invokevirtual 48, 3) ∧ decode cX5_livingInBox 4 = .ok (.astore 5, 2) ∧ decode cX5_livingInBox 6 = .ok (.iconst 0, 1) ∧ decode cX5_livingInBox 7 = .ok (.istore 6, 2) ∧ decode cX5_livingInBox 9 = .ok (.iconst 0, 1) ∧ decode cX5_livingInBox 10 = .ok (.istore 7, 2) ∧ decode cX5_livingInBox 12 = .ok (.iload 7, 2) ∧ decode cX5_livingInBox 14 = .ok (.aload 5, 2) ∧ decode cX5_livingInBox 16 = .ok (.invokevirtual 9, 3) ∧ decode cX5_livingInBox 19 = .ok (.if_icmp .ge 59, 3) ∧ decode cX5_livingInBox 22 = .ok (.aload 5, 2) := by decide +kernel
theorem D_X5_livingInBox_1 : decode cX5_livingInBox 24 = .ok (.iload 7, 2) ∧ decode cX5_livingInBox 26 = .ok (.invokevirtual 15, 3) ∧ decode cX5_livingInBox 29 = .ok (.astore 8, 2) ∧ decode cX5_livingInBox 31 = .ok (.aload 8, 2) ∧ decode cX5_livingInBox 33 = .ok (.ifnull 39, 3) ∧ decode cX5_livingInBox 36 = .ok (.iload_n 1, 1) ∧ decode cX5_livingInBox 37 = .ok (.aload 8, 2) ∧ decode cX5_livingInBox 39 = .ok (.getfield 52, 3) ∧ decode cX5_livingInBox 42 = .ok (.invokestatic 55, 3) ∧ decode cX5_livingInBox 45 = .ok (.iload_n 3, 1) ∧ decode cX5_livingInBox 46 = .ok (.invokestatic 59, 3) ∧ decode cX5_livingInBox 49 = .ok (.ifCond .eq 23, 3) := by decide +kernel
theorem D_X5_livingInBox_2 : decode cX5_livingInBox 52 = .ok (.iload_n 2, 1) ∧ decode cX5_livingInBox 53 = .ok (.aload 8, 2) ∧ decode cX5_livingInBox 55 = .ok (.getfield 52, 3) ∧ decode cX5_livingInBox 58 = .ok (.invokestatic 63, 3) ∧ decode cX5_livingInBox 61 = .ok (.iload 4, 2) ∧ decode cX5_livingInBox 63 = .ok (.invokestatic 59, 3) ∧ decode cX5_livingInBox 66 = .ok (.ifCond .eq 6, 3) ∧ decode cX5_livingInBox 69 = .ok (.iinc 6 1, 3) ∧ decode cX5_livingInBox 72 = .ok (.iinc 7 1, 3) ∧ decode cX5_livingInBox 75 = .ok (.goto (-63), 3) ∧ decode cX5_livingInBox 78 = .ok (.iload 6, 2) ∧ decode cX5_livingInBox 80 = .ok (.ireturn, 1) := by decide +kernel
theorem D_X5_livingNearestTo_0 : decode cX5_livingNearestTo 0 = .ok (.aload_n 0, 1) ∧ decode cX5_livingNearestTo 1 = .ok (.invokevirtual 48, 3) ∧ decode cX5_livingNearestTo 4 = .ok (.astore_n 3, 1) ∧ decode cX5_livingNearestTo 5 = .ok (.iconst (-1), 1) ∧ decode cX5_livingNearestTo 6 = .ok (.istore 4, 2) ∧ decode cX5_livingNearestTo 8 = .ok (.iconst 0, 1) ∧ decode cX5_livingNearestTo 9 = .ok (.istore 5, 2) ∧ decode cX5_livingNearestTo 11 = .ok (.iconst 0, 1) ∧ decode cX5_livingNearestTo 12 = .ok (.istore 6, 2) ∧ decode cX5_livingNearestTo 14 = .ok (.iload 6, 2) ∧ decode cX5_livingNearestTo 16 = .ok (.aload_n 3, 1) ∧ decode cX5_livingNearestTo 17 = .ok (.invokevirtual 9, 3) := by decide +kernel
theorem D_X5_livingNearestTo_1 : decode cX5_livingNearestTo 20 = .ok (.if_icmp .ge 78, 3) ∧ decode cX5_livingNearestTo 23 = .ok (.aload_n 3, 1) ∧ decode cX5_livingNearestTo 24 = .ok (.iload 6, 2) ∧ decode cX5_livingNearestTo 26 = .ok (.invokevirtual 15, 3) ∧ decode cX5_livingNearestTo 29 = .ok (.astore 7, 2) ∧ decode cX5_livingNearestTo 31 = .ok (.aload 7, 2) ∧ decode cX5_livingNearestTo 33 = .ok (.ifnonnull 6, 3) ∧ decode cX5_livingNearestTo 36 = .ok (.goto 56, 3) ∧ decode cX5_livingNearestTo 39 = .ok (.aload 7, 2) ∧ decode cX5_livingNearestTo 41 = .ok (.getfield 52, 3) ∧ decode cX5_livingNearestTo 44 = .ok (.iload_n 1, 1) ∧ decode cX5_livingNearestTo 45 = .ok (.iload_n 2, 1) := by decide +kernel
theorem D_X5_livingNearestTo_2 : decode cX5_livingNearestTo 46 = .ok (.invokestatic 66, 3) ∧ decode cX5_livingNearestTo 49 = .ok (.istore 8, 2) ∧ decode cX5_livingNearestTo 51 = .ok (.iload 4, 2) ∧ decode cX5_livingNearestTo 53 = .ok (.iconst (-1), 1) ∧ decode cX5_livingNearestTo 54 = .ok (.if_icmp .eq 27, 3) ∧ decode cX5_livingNearestTo 57 = .ok (.iload 8, 2) ∧ decode cX5_livingNearestTo 59 = .ok (.iload 5, 2) ∧ decode cX5_livingNearestTo 61 = .ok (.if_icmp .lt 20, 3) ∧ decode cX5_livingNearestTo 64 = .ok (.iload 8, 2) ∧ decode cX5_livingNearestTo 66 = .ok (.iload 5, 2) ∧ decode cX5_livingNearestTo 68 = .ok (.if_icmp .ne 24, 3) ∧ decode cX5_livingNearestTo 71 = .ok (.aload 7, 2) := by decide +kernel
theorem D_X5_livingNearestTo_3 : decode cX5_livingNearestTo 73 = .ok (.getfield 52, 3) ∧ decode cX5_livingNearestTo 76 = .ok (.iload 4, 2) ∧ decode cX5_livingNearestTo 78 = .ok (.if_icmp .ge 14, 3) ∧ decode cX5_livingNearestTo 81 = .ok (.aload 7, 2) ∧ decode cX5_livingNearestTo 83 = .ok (.getfield 52, 3) ∧ decode cX5_livingNearestTo 86 = .ok (.istore 4, 2) ∧ decode cX5_livingNearestTo 88 = .ok (.iload 8, 2) ∧ decode cX5_livingNearestTo 90 = .ok (.istore 5, 2) ∧ decode cX5_livingNearestTo 92 = .ok (.iinc 6 1, 3) ∧ decode cX5_livingNearestTo 95 = .ok (.goto (-81), 3) ∧ decode cX5_livingNearestTo 98 = .ok (.iload 4, 2) ∧ decode cX5_livingNearestTo 100 = .ok (.ireturn, 1) := by decide +kernel
theorem D_X8_isPlace_0 : decode cX8_isPlace 0 = .ok (.iload_n 0, 1) ∧ decode cX8_isPlace 1 = .ok (.ifCond .lt 23, 3) ∧ decode cX8_isPlace 4 = .ok (.iload_n 0, 1) ∧ decode cX8_isPlace 5 = .ok (.bipush 100, 2) ∧ decode cX8_isPlace 7 = .ok (.if_icmp .ge 17, 3) ∧ decode cX8_isPlace 10 = .ok (.iload_n 1, 1) ∧ decode cX8_isPlace 11 = .ok (.ifCond .lt 13, 3) ∧ decode cX8_isPlace 14 = .ok (.iload_n 1, 1) ∧ decode cX8_isPlace 15 = .ok (.bipush 100, 2) ∧ decode cX8_isPlace 17 = .ok (.if_icmp .ge 7, 3) ∧ decode cX8_isPlace 20 = .ok (.iconst 1, 1) ∧ decode cX8_isPlace 21 = .ok (.goto 4, 3) := by decide +kernel
theorem D_X8_isPlace_1 : decode cX8_isPlace 24 = .ok (.iconst 0, 1) ∧ decode cX8_isPlace 25 = .ok (.ireturn, 1) := by decide +kernel
abbrev rm_X5_keyOf : Room := { frames := 0, cells := 0, slots := 0, locals := 0 }
set_option maxHeartbeats 4000000 in
set_option maxRecDepth 100000 in
theorem c_X5_keyOf (l : Launch) (G : xG) {K N : Nat → Nat} {I : Nat → Nat → Int32} {Q : Nat → Nat → Option Nat} {J : Nat → Nat → Int64} (c : Nat)  : XM l yX5_keyOf cX5_keyOf 2 (some .int) rm_X5_keyOf G Ri [.int (nI (c / 100)), .int (nI (c % 100))] (K, N, I, Q, J) (fun r S1 => r = cv5 c ∧ S1 = (K, N, I, Q, J)) := by
  refine x_meti (lv := [_, _]) (by decide +kernel) (x_cc (by first | rfl | exact x_crf _) (x_cc (by first | rfl | exact x_crf _) x_cn)) (Nat.le_of_ble_eq_true rfl) rfl ?_
  intro pP eE sS mM aA bB hH cC Z C hini ret
  refine x_iload_n C D_X5_keyOf_0.1 rfl rfl ?_
  refine x_bipush C (v := nI 100) D_X5_keyOf_0.2.1 (by decide +kernel) ?_
  refine x_imul C D_X5_keyOf_0.2.2.1 ?_
  refine x_eqi _ (pk_mul _ _) ?_
  refine x_iload_n C D_X5_keyOf_0.2.2.2.1 rfl rfl ?_
  refine x_iadd C D_X5_keyOf_0.2.2.2.2.1 ?_
  refine x_eqi (nI c) (by rw [nI_add, Nat.mul_comm, Nat.div_add_mod]) ?_
  refine ret _ _ _ _ _ _ rfl D_X5_keyOf_0.2.2.2.2.2 (Nat.le_of_ble_eq_true rfl) (Nat.le_of_ble_eq_true rfl) ?_
  exact ⟨rfl, rfl⟩
abbrev rm_X5_firstOf : Room := { frames := 0, cells := 0, slots := 0, locals := 0 }
set_option maxHeartbeats 4000000 in
set_option maxRecDepth 100000 in
theorem c_X5_firstOf (l : Launch) (G : xG) {K N : Nat → Nat} {I : Nat → Nat → Int32} {Q : Nat → Nat → Option Nat} {J : Nat → Nat → Int64} (c : Nat) (h : c < 10000) : XM l yX5_firstOf cX5_firstOf 1 (some .int) rm_X5_firstOf G Ri [.int (cv5 c)] (K, N, I, Q, J) (fun r S1 => r = nI (c / 100) ∧ S1 = (K, N, I, Q, J)) := by
  refine x_meti (lv := [_]) (by decide +kernel) (x_cc (by first | rfl | exact x_crf _) x_cn) (Nat.le_of_ble_eq_true rfl) rfl ?_
  intro pP eE sS mM aA bB hH cC Z C hini ret
  refine x_iload_n C D_X5_firstOf_0.1 rfl rfl ?_
  refine x_bipush C (v := nI 100) D_X5_firstOf_0.2.1 (by decide +kernel) ?_
  refine x_idiv C D_X5_firstOf_0.2.2.1 (by decide) ?_
  refine x_eqi _ (pk_div (by omega) (by decide) (by decide)) ?_
  refine ret _ _ _ _ _ _ rfl D_X5_firstOf_0.2.2.2 (Nat.le_of_ble_eq_true rfl) (Nat.le_of_ble_eq_true rfl) ?_
  exact ⟨rfl, rfl⟩
abbrev rm_X5_secondOf : Room := { frames := 0, cells := 0, slots := 0, locals := 0 }
set_option maxHeartbeats 4000000 in
set_option maxRecDepth 100000 in
theorem c_X5_secondOf (l : Launch) (G : xG) {K N : Nat → Nat} {I : Nat → Nat → Int32} {Q : Nat → Nat → Option Nat} {J : Nat → Nat → Int64} (c : Nat) (h : c < 10000) : XM l yX5_secondOf cX5_secondOf 1 (some .int) rm_X5_secondOf G Ri [.int (cv5 c)] (K, N, I, Q, J) (fun r S1 => r = nI (c % 100) ∧ S1 = (K, N, I, Q, J)) := by
  refine x_meti (lv := [_]) (by decide +kernel) (x_cc (by first | rfl | exact x_crf _) x_cn) (Nat.le_of_ble_eq_true rfl) rfl ?_
  intro pP eE sS mM aA bB hH cC Z C hini ret
  refine x_iload_n C D_X5_secondOf_0.1 rfl rfl ?_
  refine x_bipush C (v := nI 100) D_X5_secondOf_0.2.1 (by decide +kernel) ?_
  refine x_irem C D_X5_secondOf_0.2.2.1 (by decide) ?_
  refine x_eqi _ (pk_rem (by omega) (by decide) (by decide)) ?_
  refine ret _ _ _ _ _ _ rfl D_X5_secondOf_0.2.2.2 (Nat.le_of_ble_eq_true rfl) (Nat.le_of_ble_eq_true rfl) ?_
  exact ⟨rfl, rfl⟩
abbrev rm_X5_isBetween : Room := { frames := 0, cells := 0, slots := 0, locals := 0 }
set_option maxHeartbeats 4000000 in
set_option maxRecDepth 100000 in
theorem c_X5_isBetween (l : Launch) (G : xG) {K N : Nat → Nat} {I : Nat → Nat → Int32} {Q : Nat → Nat → Option Nat} {J : Nat → Nat → Int64} (a b c : Nat) (ha : a < 1000) (hb : b < 1000) (hc : c < 1000) : XM l yX5_isBetween cX5_isBetween 3 (some .boolean) rm_X5_isBetween G Rz [.int (nI a), .int (nI b), .int (nI c)] (K, N, I, Q, J) (fun r S1 => r = (decide (a ≤ b) && decide (b ≤ c)) ∧ S1 = (K, N, I, Q, J)) := by
  refine x_metz (lv := [_, _, _]) (by decide +kernel) (x_cc (by first | rfl | exact x_crf _) (x_cc (by first | rfl | exact x_crf _) (x_cc (by first | rfl | exact x_crf _) x_cn))) (Nat.le_of_ble_eq_true rfl) rfl ?_
  intro pP eE sS mM aA bB hH cC Z C hini ret
  refine x_iload_n C D_X5_isBetween_0.1 rfl rfl ?_
  refine x_iload_n C D_X5_isBetween_0.2.1 rfl rfl ?_
  refine x_icmp_gt C 14 D_X5_isBetween_0.2.2.1 (by decide) (fun c_2 => ?_) (fun c_2 => ?_)
  · skip
    first
    | have d_2 := cv_lt c_2 (by omega) (by omega)
    | skip
    refine x_iconst C (v := nI 0) D_X5_isBetween_0.2.2.2.2.2.2.2.2.1 (by decide +kernel) ?_
    refine ret _ _ _ _ _ _ false rfl D_X5_isBetween_0.2.2.2.2.2.2.2.2.2 (Nat.le_of_ble_eq_true rfl) (Nat.le_of_ble_eq_true rfl) rfl ?_
    exact ⟨by rw [decide_eq_false (by omega : ¬ a ≤ b), Bool.false_and], rfl⟩
  · skip
    first
    | have d_2 := cv_nlt c_2 (by omega) (by omega)
    | skip
    refine x_iload_n C D_X5_isBetween_0.2.2.2.1 rfl rfl ?_
    refine x_iload_n C D_X5_isBetween_0.2.2.2.2.1 rfl rfl ?_
    refine x_icmp_gt C 14 D_X5_isBetween_0.2.2.2.2.2.1 (by decide) (fun c_7 => ?_) (fun c_7 => ?_)
    · skip
      first
      | have d_7 := cv_lt c_7 (by omega) (by omega)
      | skip
      refine x_iconst C (v := nI 0) D_X5_isBetween_0.2.2.2.2.2.2.2.2.1 (by decide +kernel) ?_
      refine ret _ _ _ _ _ _ false rfl D_X5_isBetween_0.2.2.2.2.2.2.2.2.2 (Nat.le_of_ble_eq_true rfl) (Nat.le_of_ble_eq_true rfl) rfl ?_
      exact ⟨by rw [decide_eq_false (by omega : ¬ b ≤ c), Bool.and_false], rfl⟩
    · skip
      first
      | have d_7 := cv_nlt c_7 (by omega) (by omega)
      | skip
      refine x_iconst C (v := nI 1) D_X5_isBetween_0.2.2.2.2.2.2.1 (by decide +kernel) ?_
      refine x_goto C 15 D_X5_isBetween_0.2.2.2.2.2.2.2.1 (by decide) ?_
      refine ret _ _ _ _ _ _ true rfl D_X5_isBetween_0.2.2.2.2.2.2.2.2.2 (Nat.le_of_ble_eq_true rfl) (Nat.le_of_ble_eq_true rfl) rfl ?_
      exact ⟨by rw [decide_eq_true d_2, decide_eq_true d_7]; rfl, rfl⟩
abbrev rm_X5_squaredDistance : Room := { frames := 1, cells := 0, slots := 0, locals := 20 }
theorem hd_X5_firstOf : yX5_firstOf.cls ≠ "java/lang/invoke/MethodHandle" ∧ yX5_firstOf.cls ≠ "java/lang/invoke/VarHandle" ∧ (parseMethodDescriptor yX5_firstOf.desc).map (fun d => d.parameters.length) = some 1 := by decide +kernel
theorem hd_X5_secondOf : yX5_secondOf.cls ≠ "java/lang/invoke/MethodHandle" ∧ yX5_secondOf.cls ≠ "java/lang/invoke/VarHandle" ∧ (parseMethodDescriptor yX5_secondOf.desc).map (fun d => d.parameters.length) = some 1 := by decide +kernel
set_option maxHeartbeats 4000000 in
set_option maxRecDepth 100000 in
theorem c_X5_squaredDistance (l : Launch) (G : xG) {K N : Nat → Nat} {I : Nat → Nat → Int32} {Q : Nat → Nat → Option Nat} {J : Nat → Nat → Int64} (c x y : Nat) (h : c < 10000) : XM l yX5_squaredDistance cX5_squaredDistance 5 (some .int) rm_X5_squaredDistance G Ri [.int (cv5 c), .int (nI x), .int (nI y)] (K, N, I, Q, J) (fun r S1 => r = nI (far x y c) ∧ S1 = (K, N, I, Q, J)) := by
  refine x_meti (lv := [_, _, _, _, _]) (by decide +kernel) (x_cc (by first | rfl | exact x_crf _) (x_cc (by first | rfl | exact x_crf _) (x_cc (by first | rfl | exact x_crf _) x_cn))) (Nat.le_of_ble_eq_true rfl) rfl ?_
  intro pP eE sS mM aA bB hH cC Z C hini ret
  refine x_iload_n C D_X5_squaredDistance_0.1 rfl rfl ?_
  refine x_callSi C (y := yX5_firstOf) (c_X5_firstOf l G c h) k_872 k_873 k_66 k_874 hd_X5_firstOf ⟨(Nat.le_of_ble_eq_true rfl), (Nat.le_of_ble_eq_true rfl)⟩ rfl (by first | exact Nat.le_of_ble_eq_true rfl | simp [x_crf, Value.category]) rfl rfl D_X5_squaredDistance_0.2.1 ⟨(Nat.le_of_ble_eq_true rfl), (Nat.le_of_ble_eq_true rfl)⟩ (fun r_1 S_1 h_1 => ?_)
  obtain ⟨rfl, rfl⟩ := h_1
  refine x_iload_n C D_X5_squaredDistance_0.2.2.1 rfl rfl ?_
  refine x_isub C D_X5_squaredDistance_0.2.2.2.1 ?_
  refine x_istore_n C (lv' := [_, _, _, _, _]) D_X5_squaredDistance_0.2.2.2.2.1 rfl (Nat.le_of_ble_eq_true rfl) (by first | rfl | exact x_ok_q rfl) rfl ?_
  refine x_iload_n C D_X5_squaredDistance_0.2.2.2.2.2.1 rfl rfl ?_
  refine x_callSi C (y := yX5_secondOf) (c_X5_secondOf l G c h) k_878 k_879 k_66 k_880 hd_X5_secondOf ⟨(Nat.le_of_ble_eq_true rfl), (Nat.le_of_ble_eq_true rfl)⟩ rfl (by first | exact Nat.le_of_ble_eq_true rfl | simp [x_crf, Value.category]) rfl rfl D_X5_squaredDistance_0.2.2.2.2.2.2.1 ⟨(Nat.le_of_ble_eq_true rfl), (Nat.le_of_ble_eq_true rfl)⟩ (fun r_8 S_8 h_8 => ?_)
  obtain ⟨rfl, rfl⟩ := h_8
  refine x_iload_n C D_X5_squaredDistance_0.2.2.2.2.2.2.2.1 rfl rfl ?_
  refine x_isub C D_X5_squaredDistance_0.2.2.2.2.2.2.2.2.1 ?_
  refine x_istore C (lv' := [_, _, _, _, _]) D_X5_squaredDistance_0.2.2.2.2.2.2.2.2.2.1 (Nat.le_of_ble_eq_true rfl) (by first | rfl | exact x_ok_q rfl) rfl ?_
  refine x_iload_n C D_X5_squaredDistance_0.2.2.2.2.2.2.2.2.2.2.1 rfl rfl ?_
  refine x_iload_n C D_X5_squaredDistance_0.2.2.2.2.2.2.2.2.2.2.2 rfl rfl ?_
  refine x_imul C D_X5_squaredDistance_1.1 ?_
  refine x_eqi _ (sq_i _ _) ?_
  refine x_iload C D_X5_squaredDistance_1.2.1 rfl ?_
  refine x_iload C D_X5_squaredDistance_1.2.2.1 rfl ?_
  refine x_imul C D_X5_squaredDistance_1.2.2.2.1 ?_
  refine x_eqi _ (sq_i _ _) ?_
  refine x_iadd C D_X5_squaredDistance_1.2.2.2.2.1 ?_
  refine x_eqi (nI (far x y c)) (nI_add _ _) ?_
  refine ret _ _ _ _ _ _ rfl D_X5_squaredDistance_1.2.2.2.2.2 (Nat.le_of_ble_eq_true rfl) (Nat.le_of_ble_eq_true rfl) ?_
  exact ⟨rfl, rfl⟩
abbrev rm_X5_livingInBox : Room := { frames := 45, cells := 0, slots := 0, locals := 1048 }
theorem hd_X2_livingNodes : yX2_livingNodes.cls ≠ "java/lang/invoke/MethodHandle" ∧ yX2_livingNodes.cls ≠ "java/lang/invoke/VarHandle" ∧ (parseMethodDescriptor yX2_livingNodes.desc).map (fun d => d.parameters.length) = some 0 := by decide +kernel
theorem hd_X5_isBetween : yX5_isBetween.cls ≠ "java/lang/invoke/MethodHandle" ∧ yX5_isBetween.cls ≠ "java/lang/invoke/VarHandle" ∧ (parseMethodDescriptor yX5_isBetween.desc).map (fun d => d.parameters.length) = some 3 := by decide +kernel
theorem hu_X2_livingNodes : "ScapegoatSpur$LazyTree" ≠ "java/lang/invoke/MethodHandle" ∧ "ScapegoatSpur$LazyTree" ≠ "java/lang/invoke/VarHandle" ∧ (parseMethodDescriptor "()LScapegoatSpur$NodeRow;").map (fun d => d.parameters.length) = some 0 := by decide +kernel
set_option maxHeartbeats 4000000 in
set_option maxRecDepth 100000 in
theorem c_X5_livingInBox (l : Launch) (G : xG) {K N : Nat → Nat} {I : Nat → Nat → Int32} {Q : Nat → Nat → Option Nat} {J : Nat → Nat → Int64} (t pq pn rw rn cap : Nat) (A : Tr) (cd : Nat → Nat) (a b c d : Nat) (hz : LZ K N Q t 5 pq pn rw rn cap) (hT : TP K Q A (Q t 2)) (hN : ND cv5 10000 K I cd (ino A)) (hA : ht A ≤ 40) (hcap : (apd false I A).length ≤ cap) (ha : a < 1000) (hb : b < 1000) (hc : c < 1000) (hd : d < 1000) : XM l yX5_livingInBox cX5_livingInBox 9 (some .int) rm_X5_livingInBox G Ri [.ref t, .int (nI a), .int (nI b), .int (nI c), .int (nI d)] (K, N, I, Q, J) (fun r S1 => r = nI (ccnt (fun q => boxF a b c d (cd q)) (apd false I A)) ∧ ∃ g, S1 = (K, N, x_u2 I rw 1 (nI (apd false I A).length), x_up Q rn g, J)) := by
  refine x_meti (lv := [_, _, _, _, _, _, _, _, _]) (by decide +kernel) (x_cc (by first | rfl | exact x_crf _) (x_cc (by first | rfl | exact x_crf _) (x_cc (by first | rfl | exact x_crf _) (x_cc (by first | rfl | exact x_crf _) (x_cc (by first | rfl | exact x_crf _) x_cn))))) (Nat.le_of_ble_eq_true rfl) rfl ?_
  intro pP eE sS mM aA bB hH cC Z C hini ret
  obtain ⟨hk, hkd, h0, h1, hp, hrw, hpr, hpn⟩ := id hz
  obtain ⟨lst, els⟩ : ∃ lst, lst = apd false I A := ⟨_, rfl⟩
  have hcw := hrw.2.2.2.2
  have hlm : ∀ q ∈ lst, q ∈ ino A := fun q hq => by rw [els] at hq; exact apd_mem hq
  refine x_aload_n C D_X5_livingInBox_0.1 rfl rfl (by first | exact Or.inr ⟨_, rfl⟩ | exact va_rf_or _ | exact Or.inl rfl) ?_
  refine x_callUq C (x := ⟨"ScapegoatSpur$PointTree", "livingNodes", "()LScapegoatSpur$NodeRow;"⟩) (y := yX2_livingNodes) (owner := "ScapegoatSpur$LazyTree") (c_X2_livingNodes_5 l G t pq pn rw rn cap A hz hT hA hcap) (ci := 4) hz.1 (by decide) rfl k_866 k_867 k_869 k_870 k_61 k_871 rfl hu_X2_livingNodes ⟨(Nat.le_of_ble_eq_true rfl), (Nat.le_of_ble_eq_true rfl)⟩ rfl (by first | exact Nat.le_of_ble_eq_true rfl | simp [x_crf, Value.category]) rfl rfl D_X5_livingInBox_0.2.1 ⟨(Nat.le_of_ble_eq_true rfl), (Nat.le_of_ble_eq_true rfl)⟩ (fun r_1 S_1 h_1 => ?_)
  obtain ⟨rfl, g, rfl, hsg⟩ := h_1
  rw [← els] at hsg hcap ⊢
  obtain ⟨I1, eI1⟩ : ∃ I1, I1 = x_u2 I rw 1 (nI lst.length) := ⟨_, rfl⟩
  rw [← eI1]
  have hrow : RowOK K N I1 (x_up Q rn g) rw rn cap lst.length := by rw [eI1]; exact (hrw.row g).ok (x_u2_s _ _ _ _) hcap
  have hnq : ∀ q ∈ lst, K q = 3 ∧ I1 q 0 = cv5 (cd q) ∧ cd q < 10000 := fun q hq => by
    obtain ⟨n1, n2, n3⟩ := hN q (hlm q hq)
    refine ⟨n1, ?_, n3⟩
    rw [eI1, x_u2_a _ _ (nodes_ne n1 hrw.1 (by omega))]; exact n2
  refine x_astore C (lv' := [_, _, _, _, _, _, _, _, _]) D_X5_livingInBox_0.2.2.1 (Nat.le_of_ble_eq_true rfl) (by first | rfl | exact x_ok_q rfl) (by first | exact Or.inr ⟨_, rfl⟩ | exact va_rf_or _ | exact Or.inl rfl) rfl ?_
  refine x_iconst C (v := nI 0) D_X5_livingInBox_0.2.2.2.1 (by decide +kernel) ?_
  refine x_istore C (lv' := [_, _, _, _, _, _, _, _, _]) D_X5_livingInBox_0.2.2.2.2.1 (Nat.le_of_ble_eq_true rfl) (by first | rfl | exact x_ok_q rfl) rfl ?_
  refine x_iconst C (v := nI 0) D_X5_livingInBox_0.2.2.2.2.2.1 (by decide +kernel) ?_
  refine x_istore C (lv' := [_, _, _, _, _, _, _, _, _]) D_X5_livingInBox_0.2.2.2.2.2.2.1 (Nat.le_of_ble_eq_true rfl) (by first | rfl | exact x_ok_q rfl) rfl ?_
  have L_12 : ∀ (w_12 : Nat) (i0 : Nat) (v8 : Option Value), lst.length - i0 < w_12 → (i0 ≤ lst.length) → XW pP l eE rm_X5_livingInBox sS mM aA bB hH cC G Z 0 0 (K, N, I1, x_up Q rn g, J) 12 [some (.ref t), some (.int (nI a)), some (.int (nI b)), some (.int (nI c)), some (.int (nI d)), some (.ref rw), some (.int (nI (ccnt (fun q => boxF a b c d (cd q)) (lst.take i0)))), some (.int (nI i0)), v8] [] := by
    intro w_12
    induction w_12 with
    | zero =>
      intro i0 v8 hw_12
      exact absurd hw_12 (Nat.not_lt_zero _)
    | succ w_12 ih_12 =>
      intro i0 v8 hw_12 hi0
      refine x_iload C D_X5_livingInBox_0.2.2.2.2.2.2.2.1 rfl ?_
      refine x_aload C D_X5_livingInBox_0.2.2.2.2.2.2.2.2.1 rfl (by first | exact Or.inr ⟨_, rfl⟩ | exact va_rf_or _ | exact Or.inl rfl) ?_
      refine x_callVi C (y := yX4_length) (c_X4_length l G rw hrw.1) (ci := 3) hrw.1 (by decide) rfl rfl k_651 k_221 k_222 k_63 k_223 hd_X4_length ⟨(Nat.le_of_ble_eq_true rfl), (Nat.le_of_ble_eq_true rfl)⟩ rfl (by first | exact Nat.le_of_ble_eq_true rfl | simp [x_crf, Value.category]) rfl rfl D_X5_livingInBox_0.2.2.2.2.2.2.2.2.2.1 ⟨(Nat.le_of_ble_eq_true rfl), (Nat.le_of_ble_eq_true rfl)⟩ (fun r_16 S_16 h_16 => ?_)
      obtain ⟨rfl, rfl⟩ := h_16
      refine x_eqi _ hrow.2.2.2.2.2.1 ?_
      refine x_icmp_ge C 78 D_X5_livingInBox_0.2.2.2.2.2.2.2.2.2.2.1 (by decide) (fun c_19 => ?_) (fun c_19 => ?_)
      · skip
        first
        | have d_19 := cv_le c_19 (by omega) (by omega)
        | skip
        obtain rfl : i0 = lst.length := by omega
        refine x_iload C D_X5_livingInBox_2.2.2.2.2.2.2.2.2.2.2.1 rfl ?_
        refine ret _ _ _ _ _ _ rfl D_X5_livingInBox_2.2.2.2.2.2.2.2.2.2.2.2 (Nat.le_of_ble_eq_true rfl) (Nat.le_of_ble_eq_true rfl) ?_
        exact ⟨by rw [List.take_length, els], g, by rw [eI1, els]⟩
      · skip
        first
        | have d_19 := cv_nle c_19 (by omega) (by omega)
        | skip
        have hil : i0 < lst.length := by omega
        obtain ⟨q, hq⟩ : ∃ q, lst[i0]? = some q := ⟨_, List.getElem?_eq_getElem hil⟩
        obtain ⟨hq3, hq0, hqc⟩ := hnq q (List.mem_of_getElem? hq)
        have hcl := ccnt_le (fun q => boxF a b c d (cd q)) (lst.take i0)
        have hct := ccnt_take (f := (fun q => boxF a b c d (cd q))) hq
        refine x_aload C D_X5_livingInBox_0.2.2.2.2.2.2.2.2.2.2.2 rfl (by first | exact Or.inr ⟨_, rfl⟩ | exact va_rf_or _ | exact Or.inl rfl) ?_
        refine x_iload C D_X5_livingInBox_1.1 rfl ?_
        refine x_callVq C (y := yX4_at) (c_X4_at l G rw rn cap lst.length (nI i0) hrow) (ci := 3) hrw.1 (by decide) rfl rfl k_652 k_273 k_274 k_63 k_275 hd_X4_at ⟨(Nat.le_of_ble_eq_true rfl), (Nat.le_of_ble_eq_true rfl)⟩ rfl (by first | exact Nat.le_of_ble_eq_true rfl | simp [x_crf, Value.category]) rfl rfl D_X5_livingInBox_1.2.1 ⟨(Nat.le_of_ble_eq_true rfl), (Nat.le_of_ble_eq_true rfl)⟩ (fun r_26 S_26 h_26 => ?_)
        obtain ⟨hr, rfl⟩ := h_26
        rw [atv_in _ hil (by omega), x_up_s, ← Nat.zero_add i0, hsg i0 hil, hq] at hr
        subst hr
        refine x_astore C (lv' := [_, _, _, _, _, _, _, _, _]) D_X5_livingInBox_1.2.2.1 (Nat.le_of_ble_eq_true rfl) (by first | rfl | exact x_ok_q rfl) (by first | exact Or.inr ⟨_, rfl⟩ | exact va_rf_or _ | exact Or.inl rfl) rfl ?_
        refine x_aload C D_X5_livingInBox_1.2.2.2.1 rfl (by first | exact Or.inr ⟨_, rfl⟩ | exact va_rf_or _ | exact Or.inl rfl) ?_
        refine x_ifnull C 72 D_X5_livingInBox_1.2.2.2.2.1 (by decide) (fun e_33 => ?_) (fun x9 e_33 => ?_)
        · skip
          exact absurd e_33 (by simp)
          --end
        · skip
          obtain rfl : q = x9 := Option.some.inj e_33
          refine x_iload_n C D_X5_livingInBox_1.2.2.2.2.2.1 rfl rfl ?_
          refine x_aload C D_X5_livingInBox_1.2.2.2.2.2.2.1 rfl (by first | exact Or.inr ⟨_, rfl⟩ | exact va_rf_or _ | exact Or.inl rfl) ?_
          refine x_getI C (ci := 2) (k0 := 0) hq3 (by decide) rfl (by decide) in_X3 k_610 rfl rfl D_X5_livingInBox_1.2.2.2.2.2.2.2.1 ?_
          refine x_eqi _ hq0 ?_
          refine x_callSi C (y := yX5_firstOf) (c_X5_firstOf l G (cd q) hqc) k_872 k_873 k_66 k_874 hd_X5_firstOf ⟨(Nat.le_of_ble_eq_true rfl), (Nat.le_of_ble_eq_true rfl)⟩ rfl (by first | exact Nat.le_of_ble_eq_true rfl | simp [x_crf, Value.category]) rfl rfl D_X5_livingInBox_1.2.2.2.2.2.2.2.2.1 ⟨(Nat.le_of_ble_eq_true rfl), (Nat.le_of_ble_eq_true rfl)⟩ (fun r_42 S_42 h_42 => ?_)
          obtain ⟨rfl, rfl⟩ := h_42
          refine x_iload_n C D_X5_livingInBox_1.2.2.2.2.2.2.2.2.2.1 rfl rfl ?_
          refine x_callSz C (y := yX5_isBetween) (c_X5_isBetween l G a (cd q / 100) c ha (by omega) hc) k_875 k_876 k_66 k_877 hd_X5_isBetween ⟨(Nat.le_of_ble_eq_true rfl), (Nat.le_of_ble_eq_true rfl)⟩ rfl (by first | exact Nat.le_of_ble_eq_true rfl | simp [x_crf, Value.category]) rfl rfl D_X5_livingInBox_1.2.2.2.2.2.2.2.2.2.2.1 ⟨(Nat.le_of_ble_eq_true rfl), (Nat.le_of_ble_eq_true rfl)⟩ (fun r_46 S_46 h_46 => ?_)
          obtain ⟨rfl, rfl⟩ := h_46
          refine x_if_eq C 72 D_X5_livingInBox_1.2.2.2.2.2.2.2.2.2.2.2 (by decide) (fun c_49 => ?_) (fun c_49 => ?_)
          · skip
            first
            | have d_49 := cz_eq c_49 (by omega)
            | have d_49 := cb_eq c_49
            | skip
            have hbx : boxF a b c d (cd q) = false := by unfold boxF; rw [d_49, Bool.false_and]
            rw [hbx, if_neg (by decide)] at hct
            first
            | refine x_iinc C (lv' := [_, _, _, _, _, _, _, _, _]) D_X5_livingInBox_2.2.2.2.2.2.2.2.2.1 rfl (x_incN_1 _) (by first | rfl | exact x_ok_q rfl) rfl ?_
            | refine x_iinc C (lv' := [_, _, _, _, _, _, _, _, _]) D_X5_livingInBox_2.2.2.2.2.2.2.2.2.1 rfl (x_inc_1 _) (by first | rfl | exact x_ok_q rfl) rfl ?_
            refine x_goto C 12 D_X5_livingInBox_2.2.2.2.2.2.2.2.2.2.1 (by decide) ?_
            refine x_lv (lv := [_, _, _, _, _, _, some (.int (nI (ccnt (fun q => boxF a b c d (cd q)) (lst.take (i0 + 1))))), _, _]) (by rw [hct]; rfl) ?_
            exact ih_12 (i0 + 1) _ (by omega) (by omega)
          · skip
            first
            | have d_49 := cz_ne c_49 (by omega)
            | have d_49 := cb_ne c_49
            | skip
            refine x_iload_n C D_X5_livingInBox_2.1 rfl rfl ?_
            refine x_aload C D_X5_livingInBox_2.2.1 rfl (by first | exact Or.inr ⟨_, rfl⟩ | exact va_rf_or _ | exact Or.inl rfl) ?_
            refine x_getI C (ci := 2) (k0 := 0) hq3 (by decide) rfl (by decide) in_X3 k_610 rfl rfl D_X5_livingInBox_2.2.2.1 ?_
            refine x_eqi _ hq0 ?_
            refine x_callSi C (y := yX5_secondOf) (c_X5_secondOf l G (cd q) hqc) k_878 k_879 k_66 k_880 hd_X5_secondOf ⟨(Nat.le_of_ble_eq_true rfl), (Nat.le_of_ble_eq_true rfl)⟩ rfl (by first | exact Nat.le_of_ble_eq_true rfl | simp [x_crf, Value.category]) rfl rfl D_X5_livingInBox_2.2.2.2.1 ⟨(Nat.le_of_ble_eq_true rfl), (Nat.le_of_ble_eq_true rfl)⟩ (fun r_58 S_58 h_58 => ?_)
            obtain ⟨rfl, rfl⟩ := h_58
            refine x_iload C D_X5_livingInBox_2.2.2.2.2.1 rfl ?_
            refine x_callSz C (y := yX5_isBetween) (c_X5_isBetween l G b (cd q % 100) d hb (by omega) hd) k_875 k_876 k_66 k_877 hd_X5_isBetween ⟨(Nat.le_of_ble_eq_true rfl), (Nat.le_of_ble_eq_true rfl)⟩ rfl (by first | exact Nat.le_of_ble_eq_true rfl | simp [x_crf, Value.category]) rfl rfl D_X5_livingInBox_2.2.2.2.2.2.1 ⟨(Nat.le_of_ble_eq_true rfl), (Nat.le_of_ble_eq_true rfl)⟩ (fun r_63 S_63 h_63 => ?_)
            obtain ⟨rfl, rfl⟩ := h_63
            refine x_if_eq C 72 D_X5_livingInBox_2.2.2.2.2.2.2.1 (by decide) (fun c_66 => ?_) (fun c_66 => ?_)
            · skip
              first
              | have d_66 := cz_eq c_66 (by omega)
              | have d_66 := cb_eq c_66
              | skip
              have hbx : boxF a b c d (cd q) = false := by unfold boxF; rw [d_66, Bool.and_false]
              rw [hbx, if_neg (by decide)] at hct
              first
              | refine x_iinc C (lv' := [_, _, _, _, _, _, _, _, _]) D_X5_livingInBox_2.2.2.2.2.2.2.2.2.1 rfl (x_incN_1 _) (by first | rfl | exact x_ok_q rfl) rfl ?_
              | refine x_iinc C (lv' := [_, _, _, _, _, _, _, _, _]) D_X5_livingInBox_2.2.2.2.2.2.2.2.2.1 rfl (x_inc_1 _) (by first | rfl | exact x_ok_q rfl) rfl ?_
              refine x_goto C 12 D_X5_livingInBox_2.2.2.2.2.2.2.2.2.2.1 (by decide) ?_
              refine x_lv (lv := [_, _, _, _, _, _, some (.int (nI (ccnt (fun q => boxF a b c d (cd q)) (lst.take (i0 + 1))))), _, _]) (by rw [hct]; rfl) ?_
              exact ih_12 (i0 + 1) _ (by omega) (by omega)
            · skip
              first
              | have d_66 := cz_ne c_66 (by omega)
              | have d_66 := cb_ne c_66
              | skip
              have hbx : boxF a b c d (cd q) = true := by unfold boxF; rw [d_49, d_66]; rfl
              rw [hbx, if_pos rfl] at hct
              first
              | refine x_iinc C (lv' := [_, _, _, _, _, _, _, _, _]) D_X5_livingInBox_2.2.2.2.2.2.2.2.1 rfl (x_incN_1 _) (by first | rfl | exact x_ok_q rfl) rfl ?_
              | refine x_iinc C (lv' := [_, _, _, _, _, _, _, _, _]) D_X5_livingInBox_2.2.2.2.2.2.2.2.1 rfl (x_inc_1 _) (by first | rfl | exact x_ok_q rfl) rfl ?_
              first
              | refine x_iinc C (lv' := [_, _, _, _, _, _, _, _, _]) D_X5_livingInBox_2.2.2.2.2.2.2.2.2.1 rfl (x_incN_1 _) (by first | rfl | exact x_ok_q rfl) rfl ?_
              | refine x_iinc C (lv' := [_, _, _, _, _, _, _, _, _]) D_X5_livingInBox_2.2.2.2.2.2.2.2.2.1 rfl (x_inc_1 _) (by first | rfl | exact x_ok_q rfl) rfl ?_
              refine x_goto C 12 D_X5_livingInBox_2.2.2.2.2.2.2.2.2.2.1 (by decide) ?_
              refine x_lv (lv := [_, _, _, _, _, _, some (.int (nI (ccnt (fun q => boxF a b c d (cd q)) (lst.take (i0 + 1))))), _, _]) (by rw [hct]) ?_
              exact ih_12 (i0 + 1) _ (by omega) (by omega)
  exact L_12 _ 0 _ (Nat.lt_succ_self _) (Nat.zero_le _)
abbrev rm_X5_livingNearestTo : Room := { frames := 45, cells := 0, slots := 0, locals := 1048 }
theorem hd_X5_squaredDistance : yX5_squaredDistance.cls ≠ "java/lang/invoke/MethodHandle" ∧ yX5_squaredDistance.cls ≠ "java/lang/invoke/VarHandle" ∧ (parseMethodDescriptor yX5_squaredDistance.desc).map (fun d => d.parameters.length) = some 3 := by decide +kernel
set_option maxHeartbeats 4000000 in
set_option maxRecDepth 100000 in
theorem c_X5_livingNearestTo (l : Launch) (G : xG) {K N : Nat → Nat} {I : Nat → Nat → Int32} {Q : Nat → Nat → Option Nat} {J : Nat → Nat → Int64} (t pq pn rw rn cap : Nat) (A : Tr) (cd : Nat → Nat) (x y : Nat) (hz : LZ K N Q t 5 pq pn rw rn cap) (hT : TP K Q A (Q t 2)) (hN : ND cv5 10000 K I cd (ino A)) (hA : ht A ≤ 40) (hcap : (apd false I A).length ≤ cap) (hx : x < 100) (hy : y < 100) : XM l yX5_livingNearestTo cX5_livingNearestTo 9 (some .int) rm_X5_livingNearestTo G Ri [.ref t, .int (nI x), .int (nI y)] (K, N, I, Q, J) (fun r S1 => r = oI (((apd false I A).map cd).foldl (nrS x y) (none, 0)).1 ∧ ∃ g, S1 = (K, N, x_u2 I rw 1 (nI (apd false I A).length), x_up Q rn g, J)) := by
  refine x_meti (lv := [_, _, _, _, _, _, _, _, _]) (by decide +kernel) (x_cc (by first | rfl | exact x_crf _) (x_cc (by first | rfl | exact x_crf _) (x_cc (by first | rfl | exact x_crf _) x_cn))) (Nat.le_of_ble_eq_true rfl) rfl ?_
  intro pP eE sS mM aA bB hH cC Z C hini ret
  obtain ⟨hk, hkd, h0, h1, hp, hrw, hpr, hpn⟩ := id hz
  obtain ⟨lst, els⟩ : ∃ lst, lst = apd false I A := ⟨_, rfl⟩
  have hcw := hrw.2.2.2.2
  have hlm : ∀ q ∈ lst, q ∈ ino A := fun q hq => by rw [els] at hq; exact apd_mem hq
  refine x_aload_n C D_X5_livingNearestTo_0.1 rfl rfl (by first | exact Or.inr ⟨_, rfl⟩ | exact va_rf_or _ | exact Or.inl rfl) ?_
  refine x_callUq C (x := ⟨"ScapegoatSpur$PointTree", "livingNodes", "()LScapegoatSpur$NodeRow;"⟩) (y := yX2_livingNodes) (owner := "ScapegoatSpur$LazyTree") (c_X2_livingNodes_5 l G t pq pn rw rn cap A hz hT hA hcap) (ci := 4) hz.1 (by decide) rfl k_866 k_867 k_869 k_870 k_61 k_871 rfl hu_X2_livingNodes ⟨(Nat.le_of_ble_eq_true rfl), (Nat.le_of_ble_eq_true rfl)⟩ rfl (by first | exact Nat.le_of_ble_eq_true rfl | simp [x_crf, Value.category]) rfl rfl D_X5_livingNearestTo_0.2.1 ⟨(Nat.le_of_ble_eq_true rfl), (Nat.le_of_ble_eq_true rfl)⟩ (fun r_1 S_1 h_1 => ?_)
  obtain ⟨rfl, g, rfl, hsg⟩ := h_1
  rw [← els] at hsg hcap ⊢
  obtain ⟨I1, eI1⟩ : ∃ I1, I1 = x_u2 I rw 1 (nI lst.length) := ⟨_, rfl⟩
  rw [← eI1]
  have hrow : RowOK K N I1 (x_up Q rn g) rw rn cap lst.length := by rw [eI1]; exact (hrw.row g).ok (x_u2_s _ _ _ _) hcap
  have hnq : ∀ q ∈ lst, K q = 3 ∧ I1 q 0 = cv5 (cd q) ∧ cd q < 10000 := fun q hq => by
    obtain ⟨n1, n2, n3⟩ := hN q (hlm q hq)
    refine ⟨n1, ?_, n3⟩
    rw [eI1, x_u2_a _ _ (nodes_ne n1 hrw.1 (by omega))]; exact n2
  refine x_astore_n C (lv' := [_, _, _, _, _, _, _, _, _]) D_X5_livingNearestTo_0.2.2.1 rfl (Nat.le_of_ble_eq_true rfl) (by first | rfl | exact x_ok_q rfl) (by first | exact Or.inr ⟨_, rfl⟩ | exact va_rf_or _ | exact Or.inl rfl) rfl ?_
  refine x_iconst C (v := (-1)) D_X5_livingNearestTo_0.2.2.2.1 (by decide +kernel) ?_
  refine x_istore C (lv' := [_, _, _, _, _, _, _, _, _]) D_X5_livingNearestTo_0.2.2.2.2.1 (Nat.le_of_ble_eq_true rfl) (by first | rfl | exact x_ok_q rfl) rfl ?_
  refine x_iconst C (v := nI 0) D_X5_livingNearestTo_0.2.2.2.2.2.1 (by decide +kernel) ?_
  refine x_istore C (lv' := [_, _, _, _, _, _, _, _, _]) D_X5_livingNearestTo_0.2.2.2.2.2.2.1 (Nat.le_of_ble_eq_true rfl) (by first | rfl | exact x_ok_q rfl) rfl ?_
  refine x_iconst C (v := nI 0) D_X5_livingNearestTo_0.2.2.2.2.2.2.2.1 (by decide +kernel) ?_
  refine x_istore C (lv' := [_, _, _, _, _, _, _, _, _]) D_X5_livingNearestTo_0.2.2.2.2.2.2.2.2.1 (Nat.le_of_ble_eq_true rfl) (by first | rfl | exact x_ok_q rfl) rfl ?_
  have L_14 : ∀ (w_14 : Nat) (i0 : Nat) (v7 v8 : Option Value), lst.length - i0 < w_14 → (i0 ≤ lst.length) → XW pP l eE rm_X5_livingNearestTo sS mM aA bB hH cC G Z 0 0 (K, N, I1, x_up Q rn g, J) 14 [some (.ref t), some (.int (nI x)), some (.int (nI y)), some (.ref rw), some (.int (oI (((lst.take i0).map cd).foldl (nrS x y) (none, 0)).1)), some (.int (nI (((lst.take i0).map cd).foldl (nrS x y) (none, 0)).2)), some (.int (nI i0)), v7, v8] [] := by
    intro w_14
    induction w_14 with
    | zero =>
      intro i0 v7 v8 hw_14
      exact absurd hw_14 (Nat.not_lt_zero _)
    | succ w_14 ih_14 =>
      intro i0 v7 v8 hw_14 hi0
      refine x_iload C D_X5_livingNearestTo_0.2.2.2.2.2.2.2.2.2.1 rfl ?_
      refine x_aload_n C D_X5_livingNearestTo_0.2.2.2.2.2.2.2.2.2.2.1 rfl rfl (by first | exact Or.inr ⟨_, rfl⟩ | exact va_rf_or _ | exact Or.inl rfl) ?_
      refine x_callVi C (y := yX4_length) (c_X4_length l G rw hrw.1) (ci := 3) hrw.1 (by decide) rfl rfl k_651 k_221 k_222 k_63 k_223 hd_X4_length ⟨(Nat.le_of_ble_eq_true rfl), (Nat.le_of_ble_eq_true rfl)⟩ rfl (by first | exact Nat.le_of_ble_eq_true rfl | simp [x_crf, Value.category]) rfl rfl D_X5_livingNearestTo_0.2.2.2.2.2.2.2.2.2.2.2 ⟨(Nat.le_of_ble_eq_true rfl), (Nat.le_of_ble_eq_true rfl)⟩ (fun r_17 S_17 h_17 => ?_)
      obtain ⟨rfl, rfl⟩ := h_17
      refine x_eqi _ hrow.2.2.2.2.2.1 ?_
      refine x_icmp_ge C 98 D_X5_livingNearestTo_1.1 (by decide) (fun c_20 => ?_) (fun c_20 => ?_)
      · skip
        first
        | have d_20 := cv_le c_20 (by omega) (by omega)
        | skip
        obtain rfl : i0 = lst.length := by omega
        refine x_iload C D_X5_livingNearestTo_3.2.2.2.2.2.2.2.2.2.2.1 rfl ?_
        refine ret _ _ _ _ _ _ rfl D_X5_livingNearestTo_3.2.2.2.2.2.2.2.2.2.2.2 (Nat.le_of_ble_eq_true rfl) (Nat.le_of_ble_eq_true rfl) ?_
        exact ⟨by rw [List.take_length, els], g, by rw [eI1, els]⟩
      · skip
        first
        | have d_20 := cv_nle c_20 (by omega) (by omega)
        | skip
        have hil : i0 < lst.length := by omega
        obtain ⟨q, hq⟩ : ∃ q, lst[i0]? = some q := ⟨_, List.getElem?_eq_getElem hil⟩
        obtain ⟨hq3, hq0, hqc⟩ := hnq q (List.mem_of_getElem? hq)
        have hft := foldl_take (x := x) (y := y) (cd := cd) (st := (none, 0)) hq
        obtain ⟨st, est⟩ : ∃ st, st = (((lst.take i0).map cd).foldl (nrS x y) (none, 0)) := ⟨_, rfl⟩
        have hbd := nrS_b hx hy ((lst.take i0).map cd) (none, 0) (fun c hc => by
          obtain ⟨q2, hq2, rfl⟩ := List.mem_map.mp hc
          exact (hnq q2 (List.mem_of_mem_take hq2)).2.2) (fun b hb => by cases hb) (by show 0 < 40000; omega)
        rw [← est] at hft hbd ⊢
        obtain ⟨o, v⟩ := st
        obtain ⟨hb1, hb2⟩ := hbd
        simp only [] at hb1 hb2
        have hff := far_lt hx hy hqc
        refine x_aload_n C D_X5_livingNearestTo_1.2.1 rfl rfl (by first | exact Or.inr ⟨_, rfl⟩ | exact va_rf_or _ | exact Or.inl rfl) ?_
        refine x_iload C D_X5_livingNearestTo_1.2.2.1 rfl ?_
        refine x_callVq C (y := yX4_at) (c_X4_at l G rw rn cap lst.length (nI i0) hrow) (ci := 3) hrw.1 (by decide) rfl rfl k_652 k_273 k_274 k_63 k_275 hd_X4_at ⟨(Nat.le_of_ble_eq_true rfl), (Nat.le_of_ble_eq_true rfl)⟩ rfl (by first | exact Nat.le_of_ble_eq_true rfl | simp [x_crf, Value.category]) rfl rfl D_X5_livingNearestTo_1.2.2.2.1 ⟨(Nat.le_of_ble_eq_true rfl), (Nat.le_of_ble_eq_true rfl)⟩ (fun r_26 S_26 h_26 => ?_)
        obtain ⟨hr, rfl⟩ := h_26
        rw [atv_in _ hil (by omega), x_up_s, ← Nat.zero_add i0, hsg i0 hil, hq] at hr
        subst hr
        refine x_astore C (lv' := [_, _, _, _, _, _, _, _, _]) D_X5_livingNearestTo_1.2.2.2.2.1 (Nat.le_of_ble_eq_true rfl) (by first | rfl | exact x_ok_q rfl) (by first | exact Or.inr ⟨_, rfl⟩ | exact va_rf_or _ | exact Or.inl rfl) rfl ?_
        refine x_aload C D_X5_livingNearestTo_1.2.2.2.2.2.1 rfl (by first | exact Or.inr ⟨_, rfl⟩ | exact va_rf_or _ | exact Or.inl rfl) ?_
        refine x_ifnonnull C 39 D_X5_livingNearestTo_1.2.2.2.2.2.2.1 (by decide) (fun x9 e_33 => ?_) (fun e_33 => ?_)
        · skip
          obtain rfl : q = x9 := Option.some.inj e_33
          refine x_aload C D_X5_livingNearestTo_1.2.2.2.2.2.2.2.2.1 rfl (by first | exact Or.inr ⟨_, rfl⟩ | exact va_rf_or _ | exact Or.inl rfl) ?_
          refine x_getI C (ci := 2) (k0 := 0) hq3 (by decide) rfl (by decide) in_X3 k_610 rfl rfl D_X5_livingNearestTo_1.2.2.2.2.2.2.2.2.2.1 ?_
          refine x_eqi _ hq0 ?_
          refine x_iload_n C D_X5_livingNearestTo_1.2.2.2.2.2.2.2.2.2.2.1 rfl rfl ?_
          refine x_iload_n C D_X5_livingNearestTo_1.2.2.2.2.2.2.2.2.2.2.2 rfl rfl ?_
          refine x_callSi C (y := yX5_squaredDistance) (c_X5_squaredDistance l G (cd q) x y hqc) k_892 k_893 k_66 k_894 hd_X5_squaredDistance ⟨(Nat.le_of_ble_eq_true rfl), (Nat.le_of_ble_eq_true rfl)⟩ rfl (by first | exact Nat.le_of_ble_eq_true rfl | simp [x_crf, Value.category]) rfl rfl D_X5_livingNearestTo_2.1 ⟨(Nat.le_of_ble_eq_true rfl), (Nat.le_of_ble_eq_true rfl)⟩ (fun r_46 S_46 h_46 => ?_)
          obtain ⟨rfl, rfl⟩ := h_46
          refine x_istore C (lv' := [_, _, _, _, _, _, _, _, _]) D_X5_livingNearestTo_2.2.1 (Nat.le_of_ble_eq_true rfl) (by first | rfl | exact x_ok_q rfl) rfl ?_
          refine x_iload C D_X5_livingNearestTo_2.2.2.1 rfl ?_
          refine x_iconst C (v := (-1)) D_X5_livingNearestTo_2.2.2.2.1 (by decide +kernel) ?_
          refine x_icmp_eq C 81 D_X5_livingNearestTo_2.2.2.2.2.1 (by decide) (fun c_54 => ?_) (fun c_54 => ?_)
          · skip
            have ho : o = none := oI_none2 c_54 (fun k hk => by have := hb1 k hk; omega)
            subst ho
            rw [nrS_none] at hft
            refine x_aload C D_X5_livingNearestTo_3.2.2.2.1 rfl (by first | exact Or.inr ⟨_, rfl⟩ | exact va_rf_or _ | exact Or.inl rfl) ?_
            refine x_getI C (ci := 2) (k0 := 0) hq3 (by decide) rfl (by decide) in_X3 k_610 rfl rfl D_X5_livingNearestTo_3.2.2.2.2.1 ?_
            refine x_eqi _ (show I1 q 0 = nI (cd q) from hq0) ?_
            refine x_istore C (lv' := [_, _, _, _, _, _, _, _, _]) D_X5_livingNearestTo_3.2.2.2.2.2.1 (Nat.le_of_ble_eq_true rfl) (by first | rfl | exact x_ok_q rfl) rfl ?_
            refine x_iload C D_X5_livingNearestTo_3.2.2.2.2.2.2.1 rfl ?_
            refine x_istore C (lv' := [_, _, _, _, _, _, _, _, _]) D_X5_livingNearestTo_3.2.2.2.2.2.2.2.1 (Nat.le_of_ble_eq_true rfl) (by first | rfl | exact x_ok_q rfl) rfl ?_
            first
            | refine x_iinc C (lv' := [_, _, _, _, _, _, _, _, _]) D_X5_livingNearestTo_3.2.2.2.2.2.2.2.2.1 rfl (x_incN_1 _) (by first | rfl | exact x_ok_q rfl) rfl ?_
            | refine x_iinc C (lv' := [_, _, _, _, _, _, _, _, _]) D_X5_livingNearestTo_3.2.2.2.2.2.2.2.2.1 rfl (x_inc_1 _) (by first | rfl | exact x_ok_q rfl) rfl ?_
            refine x_goto C 14 D_X5_livingNearestTo_3.2.2.2.2.2.2.2.2.2.1 (by decide) ?_
            refine x_lv (lv := [_, _, _, _, some (.int (oI (((lst.take (i0 + 1)).map cd).foldl (nrS x y) (none, 0)).1)), some (.int (nI (((lst.take (i0 + 1)).map cd).foldl (nrS x y) (none, 0)).2)), _, _, _]) (by rw [hft]; rfl) ?_
            exact ih_14 (i0 + 1) _ _ (by omega) (by omega)
          · skip
            obtain ⟨b0, ho⟩ := oI_some c_54
            subst ho
            have hb0 := hb1 b0 rfl
            refine x_lv (lv := [_, _, _, _, some (.int (nI b0)), some (.int (nI v)), _, _, _]) rfl ?_
            refine x_iload C D_X5_livingNearestTo_2.2.2.2.2.2.1 rfl ?_
            refine x_iload C D_X5_livingNearestTo_2.2.2.2.2.2.2.1 rfl ?_
            refine x_icmp_lt C 81 D_X5_livingNearestTo_2.2.2.2.2.2.2.2.1 (by decide) (fun c_61 => ?_) (fun c_61 => ?_)
            · skip
              first
              | have d_61 := cv_lt c_61 (by omega) (by omega)
              | skip
              rw [nrS_yes (Or.inl d_61)] at hft
              refine x_aload C D_X5_livingNearestTo_3.2.2.2.1 rfl (by first | exact Or.inr ⟨_, rfl⟩ | exact va_rf_or _ | exact Or.inl rfl) ?_
              refine x_getI C (ci := 2) (k0 := 0) hq3 (by decide) rfl (by decide) in_X3 k_610 rfl rfl D_X5_livingNearestTo_3.2.2.2.2.1 ?_
              refine x_eqi _ (show I1 q 0 = nI (cd q) from hq0) ?_
              refine x_istore C (lv' := [_, _, _, _, _, _, _, _, _]) D_X5_livingNearestTo_3.2.2.2.2.2.1 (Nat.le_of_ble_eq_true rfl) (by first | rfl | exact x_ok_q rfl) rfl ?_
              refine x_iload C D_X5_livingNearestTo_3.2.2.2.2.2.2.1 rfl ?_
              refine x_istore C (lv' := [_, _, _, _, _, _, _, _, _]) D_X5_livingNearestTo_3.2.2.2.2.2.2.2.1 (Nat.le_of_ble_eq_true rfl) (by first | rfl | exact x_ok_q rfl) rfl ?_
              first
              | refine x_iinc C (lv' := [_, _, _, _, _, _, _, _, _]) D_X5_livingNearestTo_3.2.2.2.2.2.2.2.2.1 rfl (x_incN_1 _) (by first | rfl | exact x_ok_q rfl) rfl ?_
              | refine x_iinc C (lv' := [_, _, _, _, _, _, _, _, _]) D_X5_livingNearestTo_3.2.2.2.2.2.2.2.2.1 rfl (x_inc_1 _) (by first | rfl | exact x_ok_q rfl) rfl ?_
              refine x_goto C 14 D_X5_livingNearestTo_3.2.2.2.2.2.2.2.2.2.1 (by decide) ?_
              refine x_lv (lv := [_, _, _, _, some (.int (oI (((lst.take (i0 + 1)).map cd).foldl (nrS x y) (none, 0)).1)), some (.int (nI (((lst.take (i0 + 1)).map cd).foldl (nrS x y) (none, 0)).2)), _, _, _]) (by rw [hft]; rfl) ?_
              exact ih_14 (i0 + 1) _ _ (by omega) (by omega)
            · skip
              first
              | have d_61 := cv_nlt c_61 (by omega) (by omega)
              | skip
              refine x_iload C D_X5_livingNearestTo_2.2.2.2.2.2.2.2.2.1 rfl ?_
              refine x_iload C D_X5_livingNearestTo_2.2.2.2.2.2.2.2.2.2.1 rfl ?_
              refine x_icmp_ne C 92 D_X5_livingNearestTo_2.2.2.2.2.2.2.2.2.2.2.1 (by decide) (fun c_68 => ?_) (fun c_68 => ?_)
              · skip
                first
                | have d_68 := cv_ne c_68 (by omega) (by omega)
                | skip
                rw [nrS_no (fun z => by omega)] at hft
                first
                | refine x_iinc C (lv' := [_, _, _, _, _, _, _, _, _]) D_X5_livingNearestTo_3.2.2.2.2.2.2.2.2.1 rfl (x_incN_1 _) (by first | rfl | exact x_ok_q rfl) rfl ?_
                | refine x_iinc C (lv' := [_, _, _, _, _, _, _, _, _]) D_X5_livingNearestTo_3.2.2.2.2.2.2.2.2.1 rfl (x_inc_1 _) (by first | rfl | exact x_ok_q rfl) rfl ?_
                refine x_goto C 14 D_X5_livingNearestTo_3.2.2.2.2.2.2.2.2.2.1 (by decide) ?_
                refine x_lv (lv := [_, _, _, _, some (.int (oI (((lst.take (i0 + 1)).map cd).foldl (nrS x y) (none, 0)).1)), some (.int (nI (((lst.take (i0 + 1)).map cd).foldl (nrS x y) (none, 0)).2)), _, _, _]) (by rw [hft]; rfl) ?_
                exact ih_14 (i0 + 1) _ _ (by omega) (by omega)
              · skip
                first
                | have d_68 := cv_eq c_68 (by omega) (by omega)
                | skip
                refine x_aload C D_X5_livingNearestTo_2.2.2.2.2.2.2.2.2.2.2.2 rfl (by first | exact Or.inr ⟨_, rfl⟩ | exact va_rf_or _ | exact Or.inl rfl) ?_
                refine x_getI C (ci := 2) (k0 := 0) hq3 (by decide) rfl (by decide) in_X3 k_610 rfl rfl D_X5_livingNearestTo_3.1 ?_
                refine x_eqi _ (show I1 q 0 = nI (cd q) from hq0) ?_
                refine x_iload C D_X5_livingNearestTo_3.2.1 rfl ?_
                refine x_icmp_ge C 92 D_X5_livingNearestTo_3.2.2.1 (by decide) (fun c_78 => ?_) (fun c_78 => ?_)
                · skip
                  first
                  | have d_78 := cv_le c_78 (by omega) (by omega)
                  | skip
                  rw [nrS_no (fun z => by omega)] at hft
                  first
                  | refine x_iinc C (lv' := [_, _, _, _, _, _, _, _, _]) D_X5_livingNearestTo_3.2.2.2.2.2.2.2.2.1 rfl (x_incN_1 _) (by first | rfl | exact x_ok_q rfl) rfl ?_
                  | refine x_iinc C (lv' := [_, _, _, _, _, _, _, _, _]) D_X5_livingNearestTo_3.2.2.2.2.2.2.2.2.1 rfl (x_inc_1 _) (by first | rfl | exact x_ok_q rfl) rfl ?_
                  refine x_goto C 14 D_X5_livingNearestTo_3.2.2.2.2.2.2.2.2.2.1 (by decide) ?_
                  refine x_lv (lv := [_, _, _, _, some (.int (oI (((lst.take (i0 + 1)).map cd).foldl (nrS x y) (none, 0)).1)), some (.int (nI (((lst.take (i0 + 1)).map cd).foldl (nrS x y) (none, 0)).2)), _, _, _]) (by rw [hft]; rfl) ?_
                  exact ih_14 (i0 + 1) _ _ (by omega) (by omega)
                · skip
                  first
                  | have d_78 := cv_nle c_78 (by omega) (by omega)
                  | skip
                  rw [nrS_yes (Or.inr ⟨d_68, d_78⟩)] at hft
                  refine x_aload C D_X5_livingNearestTo_3.2.2.2.1 rfl (by first | exact Or.inr ⟨_, rfl⟩ | exact va_rf_or _ | exact Or.inl rfl) ?_
                  refine x_getI C (ci := 2) (k0 := 0) hq3 (by decide) rfl (by decide) in_X3 k_610 rfl rfl D_X5_livingNearestTo_3.2.2.2.2.1 ?_
                  refine x_eqi _ (show I1 q 0 = nI (cd q) from hq0) ?_
                  refine x_istore C (lv' := [_, _, _, _, _, _, _, _, _]) D_X5_livingNearestTo_3.2.2.2.2.2.1 (Nat.le_of_ble_eq_true rfl) (by first | rfl | exact x_ok_q rfl) rfl ?_
                  refine x_iload C D_X5_livingNearestTo_3.2.2.2.2.2.2.1 rfl ?_
                  refine x_istore C (lv' := [_, _, _, _, _, _, _, _, _]) D_X5_livingNearestTo_3.2.2.2.2.2.2.2.1 (Nat.le_of_ble_eq_true rfl) (by first | rfl | exact x_ok_q rfl) rfl ?_
                  first
                  | refine x_iinc C (lv' := [_, _, _, _, _, _, _, _, _]) D_X5_livingNearestTo_3.2.2.2.2.2.2.2.2.1 rfl (x_incN_1 _) (by first | rfl | exact x_ok_q rfl) rfl ?_
                  | refine x_iinc C (lv' := [_, _, _, _, _, _, _, _, _]) D_X5_livingNearestTo_3.2.2.2.2.2.2.2.2.1 rfl (x_inc_1 _) (by first | rfl | exact x_ok_q rfl) rfl ?_
                  refine x_goto C 14 D_X5_livingNearestTo_3.2.2.2.2.2.2.2.2.2.1 (by decide) ?_
                  refine x_lv (lv := [_, _, _, _, some (.int (oI (((lst.take (i0 + 1)).map cd).foldl (nrS x y) (none, 0)).1)), some (.int (nI (((lst.take (i0 + 1)).map cd).foldl (nrS x y) (none, 0)).2)), _, _, _]) (by rw [hft]; rfl) ?_
                  exact ih_14 (i0 + 1) _ _ (by omega) (by omega)
        · skip
          exact absurd e_33 (by simp)
          --end
  exact L_14 _ 0 _ _ (Nat.lt_succ_self _) (Nat.zero_le _)
abbrev rm_X8_isPlace : Room := { frames := 0, cells := 0, slots := 0, locals := 0 }
set_option maxHeartbeats 4000000 in
set_option maxRecDepth 100000 in
theorem c_X8_isPlace (l : Launch) (G : xG) {K N : Nat → Nat} {I : Nat → Nat → Int32} {Q : Nat → Nat → Option Nat} {J : Nat → Nat → Int64} (x y : Int32)  : XM l yX8_isPlace cX8_isPlace 2 (some .boolean) rm_X8_isPlace G Rz [.int x, .int y] (K, N, I, Q, J) (fun r S1 => r = decide (¬ (x < 0 ∨ nI 99 < x ∨ y < 0 ∨ nI 99 < y)) ∧ S1 = (K, N, I, Q, J)) := by
  refine x_metz (lv := [_, _]) (by decide +kernel) (x_cc (by first | rfl | exact x_crf _) (x_cc (by first | rfl | exact x_crf _) x_cn)) (Nat.le_of_ble_eq_true rfl) rfl ?_
  intro pP eE sS mM aA bB hH cC Z C hini ret
  have e99 : (nI 99).toInt = 99 := by decide
  have e100 : (nI 100).toInt = 100 := by decide
  refine x_iload_n C D_X8_isPlace_0.1 rfl rfl ?_
  refine x_if_lt C 24 D_X8_isPlace_0.2.1 (by decide) (fun c_1 => ?_) (fun c_1 => ?_)
  · skip
    refine x_iconst C (v := nI 0) D_X8_isPlace_1.1 (by decide +kernel) ?_
    refine ret _ _ _ _ _ _ false rfl D_X8_isPlace_1.2 (Nat.le_of_ble_eq_true rfl) (Nat.le_of_ble_eq_true rfl) rfl ?_
    exact ⟨by rw [eq_comm, decide_eq_false_iff_not]; exact fun z => z (Or.inl c_1), rfl⟩
  · skip
    refine x_iload_n C D_X8_isPlace_0.2.2.1 rfl rfl ?_
    refine x_bipush C (v := nI 100) D_X8_isPlace_0.2.2.2.1 (by decide +kernel) ?_
    refine x_icmp_ge C 24 D_X8_isPlace_0.2.2.2.2.1 (by decide) (fun c_7 => ?_) (fun c_7 => ?_)
    · skip
      refine x_iconst C (v := nI 0) D_X8_isPlace_1.1 (by decide +kernel) ?_
      refine ret _ _ _ _ _ _ false rfl D_X8_isPlace_1.2 (Nat.le_of_ble_eq_true rfl) (Nat.le_of_ble_eq_true rfl) rfl ?_
      exact ⟨by rw [eq_comm, decide_eq_false_iff_not]; exact fun z => z (Or.inr (Or.inl (by rw [i32_le] at c_7; rw [i32_lt]; omega))), rfl⟩
    · skip
      refine x_iload_n C D_X8_isPlace_0.2.2.2.2.2.1 rfl rfl ?_
      refine x_if_lt C 24 D_X8_isPlace_0.2.2.2.2.2.2.1 (by decide) (fun c_11 => ?_) (fun c_11 => ?_)
      · skip
        refine x_iconst C (v := nI 0) D_X8_isPlace_1.1 (by decide +kernel) ?_
        refine ret _ _ _ _ _ _ false rfl D_X8_isPlace_1.2 (Nat.le_of_ble_eq_true rfl) (Nat.le_of_ble_eq_true rfl) rfl ?_
        exact ⟨by rw [eq_comm, decide_eq_false_iff_not]; exact fun z => z (Or.inr (Or.inr (Or.inl c_11))), rfl⟩
      · skip
        refine x_iload_n C D_X8_isPlace_0.2.2.2.2.2.2.2.1 rfl rfl ?_
        refine x_bipush C (v := nI 100) D_X8_isPlace_0.2.2.2.2.2.2.2.2.1 (by decide +kernel) ?_
        refine x_icmp_ge C 24 D_X8_isPlace_0.2.2.2.2.2.2.2.2.2.1 (by decide) (fun c_17 => ?_) (fun c_17 => ?_)
        · skip
          refine x_iconst C (v := nI 0) D_X8_isPlace_1.1 (by decide +kernel) ?_
          refine ret _ _ _ _ _ _ false rfl D_X8_isPlace_1.2 (Nat.le_of_ble_eq_true rfl) (Nat.le_of_ble_eq_true rfl) rfl ?_
          exact ⟨by rw [eq_comm, decide_eq_false_iff_not]; exact fun z => z (Or.inr (Or.inr (Or.inr (by rw [i32_le] at c_17; rw [i32_lt]; omega)))), rfl⟩
        · skip
          refine x_iconst C (v := nI 1) D_X8_isPlace_0.2.2.2.2.2.2.2.2.2.2.1 (by decide +kernel) ?_
          refine x_goto C 25 D_X8_isPlace_0.2.2.2.2.2.2.2.2.2.2.2 (by decide) ?_
          refine ret _ _ _ _ _ _ true rfl D_X8_isPlace_1.2 (Nat.le_of_ble_eq_true rfl) (Nat.le_of_ble_eq_true rfl) rfl ?_
          refine ⟨?_, rfl⟩
          rw [eq_comm, decide_eq_true_iff]
          rw [i32_le] at c_7 c_17
          intro z
          rcases z with h | h | h | h
          · exact c_1 h
          · rw [i32_lt] at h; omega
          · exact c_11 h
          · rw [i32_lt] at h; omega
