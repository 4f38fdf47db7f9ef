theorem D_X9_points_0 : decode cX9_points 0 = .ok (.aload_n 0, 1) ∧ decode cX9_points 1 = .ok (.iconst 0, 1) ∧ decode cX9_points 2 = .ok (.putfield 44, 3) ∧ decode cX9_points 5 = .ok (.aload_n 0, 1) ∧ decode cX9_points 6 = .ok (.invokevirtual 175, 3) ∧ decode cX9_points 9 = .ok (.ireturn, 1) := by decide +kernel
theorem D_X9_pointNodes_0 : decode cX9_pointNodes 0 = .ok (.aload_n 0, 1) ∧ decode cX9_pointNodes 1 = .ok (.iconst 0, 1) ∧ decode cX9_pointNodes 2 = .ok (.putfield 44, 3) ∧ decode cX9_pointNodes 5 = .ok (.aload_n 0, 1) ∧ decode cX9_pointNodes 6 = .ok (.getfield 149, 3) ∧ decode cX9_pointNodes 9 = .ok (.ireturn, 1) := by decide +kernel
theorem D_X9_pointDepth_0 : decode cX9_pointDepth 0 = .ok (.aload_n 0, 1) ∧ decode cX9_pointDepth 1 = .ok (.iload_n 1, 1) ∧ decode cX9_pointDepth 2 = .ok (.iload_n 2, 1) ∧ decode cX9_pointDepth 3 = .ok (.invokevirtual 171, 3) ∧ decode cX9_pointDepth 6 = .ok (.istore_n 3, 1) ∧ decode cX9_pointDepth 7 = .ok (.aload_n 0, 1) ∧ decode cX9_pointDepth 8 = .ok (.iload_n 3, 1) ∧ decode cX9_pointDepth 9 = .ok (.iconst (-1), 1) ∧ decode cX9_pointDepth 10 = .ok (.if_icmp .ne 7, 3) ∧ decode cX9_pointDepth 13 = .ok (.iconst 1, 1) ∧ decode cX9_pointDepth 14 = .ok (.goto 4, 3) ∧ decode cX9_pointDepth 17 = .ok (.iconst 0, 1) := by decide +kernel
theorem D_X9_pointDepth_1 : decode cX9_pointDepth 18 = .ok (.invokevirtual 117, 3) ∧ decode cX9_pointDepth 21 = .ok (.ifCond .eq 15, 3) ∧ decode cX9_pointDepth 24 = .ok (.aload_n 0, 1) ∧ decode cX9_pointDepth 25 = .ok (.getfield 35, 3) ∧ decode cX9_pointDepth 28 = .ok (.iload_n 3, 1) ∧ decode cX9_pointDepth 29 = .ok (.iaload, 1) ∧ decode cX9_pointDepth 30 = .ok (.invokestatic 48, 3) ∧ decode cX9_pointDepth 33 = .ok (.goto 4, 3) ∧ decode cX9_pointDepth 36 = .ok (.iconst 0, 1) ∧ decode cX9_pointDepth 37 = .ok (.ireturn, 1) := by decide +kernel
theorem D_X9_pointHeight_0 : decode cX9_pointHeight 0 = .ok (.aload_n 0, 1) ∧ decode cX9_pointHeight 1 = .ok (.iconst 0, 1) ∧ decode cX9_pointHeight 2 = .ok (.putfield 44, 3) ∧ decode cX9_pointHeight 5 = .ok (.aload_n 0, 1) ∧ decode cX9_pointHeight 6 = .ok (.getfield 35, 3) ∧ decode cX9_pointHeight 9 = .ok (.aload_n 0, 1) ∧ decode cX9_pointHeight 10 = .ok (.getfield 149, 3) ∧ decode cX9_pointHeight 13 = .ok (.invokestatic 143, 3) ∧ decode cX9_pointHeight 16 = .ok (.ireturn, 1) := by decide +kernel
theorem D_X9_countIn_0 : decode cX9_countIn 0 = .ok (.aload_n 0, 1) ∧ decode cX9_countIn 1 = .ok (.iload_n 1, 1) ∧ decode cX9_countIn 2 = .ok (.ifCond .lt 31, 3) ∧ decode cX9_countIn 5 = .ok (.iload_n 3, 1) ∧ decode cX9_countIn 6 = .ok (.iload_n 1, 1) ∧ decode cX9_countIn 7 = .ok (.if_icmp .lt 26, 3) ∧ decode cX9_countIn 10 = .ok (.iload_n 3, 1) ∧ decode cX9_countIn 11 = .ok (.bipush 99, 2) ∧ decode cX9_countIn 13 = .ok (.if_icmp .gt 20, 3) ∧ decode cX9_countIn 16 = .ok (.iload_n 2, 1) ∧ decode cX9_countIn 17 = .ok (.ifCond .lt 16, 3) ∧ decode cX9_countIn 20 = .ok (.iload 4, 2) := by decide +kernel
theorem D_X9_countIn_1 : decode cX9_countIn 22 = .ok (.iload_n 2, 1) ∧ decode cX9_countIn 23 = .ok (.if_icmp .lt 10, 3) ∧ decode cX9_countIn 26 = .ok (.iload 4, 2) ∧ decode cX9_countIn 28 = .ok (.bipush 99, 2) ∧ decode cX9_countIn 30 = .ok (.if_icmp .le 7, 3) ∧ decode cX9_countIn 33 = .ok (.iconst 1, 1) ∧ decode cX9_countIn 34 = .ok (.goto 4, 3) ∧ decode cX9_countIn 37 = .ok (.iconst 0, 1) ∧ decode cX9_countIn 38 = .ok (.invokevirtual 117, 3) ∧ decode cX9_countIn 41 = .ok (.ifCond .ne 5, 3) ∧ decode cX9_countIn 44 = .ok (.iconst 0, 1) ∧ decode cX9_countIn 45 = .ok (.ireturn, 1) := by decide +kernel
theorem D_X9_countIn_2 : decode cX9_countIn 46 = .ok (.iconst 0, 1) ∧ decode cX9_countIn 47 = .ok (.istore 5, 2) ∧ decode cX9_countIn 49 = .ok (.iconst 0, 1) ∧ decode cX9_countIn 50 = .ok (.istore 6, 2) ∧ decode cX9_countIn 52 = .ok (.iload 6, 2) ∧ decode cX9_countIn 54 = .ok (.aload_n 0, 1) ∧ decode cX9_countIn 55 = .ok (.getfield 149, 3) ∧ decode cX9_countIn 58 = .ok (.if_icmp .ge 74, 3) ∧ decode cX9_countIn 61 = .ok (.iload 5, 2) ∧ decode cX9_countIn 63 = .ok (.aload_n 0, 1) ∧ decode cX9_countIn 64 = .ok (.getfield 32, 3) ∧ decode cX9_countIn 67 = .ok (.iload 6, 2) := by decide +kernel
theorem D_X9_countIn_3 : decode cX9_countIn 69 = .ok (.baload, 1) ∧ decode cX9_countIn 70 = .ok (.ifCond .eq 52, 3) ∧ decode cX9_countIn 73 = .ok (.aload_n 0, 1) ∧ decode cX9_countIn 74 = .ok (.getfield 26, 3) ∧ decode cX9_countIn 77 = .ok (.iload 6, 2) ∧ decode cX9_countIn 79 = .ok (.iaload, 1) ∧ decode cX9_countIn 80 = .ok (.iload_n 1, 1) ∧ decode cX9_countIn 81 = .ok (.if_icmp .lt 41, 3) ∧ decode cX9_countIn 84 = .ok (.aload_n 0, 1) ∧ decode cX9_countIn 85 = .ok (.getfield 26, 3) ∧ decode cX9_countIn 88 = .ok (.iload 6, 2) ∧ decode cX9_countIn 90 = .ok (.iaload, 1) := by decide +kernel
theorem D_X9_countIn_4 : decode cX9_countIn 91 = .ok (.iload_n 3, 1) ∧ decode cX9_countIn 92 = .ok (.if_icmp .gt 30, 3) ∧ decode cX9_countIn 95 = .ok (.aload_n 0, 1) ∧ decode cX9_countIn 96 = .ok (.getfield 29, 3) ∧ decode cX9_countIn 99 = .ok (.iload 6, 2) ∧ decode cX9_countIn 101 = .ok (.iaload, 1) ∧ decode cX9_countIn 102 = .ok (.iload_n 2, 1) ∧ decode cX9_countIn 103 = .ok (.if_icmp .lt 19, 3) ∧ decode cX9_countIn 106 = .ok (.aload_n 0, 1) ∧ decode cX9_countIn 107 = .ok (.getfield 29, 3) ∧ decode cX9_countIn 110 = .ok (.iload 6, 2) ∧ decode cX9_countIn 112 = .ok (.iaload, 1) := by decide +kernel
theorem D_X9_countIn_5 : decode cX9_countIn 113 = .ok (.iload 4, 2) ∧ decode cX9_countIn 115 = .ok (.if_icmp .gt 7, 3) ∧ decode cX9_countIn 118 = .ok (.iconst 1, 1) ∧ decode cX9_countIn 119 = .ok (.goto 4, 3) ∧ decode cX9_countIn 122 = .ok (.iconst 0, 1) ∧ decode cX9_countIn 123 = .ok (.iadd, 1) ∧ decode cX9_countIn 124 = .ok (.istore 5, 2) ∧ decode cX9_countIn 126 = .ok (.iinc 6 1, 3) ∧ decode cX9_countIn 129 = .ok (.goto (-77), 3) ∧ decode cX9_countIn 132 = .ok (.iload 5, 2) ∧ decode cX9_countIn 134 = .ok (.ireturn, 1) := by decide +kernel
theorem D_X9_nearest_0 : decode cX9_nearest 0 = .ok (.aload_n 0, 1) ∧ decode cX9_nearest 1 = .ok (.iload_n 1, 1) ∧ decode cX9_nearest 2 = .ok (.ifCond .lt 19, 3) ∧ decode cX9_nearest 5 = .ok (.iload_n 1, 1) ∧ decode cX9_nearest 6 = .ok (.bipush 99, 2) ∧ decode cX9_nearest 8 = .ok (.if_icmp .gt 13, 3) ∧ decode cX9_nearest 11 = .ok (.iload_n 2, 1) ∧ decode cX9_nearest 12 = .ok (.ifCond .lt 9, 3) ∧ decode cX9_nearest 15 = .ok (.iload_n 2, 1) ∧ decode cX9_nearest 16 = .ok (.bipush 99, 2) ∧ decode cX9_nearest 18 = .ok (.if_icmp .le 7, 3) ∧ decode cX9_nearest 21 = .ok (.iconst 1, 1) := by decide +kernel
theorem D_X9_nearest_1 : decode cX9_nearest 22 = .ok (.goto 15, 3) ∧ decode cX9_nearest 25 = .ok (.aload_n 0, 1) ∧ decode cX9_nearest 26 = .ok (.invokevirtual 175, 3) ∧ decode cX9_nearest 29 = .ok (.ifCond .ne 7, 3) ∧ decode cX9_nearest 32 = .ok (.iconst 2, 1) ∧ decode cX9_nearest 33 = .ok (.goto 4, 3) ∧ decode cX9_nearest 36 = .ok (.iconst 0, 1) ∧ decode cX9_nearest 37 = .ok (.invokevirtual 117, 3) ∧ decode cX9_nearest 40 = .ok (.ifCond .ne 5, 3) ∧ decode cX9_nearest 43 = .ok (.iconst 0, 1) ∧ decode cX9_nearest 44 = .ok (.ireturn, 1) ∧ decode cX9_nearest 45 = .ok (.iconst 0, 1) := by decide +kernel
theorem D_X9_nearest_2 : decode cX9_nearest 46 = .ok (.istore_n 3, 1) ∧ decode cX9_nearest 47 = .ok (.ldc 181, 2) ∧ decode cX9_nearest 49 = .ok (.istore 4, 2) ∧ decode cX9_nearest 51 = .ok (.iconst 0, 1) ∧ decode cX9_nearest 52 = .ok (.istore 5, 2) ∧ decode cX9_nearest 54 = .ok (.iload 5, 2) ∧ decode cX9_nearest 56 = .ok (.aload_n 0, 1) ∧ decode cX9_nearest 57 = .ok (.getfield 149, 3) ∧ decode cX9_nearest 60 = .ok (.if_icmp .ge 107, 3) ∧ decode cX9_nearest 63 = .ok (.aload_n 0, 1) ∧ decode cX9_nearest 64 = .ok (.getfield 26, 3) ∧ decode cX9_nearest 67 = .ok (.iload 5, 2) := by decide +kernel
theorem D_X9_nearest_3 : decode cX9_nearest 69 = .ok (.iaload, 1) ∧ decode cX9_nearest 70 = .ok (.iload_n 1, 1) ∧ decode cX9_nearest 71 = .ok (.isub, 1) ∧ decode cX9_nearest 72 = .ok (.aload_n 0, 1) ∧ decode cX9_nearest 73 = .ok (.getfield 26, 3) ∧ decode cX9_nearest 76 = .ok (.iload 5, 2) ∧ decode cX9_nearest 78 = .ok (.iaload, 1) ∧ decode cX9_nearest 79 = .ok (.iload_n 1, 1) ∧ decode cX9_nearest 80 = .ok (.isub, 1) ∧ decode cX9_nearest 81 = .ok (.imul, 1) ∧ decode cX9_nearest 82 = .ok (.aload_n 0, 1) ∧ decode cX9_nearest 83 = .ok (.getfield 29, 3) := by decide +kernel
theorem D_X9_nearest_4 : decode cX9_nearest 86 = .ok (.iload 5, 2) ∧ decode cX9_nearest 88 = .ok (.iaload, 1) ∧ decode cX9_nearest 89 = .ok (.iload_n 2, 1) ∧ decode cX9_nearest 90 = .ok (.isub, 1) ∧ decode cX9_nearest 91 = .ok (.aload_n 0, 1) ∧ decode cX9_nearest 92 = .ok (.getfield 29, 3) ∧ decode cX9_nearest 95 = .ok (.iload 5, 2) ∧ decode cX9_nearest 97 = .ok (.iaload, 1) ∧ decode cX9_nearest 98 = .ok (.iload_n 2, 1) ∧ decode cX9_nearest 99 = .ok (.isub, 1) ∧ decode cX9_nearest 100 = .ok (.imul, 1) ∧ decode cX9_nearest 101 = .ok (.iadd, 1) := by decide +kernel
theorem D_X9_nearest_5 : decode cX9_nearest 102 = .ok (.istore 6, 2) ∧ decode cX9_nearest 104 = .ok (.bipush 100, 2) ∧ decode cX9_nearest 106 = .ok (.aload_n 0, 1) ∧ decode cX9_nearest 107 = .ok (.getfield 26, 3) ∧ decode cX9_nearest 110 = .ok (.iload 5, 2) ∧ decode cX9_nearest 112 = .ok (.iaload, 1) ∧ decode cX9_nearest 113 = .ok (.imul, 1) ∧ decode cX9_nearest 114 = .ok (.aload_n 0, 1) ∧ decode cX9_nearest 115 = .ok (.getfield 29, 3) ∧ decode cX9_nearest 118 = .ok (.iload 5, 2) ∧ decode cX9_nearest 120 = .ok (.iaload, 1) ∧ decode cX9_nearest 121 = .ok (.iadd, 1) := by decide +kernel
theorem D_X9_nearest_6 : decode cX9_nearest 122 = .ok (.istore 7, 2) ∧ decode cX9_nearest 124 = .ok (.aload_n 0, 1) ∧ decode cX9_nearest 125 = .ok (.getfield 32, 3) ∧ decode cX9_nearest 128 = .ok (.iload 5, 2) ∧ decode cX9_nearest 130 = .ok (.baload, 1) ∧ decode cX9_nearest 131 = .ok (.ifCond .eq 30, 3) ∧ decode cX9_nearest 134 = .ok (.iload 6, 2) ∧ decode cX9_nearest 136 = .ok (.iload 4, 2) ∧ decode cX9_nearest 138 = .ok (.if_icmp .lt 16, 3) ∧ decode cX9_nearest 141 = .ok (.iload 6, 2) ∧ decode cX9_nearest 143 = .ok (.iload 4, 2) ∧ decode cX9_nearest 145 = .ok (.if_icmp .ne 16, 3) := by decide +kernel
theorem D_X9_nearest_7 : decode cX9_nearest 148 = .ok (.iload 7, 2) ∧ decode cX9_nearest 150 = .ok (.iload_n 3, 1) ∧ decode cX9_nearest 151 = .ok (.if_icmp .ge 10, 3) ∧ decode cX9_nearest 154 = .ok (.iload 7, 2) ∧ decode cX9_nearest 156 = .ok (.istore_n 3, 1) ∧ decode cX9_nearest 157 = .ok (.iload 6, 2) ∧ decode cX9_nearest 159 = .ok (.istore 4, 2) ∧ decode cX9_nearest 161 = .ok (.iinc 5 1, 3) ∧ decode cX9_nearest 164 = .ok (.goto (-110), 3) ∧ decode cX9_nearest 167 = .ok (.iload_n 3, 1) ∧ decode cX9_nearest 168 = .ok (.ireturn, 1) := by decide +kernel
theorem D_X9_pointsRebuilt_0 : decode cX9_pointsRebuilt 0 = .ok (.aload_n 0, 1) ∧ decode cX9_pointsRebuilt 1 = .ok (.iconst 0, 1) ∧ decode cX9_pointsRebuilt 2 = .ok (.putfield 44, 3) ∧ decode cX9_pointsRebuilt 5 = .ok (.aload_n 0, 1) ∧ decode cX9_pointsRebuilt 6 = .ok (.getfield 165, 3) ∧ decode cX9_pointsRebuilt 9 = .ok (.ireturn, 1) := by decide +kernel
theorem D_X9_init_0 : decode cX9_init 0 = .ok (.aload_n 0, 1) ∧ decode cX9_init 1 = .ok (.invokespecial 1, 3) ∧ decode cX9_init 4 = .ok (.aload_n 0, 1) ∧ decode cX9_init 5 = .ok (.sipush 202, 3) ∧ decode cX9_init 8 = .ok (.newarray .int, 2) ∧ decode cX9_init 10 = .ok (.putfield 7, 3) ∧ decode cX9_init 13 = .ok (.aload_n 0, 1) ∧ decode cX9_init 14 = .ok (.sipush 202, 3) ∧ decode cX9_init 17 = .ok (.newarray .boolean, 2) ∧ decode cX9_init 19 = .ok (.putfield 13, 3) ∧ decode cX9_init 22 = .ok (.aload_n 0, 1) ∧ decode cX9_init 23 = .ok (.sipush 202, 3) := by decide +kernel
theorem D_X9_init_1 : decode cX9_init 26 = .ok (.newarray .int, 2) ∧ decode cX9_init 28 = .ok (.putfield 17, 3) ∧ decode cX9_init 31 = .ok (.aload_n 0, 1) ∧ decode cX9_init 32 = .ok (.sipush 202, 3) ∧ decode cX9_init 35 = .ok (.newarray .int, 2) ∧ decode cX9_init 37 = .ok (.putfield 20, 3) ∧ decode cX9_init 40 = .ok (.aload_n 0, 1) ∧ decode cX9_init 41 = .ok (.sipush 202, 3) ∧ decode cX9_init 44 = .ok (.newarray .int, 2) ∧ decode cX9_init 46 = .ok (.putfield 23, 3) ∧ decode cX9_init 49 = .ok (.aload_n 0, 1) ∧ decode cX9_init 50 = .ok (.bipush 122, 2) := by decide +kernel
theorem D_X9_init_2 : decode cX9_init 52 = .ok (.newarray .int, 2) ∧ decode cX9_init 54 = .ok (.putfield 26, 3) ∧ decode cX9_init 57 = .ok (.aload_n 0, 1) ∧ decode cX9_init 58 = .ok (.bipush 122, 2) ∧ decode cX9_init 60 = .ok (.newarray .int, 2) ∧ decode cX9_init 62 = .ok (.putfield 29, 3) ∧ decode cX9_init 65 = .ok (.aload_n 0, 1) ∧ decode cX9_init 66 = .ok (.bipush 122, 2) ∧ decode cX9_init 68 = .ok (.newarray .boolean, 2) ∧ decode cX9_init 70 = .ok (.putfield 32, 3) ∧ decode cX9_init 73 = .ok (.aload_n 0, 1) ∧ decode cX9_init 74 = .ok (.bipush 122, 2) := by decide +kernel
theorem D_X9_init_3 : decode cX9_init 76 = .ok (.newarray .int, 2) ∧ decode cX9_init 78 = .ok (.putfield 35, 3) ∧ decode cX9_init 81 = .ok (.aload_n 0, 1) ∧ decode cX9_init 82 = .ok (.bipush 122, 2) ∧ decode cX9_init 84 = .ok (.newarray .boolean, 2) ∧ decode cX9_init 86 = .ok (.putfield 38, 3) ∧ decode cX9_init 89 = .ok (.aload_n 0, 1) ∧ decode cX9_init 90 = .ok (.bipush 122, 2) ∧ decode cX9_init 92 = .ok (.newarray .int, 2) ∧ decode cX9_init 94 = .ok (.putfield 41, 3) ∧ decode cX9_init 97 = .ok (.return_, 1) := by decide +kernel
abbrev rm_X9_pointNodes : Room := { frames := 0, cells := 0, slots := 0, locals := 0 }
set_option maxHeartbeats 4000000 in
set_option maxRecDepth 100000 in
theorem c_X9_pointNodes (l : Launch) (G : xG) {K N : Nat → Nat} {I : Nat → Nat → Int32} {Q : Nat → Nat → Option Nat} {J : Nat → Nat → Int64} (m : Nat) (h : K m = 9) : XM l yX9_pointNodes cX9_pointNodes 1 (some .int) rm_X9_pointNodes G Ri [.ref m] (K, N, I, Q, J) (fun r S1 => r = I m 10 ∧ S1 = (K, N, x_u2 I m 18 (nI 0), Q, J)) := by
  refine x_meti (lv := [_]) (by decide +kernel) (x_cc (by first | rfl | exact x_crf _) x_cn) (Nat.le_of_ble_eq_true rfl) rfl ?_
  intro pP eE sS mM aA bB hH cC Z C hini ret
  refine x_aload_n C D_X9_pointNodes_0.1 rfl rfl (by first | exact Or.inr ⟨_, rfl⟩ | exact va_rf_or _ | exact Or.inl rfl) ?_
  refine x_iconst C (v := nI 0) D_X9_pointNodes_0.2.1 (by decide +kernel) ?_
  refine x_putI C (ci := 8) (k0 := 18) (by assumption) (by decide) rfl (by decide) in_X9 k_920 rfl tyX9 tyX9_ok nmX9 rfl (by rfl) rfl rfl rfl D_X9_pointNodes_0.2.2.1 (fun I2 eI2 => ?_)
  refine x_aload_n C D_X9_pointNodes_0.2.2.2.1 rfl rfl (by first | exact Or.inr ⟨_, rfl⟩ | exact va_rf_or _ | exact Or.inl rfl) ?_
  refine x_getI C (ci := 8) (k0 := 10) (by assumption) (by decide) rfl (by decide) in_X9 k_912 rfl rfl D_X9_pointNodes_0.2.2.2.2.1 ?_
  refine x_eqi _ (show I2 m 10 = I m 10 by rw [eI2, x_u2_j _ _ (by omega)]) ?_
  refine ret _ _ _ _ _ _ rfl D_X9_pointNodes_0.2.2.2.2.2 (Nat.le_of_ble_eq_true rfl) (Nat.le_of_ble_eq_true rfl) ?_
  exact ⟨rfl, by rw [eI2]⟩
abbrev rm_X9_pointsRebuilt : Room := { frames := 0, cells := 0, slots := 0, locals := 0 }
set_option maxHeartbeats 4000000 in
set_option maxRecDepth 100000 in
theorem c_X9_pointsRebuilt (l : Launch) (G : xG) {K N : Nat → Nat} {I : Nat → Nat → Int32} {Q : Nat → Nat → Option Nat} {J : Nat → Nat → Int64} (m : Nat) (h : K m = 9) : XM l yX9_pointsRebuilt cX9_pointsRebuilt 1 (some .int) rm_X9_pointsRebuilt G Ri [.ref m] (K, N, I, Q, J) (fun r S1 => r = I m 11 ∧ S1 = (K, N, x_u2 I m 18 (nI 0), Q, J)) := by
  refine x_meti (lv := [_]) (by decide +kernel) (x_cc (by first | rfl | exact x_crf _) x_cn) (Nat.le_of_ble_eq_true rfl) rfl ?_
  intro pP eE sS mM aA bB hH cC Z C hini ret
  refine x_aload_n C D_X9_pointsRebuilt_0.1 rfl rfl (by first | exact Or.inr ⟨_, rfl⟩ | exact va_rf_or _ | exact Or.inl rfl) ?_
  refine x_iconst C (v := nI 0) D_X9_pointsRebuilt_0.2.1 (by decide +kernel) ?_
  refine x_putI C (ci := 8) (k0 := 18) (by assumption) (by decide) rfl (by decide) in_X9 k_920 rfl tyX9 tyX9_ok nmX9 rfl (by rfl) rfl rfl rfl D_X9_pointsRebuilt_0.2.2.1 (fun I2 eI2 => ?_)
  refine x_aload_n C D_X9_pointsRebuilt_0.2.2.2.1 rfl rfl (by first | exact Or.inr ⟨_, rfl⟩ | exact va_rf_or _ | exact Or.inl rfl) ?_
  refine x_getI C (ci := 8) (k0 := 11) (by assumption) (by decide) rfl (by decide) in_X9 k_913 rfl rfl D_X9_pointsRebuilt_0.2.2.2.2.1 ?_
  refine x_eqi _ (show I2 m 11 = I m 11 by rw [eI2, x_u2_j _ _ (by omega)]) ?_
  refine ret _ _ _ _ _ _ rfl D_X9_pointsRebuilt_0.2.2.2.2.2 (Nat.le_of_ble_eq_true rfl) (Nat.le_of_ble_eq_true rfl) ?_
  exact ⟨rfl, by rw [eI2]⟩
abbrev rm_X9_points : Room := { frames := 1, cells := 0, slots := 0, locals := 22 }
set_option maxHeartbeats 4000000 in
set_option maxRecDepth 100000 in
theorem c_X9_points (l : Launch) (G : xG) {K N : Nat → Nat} {I : Nat → Nat → Int32} {Q : Nat → Nat → Option Nat} {J : Nat → Nat → Int64} (m n : Nat) (ar pc ps : Nat → Nat) (pa : Nat → Bool) (hM : MZ K N Q m ar) (hK : PV I m ar n pc pa ps)  : XM l yX9_points cX9_points 1 (some .int) rm_X9_points G Ri [.ref m] (K, N, I, Q, J) (fun r S1 => r = nI (cn pa n) ∧ S1 = (K, N, x_u2 I m 18 (nI 0), Q, J)) := by
  refine x_meti (lv := [_]) (by decide +kernel) (x_cc (by first | rfl | exact x_crf _) x_cn) (Nat.le_of_ble_eq_true rfl) rfl ?_
  intro pP eE sS mM aA bB hH cC Z C hini ret
  have hk9 := hM.1
  obtain ⟨hn, hn121, h12, h13, h14, h15⟩ := hK
  have h122 := hM.np 14 (by decide)
  have n1213 : x_ne (ar 12) (ar 13) := hM.ne 12 13 (by decide)
  have n1214 : x_ne (ar 12) (ar 14) := hM.ne 12 14 (by decide)
  have n1215 : x_ne (ar 12) (ar 15) := hM.ne 12 15 (by decide)
  have n1216 : x_ne (ar 12) (ar 16) := hM.ne 12 16 (by decide)
  have n1217 : x_ne (ar 12) (ar 17) := hM.ne 12 17 (by decide)
  have n1312 : x_ne (ar 13) (ar 12) := hM.ne 13 12 (by decide)
  have n1314 : x_ne (ar 13) (ar 14) := hM.ne 13 14 (by decide)
  have n1315 : x_ne (ar 13) (ar 15) := hM.ne 13 15 (by decide)
  have n1316 : x_ne (ar 13) (ar 16) := hM.ne 13 16 (by decide)
  have n1317 : x_ne (ar 13) (ar 17) := hM.ne 13 17 (by decide)
  have n1412 : x_ne (ar 14) (ar 12) := hM.ne 14 12 (by decide)
  have n1413 : x_ne (ar 14) (ar 13) := hM.ne 14 13 (by decide)
  have n1415 : x_ne (ar 14) (ar 15) := hM.ne 14 15 (by decide)
  have n1416 : x_ne (ar 14) (ar 16) := hM.ne 14 16 (by decide)
  have n1417 : x_ne (ar 14) (ar 17) := hM.ne 14 17 (by decide)
  have n1512 : x_ne (ar 15) (ar 12) := hM.ne 15 12 (by decide)
  have n1513 : x_ne (ar 15) (ar 13) := hM.ne 15 13 (by decide)
  have n1514 : x_ne (ar 15) (ar 14) := hM.ne 15 14 (by decide)
  have n1516 : x_ne (ar 15) (ar 16) := hM.ne 15 16 (by decide)
  have n1517 : x_ne (ar 15) (ar 17) := hM.ne 15 17 (by decide)
  have n1612 : x_ne (ar 16) (ar 12) := hM.ne 16 12 (by decide)
  have n1613 : x_ne (ar 16) (ar 13) := hM.ne 16 13 (by decide)
  have n1614 : x_ne (ar 16) (ar 14) := hM.ne 16 14 (by decide)
  have n1615 : x_ne (ar 16) (ar 15) := hM.ne 16 15 (by decide)
  have n1617 : x_ne (ar 16) (ar 17) := hM.ne 16 17 (by decide)
  have n1712 : x_ne (ar 17) (ar 12) := hM.ne 17 12 (by decide)
  have n1713 : x_ne (ar 17) (ar 13) := hM.ne 17 13 (by decide)
  have n1714 : x_ne (ar 17) (ar 14) := hM.ne 17 14 (by decide)
  have n1715 : x_ne (ar 17) (ar 15) := hM.ne 17 15 (by decide)
  have n1716 : x_ne (ar 17) (ar 16) := hM.ne 17 16 (by decide)
  have hm12 : x_ne (ar 12) m := hM.nm 12 (by decide)
  have hm13 : x_ne (ar 13) m := hM.nm 13 (by decide)
  have hm14 : x_ne (ar 14) m := hM.nm 14 (by decide)
  have hm15 : x_ne (ar 15) m := hM.nm 15 (by decide)
  have hm16 : x_ne (ar 16) m := hM.nm 16 (by decide)
  have hm17 : x_ne (ar 17) m := hM.nm 17 (by decide)
  
  refine x_aload_n C D_X9_points_0.1 rfl rfl (by first | exact Or.inr ⟨_, rfl⟩ | exact va_rf_or _ | exact Or.inl rfl) ?_
  refine x_iconst C (v := nI 0) D_X9_points_0.2.1 (by decide +kernel) ?_
  refine x_putI C (ci := 8) (k0 := 18) (by assumption) (by decide) rfl (by decide) in_X9 k_920 rfl tyX9 tyX9_ok nmX9 rfl (by rfl) rfl rfl rfl D_X9_points_0.2.2.1 (fun I2 eI2 => ?_)
  have i2 : ∀ a, x_ne a m → I2 a = I a := fun a ha => by rw [eI2, x_u2_a _ _ ha]
  have i2n : I2 m 10 = nI n := by rw [eI2, x_u2_j _ _ (by omega)]; exact hn
  have h4 : ∀ i, i < n → I2 (ar 14) i = xb (pa i) := fun i hi => by rw [i2 _ hm14]; exact h14 i hi
  refine x_aload_n C D_X9_points_0.2.2.2.1 rfl rfl (by first | exact Or.inr ⟨_, rfl⟩ | exact va_rf_or _ | exact Or.inl rfl) ?_
  refine x_callVi C (y := yX9_livingPoints) (c_X9_livingPoints l G m n ar pa hM i2n (by omega) h4) (ci := 8) hM.1 (by decide) rfl rfl k_1149 k_1151 k_53 k_67 k_1152 hd_X9_livingPoints ⟨(Nat.le_of_ble_eq_true rfl), (Nat.le_of_ble_eq_true rfl)⟩ rfl (by first | exact Nat.le_of_ble_eq_true rfl | simp [x_crf, Value.category]) rfl rfl D_X9_points_0.2.2.2.2.1 ⟨(Nat.le_of_ble_eq_true rfl), (Nat.le_of_ble_eq_true rfl)⟩ (fun r_6 S_6 h_6 => ?_)
  obtain ⟨rfl, rfl⟩ := h_6
  refine ret _ _ _ _ _ _ rfl D_X9_points_0.2.2.2.2.2 (Nat.le_of_ble_eq_true rfl) (Nat.le_of_ble_eq_true rfl) ?_
  exact ⟨rfl, by rw [eI2]⟩
abbrev rm_X9_pointDepthN : Room := { frames := 1, cells := 0, slots := 0, locals := 24 }
set_option maxHeartbeats 4000000 in
set_option maxRecDepth 100000 in
theorem c_X9_pointDepthN (l : Launch) (G : xG) {K N : Nat → Nat} {I : Nat → Nat → Int32} {Q : Nat → Nat → Option Nat} {J : Nat → Nat → Int64} (m n : Nat) (ar pc ps : Nat → Nat) (pa : Nat → Bool) (x y : Int32) (hM : MZ K N Q m ar) (hK : PV I m ar n pc pa ps) (hnd : (lastF (fun i => decide (I (ar 12) i = x) && decide (I (ar 13) i = y)) n) = none) (hpb : ∀ i, i < n → ps i < 2 ^ 30)  : XM l yX9_pointDepth cX9_pointDepth 4 (some .int) rm_X9_pointDepthN G Ri [.ref m, .int x, .int y] (K, N, I, Q, J) (fun r S1 => r = nI 0 ∧ S1 = (K, N, x_u2 I m 18 (nI 1), Q, J)) := by
  refine x_meti (lv := [_, _, _, _]) (by decide +kernel) (x_cc (by first | rfl | exact x_crf _) (x_cc (by first | rfl | exact x_crf _) (x_cc (by first | rfl | exact x_crf _) x_cn))) (Nat.le_of_ble_eq_true rfl) rfl ?_
  intro pP eE sS mM aA bB hH cC Z C hini ret
  have hk9 := hM.1
  obtain ⟨hn, hn121, h12, h13, h14, h15⟩ := hK
  have h122 := hM.np 14 (by decide)
  have n1213 : x_ne (ar 12) (ar 13) := hM.ne 12 13 (by decide)
  have n1214 : x_ne (ar 12) (ar 14) := hM.ne 12 14 (by decide)
  have n1215 : x_ne (ar 12) (ar 15) := hM.ne 12 15 (by decide)
  have n1216 : x_ne (ar 12) (ar 16) := hM.ne 12 16 (by decide)
  have n1217 : x_ne (ar 12) (ar 17) := hM.ne 12 17 (by decide)
  have n1312 : x_ne (ar 13) (ar 12) := hM.ne 13 12 (by decide)
  have n1314 : x_ne (ar 13) (ar 14) := hM.ne 13 14 (by decide)
  have n1315 : x_ne (ar 13) (ar 15) := hM.ne 13 15 (by decide)
  have n1316 : x_ne (ar 13) (ar 16) := hM.ne 13 16 (by decide)
  have n1317 : x_ne (ar 13) (ar 17) := hM.ne 13 17 (by decide)
  have n1412 : x_ne (ar 14) (ar 12) := hM.ne 14 12 (by decide)
  have n1413 : x_ne (ar 14) (ar 13) := hM.ne 14 13 (by decide)
  have n1415 : x_ne (ar 14) (ar 15) := hM.ne 14 15 (by decide)
  have n1416 : x_ne (ar 14) (ar 16) := hM.ne 14 16 (by decide)
  have n1417 : x_ne (ar 14) (ar 17) := hM.ne 14 17 (by decide)
  have n1512 : x_ne (ar 15) (ar 12) := hM.ne 15 12 (by decide)
  have n1513 : x_ne (ar 15) (ar 13) := hM.ne 15 13 (by decide)
  have n1514 : x_ne (ar 15) (ar 14) := hM.ne 15 14 (by decide)
  have n1516 : x_ne (ar 15) (ar 16) := hM.ne 15 16 (by decide)
  have n1517 : x_ne (ar 15) (ar 17) := hM.ne 15 17 (by decide)
  have n1612 : x_ne (ar 16) (ar 12) := hM.ne 16 12 (by decide)
  have n1613 : x_ne (ar 16) (ar 13) := hM.ne 16 13 (by decide)
  have n1614 : x_ne (ar 16) (ar 14) := hM.ne 16 14 (by decide)
  have n1615 : x_ne (ar 16) (ar 15) := hM.ne 16 15 (by decide)
  have n1617 : x_ne (ar 16) (ar 17) := hM.ne 16 17 (by decide)
  have n1712 : x_ne (ar 17) (ar 12) := hM.ne 17 12 (by decide)
  have n1713 : x_ne (ar 17) (ar 13) := hM.ne 17 13 (by decide)
  have n1714 : x_ne (ar 17) (ar 14) := hM.ne 17 14 (by decide)
  have n1715 : x_ne (ar 17) (ar 15) := hM.ne 17 15 (by decide)
  have n1716 : x_ne (ar 17) (ar 16) := hM.ne 17 16 (by decide)
  have hm12 : x_ne (ar 12) m := hM.nm 12 (by decide)
  have hm13 : x_ne (ar 13) m := hM.nm 13 (by decide)
  have hm14 : x_ne (ar 14) m := hM.nm 14 (by decide)
  have hm15 : x_ne (ar 15) m := hM.nm 15 (by decide)
  have hm16 : x_ne (ar 16) m := hM.nm 16 (by decide)
  have hm17 : x_ne (ar 17) m := hM.nm 17 (by decide)
  
  refine x_aload_n C D_X9_pointDepth_0.1 rfl rfl (by first | exact Or.inr ⟨_, rfl⟩ | exact va_rf_or _ | exact Or.inl rfl) ?_
  refine x_iload_n C D_X9_pointDepth_0.2.1 rfl rfl ?_
  refine x_iload_n C D_X9_pointDepth_0.2.2.1 rfl rfl ?_
  refine x_callVi C (y := yX9_pointOf) (c_X9_pointOf l G m n ar (x) (y) hM hn (by omega)) (ci := 8) hM.1 (by decide) rfl rfl k_1145 k_1147 k_52 k_67 k_1148 hd_X9_pointOf ⟨(Nat.le_of_ble_eq_true rfl), (Nat.le_of_ble_eq_true rfl)⟩ rfl (by first | exact Nat.le_of_ble_eq_true rfl | simp [x_crf, Value.category]) rfl rfl D_X9_pointDepth_0.2.2.2.1 ⟨(Nat.le_of_ble_eq_true rfl), (Nat.le_of_ble_eq_true rfl)⟩ (fun r_3 S_3 h_3 => ?_)
  obtain ⟨rfl, rfl⟩ := h_3
  refine x_eqi (oI none) (by rw [hnd]) ?_
  refine x_istore_n C (lv' := [_, _, _, _]) D_X9_pointDepth_0.2.2.2.2.1 rfl (Nat.le_of_ble_eq_true rfl) (by first | rfl | exact x_ok_q rfl) rfl ?_
  refine x_aload_n C D_X9_pointDepth_0.2.2.2.2.2.1 rfl rfl (by first | exact Or.inr ⟨_, rfl⟩ | exact va_rf_or _ | exact Or.inl rfl) ?_
  refine x_iload_n C D_X9_pointDepth_0.2.2.2.2.2.2.1 rfl rfl ?_
  refine x_iconst C (v := (-1)) D_X9_pointDepth_0.2.2.2.2.2.2.2.1 (by decide +kernel) ?_
  refine x_icmp_ne C 17 D_X9_pointDepth_0.2.2.2.2.2.2.2.2.1 (by decide) (fun c_10 => ?_) (fun c_10 => ?_)
  · skip
    exact absurd c_10 (by decide)
  · skip
    first
    | have d_10 := cv_eq c_10 (by omega) (by omega)
    | skip
    refine x_iconst C (v := nI 1) D_X9_pointDepth_0.2.2.2.2.2.2.2.2.2.1 (by decide +kernel) ?_
    refine x_goto C 18 D_X9_pointDepth_0.2.2.2.2.2.2.2.2.2.2.1 (by decide) ?_
    refine x_callVz C (y := yX9_can) (c_X9_can l G m _ hM.1) (ci := 8) hM.1 (by decide) rfl rfl k_978 k_980 k_37 k_67 k_981 hd_X9_can ⟨(Nat.le_of_ble_eq_true rfl), (Nat.le_of_ble_eq_true rfl)⟩ rfl (by first | exact Nat.le_of_ble_eq_true rfl | simp [x_crf, Value.category]) rfl rfl D_X9_pointDepth_1.1 ⟨(Nat.le_of_ble_eq_true rfl), (Nat.le_of_ble_eq_true rfl)⟩ (fun r_18 S_18 h_18 => ?_)
    obtain ⟨rfl, rfl⟩ := h_18
    obtain ⟨I2, eI2⟩ : ∃ I2, I2 = x_u2 I m 18 (nI 1) := ⟨_, rfl⟩
    rw [← eI2]
    have i2 : ∀ a, x_ne a m → I2 a = I a := fun a ha => by rw [eI2, x_u2_a _ _ ha]
    have i2n : I2 m 10 = nI n := by rw [eI2, x_u2_j _ _ (by omega)]; exact hn
    have h4 : ∀ i, i < n → I2 (ar 14) i = xb (pa i) := fun i hi => by rw [i2 _ hm14]; exact h14 i hi
    refine x_if_eq C 36 D_X9_pointDepth_1.2.1 (by decide) (fun c_21 => ?_) (fun c_21 => ?_)
    · skip
      first
      | have d_21 := cz_eq c_21 (by omega)
      | have d_21 := cb_eq c_21
      | skip
      refine x_iconst C (v := nI 0) D_X9_pointDepth_1.2.2.2.2.2.2.2.2.1 (by decide +kernel) ?_
      refine ret _ _ _ _ _ _ rfl D_X9_pointDepth_1.2.2.2.2.2.2.2.2.2 (Nat.le_of_ble_eq_true rfl) (Nat.le_of_ble_eq_true rfl) ?_
      exact ⟨rfl, by rw [eI2]⟩
    · skip
      exact absurd c_21 (by decide)
abbrev rm_X9_pointDepthY : Room := { frames := 1, cells := 0, slots := 0, locals := 24 }
set_option maxHeartbeats 4000000 in
set_option maxRecDepth 100000 in
theorem c_X9_pointDepthY (l : Launch) (G : xG) {K N : Nat → Nat} {I : Nat → Nat → Int32} {Q : Nat → Nat → Option Nat} {J : Nat → Nat → Int64} (m n : Nat) (ar pc ps : Nat → Nat) (pa : Nat → Bool) (x y : Int32) (k : Nat) (hM : MZ K N Q m ar) (hK : PV I m ar n pc pa ps) (hnd : (lastF (fun i => decide (I (ar 12) i = x) && decide (I (ar 13) i = y)) n) = (some k)) (hpb : ∀ i, i < n → ps i < 2 ^ 30)  : XM l yX9_pointDepth cX9_pointDepth 4 (some .int) rm_X9_pointDepthY G Ri [.ref m, .int x, .int y] (K, N, I, Q, J) (fun r S1 => r = nI (dep (ps k)) ∧ S1 = (K, N, x_u2 I m 18 (nI 0), Q, J)) := by
  refine x_meti (lv := [_, _, _, _]) (by decide +kernel) (x_cc (by first | rfl | exact x_crf _) (x_cc (by first | rfl | exact x_crf _) (x_cc (by first | rfl | exact x_crf _) x_cn))) (Nat.le_of_ble_eq_true rfl) rfl ?_
  intro pP eE sS mM aA bB hH cC Z C hini ret
  have hk9 := hM.1
  obtain ⟨hn, hn121, h12, h13, h14, h15⟩ := hK
  have h122 := hM.np 14 (by decide)
  have n1213 : x_ne (ar 12) (ar 13) := hM.ne 12 13 (by decide)
  have n1214 : x_ne (ar 12) (ar 14) := hM.ne 12 14 (by decide)
  have n1215 : x_ne (ar 12) (ar 15) := hM.ne 12 15 (by decide)
  have n1216 : x_ne (ar 12) (ar 16) := hM.ne 12 16 (by decide)
  have n1217 : x_ne (ar 12) (ar 17) := hM.ne 12 17 (by decide)
  have n1312 : x_ne (ar 13) (ar 12) := hM.ne 13 12 (by decide)
  have n1314 : x_ne (ar 13) (ar 14) := hM.ne 13 14 (by decide)
  have n1315 : x_ne (ar 13) (ar 15) := hM.ne 13 15 (by decide)
  have n1316 : x_ne (ar 13) (ar 16) := hM.ne 13 16 (by decide)
  have n1317 : x_ne (ar 13) (ar 17) := hM.ne 13 17 (by decide)
  have n1412 : x_ne (ar 14) (ar 12) := hM.ne 14 12 (by decide)
  have n1413 : x_ne (ar 14) (ar 13) := hM.ne 14 13 (by decide)
  have n1415 : x_ne (ar 14) (ar 15) := hM.ne 14 15 (by decide)
  have n1416 : x_ne (ar 14) (ar 16) := hM.ne 14 16 (by decide)
  have n1417 : x_ne (ar 14) (ar 17) := hM.ne 14 17 (by decide)
  have n1512 : x_ne (ar 15) (ar 12) := hM.ne 15 12 (by decide)
  have n1513 : x_ne (ar 15) (ar 13) := hM.ne 15 13 (by decide)
  have n1514 : x_ne (ar 15) (ar 14) := hM.ne 15 14 (by decide)
  have n1516 : x_ne (ar 15) (ar 16) := hM.ne 15 16 (by decide)
  have n1517 : x_ne (ar 15) (ar 17) := hM.ne 15 17 (by decide)
  have n1612 : x_ne (ar 16) (ar 12) := hM.ne 16 12 (by decide)
  have n1613 : x_ne (ar 16) (ar 13) := hM.ne 16 13 (by decide)
  have n1614 : x_ne (ar 16) (ar 14) := hM.ne 16 14 (by decide)
  have n1615 : x_ne (ar 16) (ar 15) := hM.ne 16 15 (by decide)
  have n1617 : x_ne (ar 16) (ar 17) := hM.ne 16 17 (by decide)
  have n1712 : x_ne (ar 17) (ar 12) := hM.ne 17 12 (by decide)
  have n1713 : x_ne (ar 17) (ar 13) := hM.ne 17 13 (by decide)
  have n1714 : x_ne (ar 17) (ar 14) := hM.ne 17 14 (by decide)
  have n1715 : x_ne (ar 17) (ar 15) := hM.ne 17 15 (by decide)
  have n1716 : x_ne (ar 17) (ar 16) := hM.ne 17 16 (by decide)
  have hm12 : x_ne (ar 12) m := hM.nm 12 (by decide)
  have hm13 : x_ne (ar 13) m := hM.nm 13 (by decide)
  have hm14 : x_ne (ar 14) m := hM.nm 14 (by decide)
  have hm15 : x_ne (ar 15) m := hM.nm 15 (by decide)
  have hm16 : x_ne (ar 16) m := hM.nm 16 (by decide)
  have hm17 : x_ne (ar 17) m := hM.nm 17 (by decide)
  have hkn := (lastF_lt hnd).1
  
  refine x_aload_n C D_X9_pointDepth_0.1 rfl rfl (by first | exact Or.inr ⟨_, rfl⟩ | exact va_rf_or _ | exact Or.inl rfl) ?_
  refine x_iload_n C D_X9_pointDepth_0.2.1 rfl rfl ?_
  refine x_iload_n C D_X9_pointDepth_0.2.2.1 rfl rfl ?_
  refine x_callVi C (y := yX9_pointOf) (c_X9_pointOf l G m n ar (x) (y) hM hn (by omega)) (ci := 8) hM.1 (by decide) rfl rfl k_1145 k_1147 k_52 k_67 k_1148 hd_X9_pointOf ⟨(Nat.le_of_ble_eq_true rfl), (Nat.le_of_ble_eq_true rfl)⟩ rfl (by first | exact Nat.le_of_ble_eq_true rfl | simp [x_crf, Value.category]) rfl rfl D_X9_pointDepth_0.2.2.2.1 ⟨(Nat.le_of_ble_eq_true rfl), (Nat.le_of_ble_eq_true rfl)⟩ (fun r_3 S_3 h_3 => ?_)
  obtain ⟨rfl, rfl⟩ := h_3
  refine x_eqi (oI (some k)) (by rw [hnd]) ?_
  refine x_istore_n C (lv' := [_, _, _, _]) D_X9_pointDepth_0.2.2.2.2.1 rfl (Nat.le_of_ble_eq_true rfl) (by first | rfl | exact x_ok_q rfl) rfl ?_
  refine x_aload_n C D_X9_pointDepth_0.2.2.2.2.2.1 rfl rfl (by first | exact Or.inr ⟨_, rfl⟩ | exact va_rf_or _ | exact Or.inl rfl) ?_
  refine x_iload_n C D_X9_pointDepth_0.2.2.2.2.2.2.1 rfl rfl ?_
  refine x_iconst C (v := (-1)) D_X9_pointDepth_0.2.2.2.2.2.2.2.1 (by decide +kernel) ?_
  refine x_icmp_ne C 17 D_X9_pointDepth_0.2.2.2.2.2.2.2.2.1 (by decide) (fun c_10 => ?_) (fun c_10 => ?_)
  · skip
    refine x_iconst C (v := nI 0) D_X9_pointDepth_0.2.2.2.2.2.2.2.2.2.2.2 (by decide +kernel) ?_
    refine x_callVz C (y := yX9_can) (c_X9_can l G m _ hM.1) (ci := 8) hM.1 (by decide) rfl rfl k_978 k_980 k_37 k_67 k_981 hd_X9_can ⟨(Nat.le_of_ble_eq_true rfl), (Nat.le_of_ble_eq_true rfl)⟩ rfl (by first | exact Nat.le_of_ble_eq_true rfl | simp [x_crf, Value.category]) rfl rfl D_X9_pointDepth_1.1 ⟨(Nat.le_of_ble_eq_true rfl), (Nat.le_of_ble_eq_true rfl)⟩ (fun r_18 S_18 h_18 => ?_)
    obtain ⟨rfl, rfl⟩ := h_18
    obtain ⟨I2, eI2⟩ : ∃ I2, I2 = x_u2 I m 18 (nI 0) := ⟨_, rfl⟩
    rw [← eI2]
    have i2 : ∀ a, x_ne a m → I2 a = I a := fun a ha => by rw [eI2, x_u2_a _ _ ha]
    have i2n : I2 m 10 = nI n := by rw [eI2, x_u2_j _ _ (by omega)]; exact hn
    have h4 : ∀ i, i < n → I2 (ar 14) i = xb (pa i) := fun i hi => by rw [i2 _ hm14]; exact h14 i hi
    refine x_if_eq C 36 D_X9_pointDepth_1.2.1 (by decide) (fun c_21 => ?_) (fun c_21 => ?_)
    · skip
      exact absurd c_21 (by decide)
    · skip
      first
      | have d_21 := cz_ne c_21 (by omega)
      | have d_21 := cb_ne c_21
      | skip
      refine x_aload_n C D_X9_pointDepth_1.2.2.1 rfl rfl (by first | exact Or.inr ⟨_, rfl⟩ | exact va_rf_or _ | exact Or.inl rfl) ?_
      refine x_getQ C (ci := 8) (k0 := 15) (by assumption) (by decide) rfl (by decide) in_X9 k_917 rfl rfl D_X9_pointDepth_1.2.2.2.1 ?_
      refine x_eqr (hM.2.1 15 (by decide)).1 ?_
      refine x_iload_n C D_X9_pointDepth_1.2.2.2.2.1 rfl rfl ?_
      refine x_iald C _ (by first | assumption | exact (hM.2.1 _ (by decide)).2.1) rfl (by first | omega | (rw [hM.nk _ (by decide)]; omega) | (rw [hM.np _ (by decide)]; omega)) (by first | omega | (rw [hM.nk _ (by decide)]; omega) | (rw [hM.np _ (by decide)]; omega)) D_X9_pointDepth_1.2.2.2.2.2.1 ?_
      refine x_eqi _ (show I2 (ar 15) k = nI (ps k) by rw [i2 _ hm15]; exact h15 k hkn) ?_
      refine x_callSi C (y := yX9_depthOf) (c_X9_depthOf l G (ps k) (hpb k hkn)) k_1011 k_1012 k_67 k_1013 hd_X9_depthOf ⟨(Nat.le_of_ble_eq_true rfl), (Nat.le_of_ble_eq_true rfl)⟩ rfl (by first | exact Nat.le_of_ble_eq_true rfl | simp [x_crf, Value.category]) rfl rfl D_X9_pointDepth_1.2.2.2.2.2.2.1 ⟨(Nat.le_of_ble_eq_true rfl), (Nat.le_of_ble_eq_true rfl)⟩ (fun r_30 S_30 h_30 => ?_)
      obtain ⟨rfl, rfl⟩ := h_30
      refine x_goto C 37 D_X9_pointDepth_1.2.2.2.2.2.2.2.1 (by decide) ?_
      refine ret _ _ _ _ _ _ rfl D_X9_pointDepth_1.2.2.2.2.2.2.2.2.2 (Nat.le_of_ble_eq_true rfl) (Nat.le_of_ble_eq_true rfl) ?_
      exact ⟨rfl, by rw [eI2]⟩
  · skip
    exact absurd c_10 (oI_nn k (by omega))
    --end
abbrev rm_X9_pointHeight : Room := { frames := 2, cells := 0, slots := 0, locals := 45 }
set_option maxHeartbeats 4000000 in
set_option maxRecDepth 100000 in
theorem c_X9_pointHeight (l : Launch) (G : xG) {K N : Nat → Nat} {I : Nat → Nat → Int32} {Q : Nat → Nat → Option Nat} {J : Nat → Nat → Int64} (m n : Nat) (ar pc ps : Nat → Nat) (pa : Nat → Bool) (hM : MZ K N Q m ar) (hK : PV I m ar n pc pa ps) (hpb : ∀ i, i < n → ps i < 2 ^ 30)  : XM l yX9_pointHeight cX9_pointHeight 1 (some .int) rm_X9_pointHeight G Ri [.ref m] (K, N, I, Q, J) (fun r S1 => r = nI (hmx ps n) - nI 1 ∧ S1 = (K, N, x_u2 I m 18 (nI 0), Q, J)) := by
  refine x_meti (lv := [_]) (by decide +kernel) (x_cc (by first | rfl | exact x_crf _) x_cn) (Nat.le_of_ble_eq_true rfl) rfl ?_
  intro pP eE sS mM aA bB hH cC Z C hini ret
  have hk9 := hM.1
  obtain ⟨hn, hn121, h12, h13, h14, h15⟩ := hK
  have h122 := hM.np 14 (by decide)
  have n1213 : x_ne (ar 12) (ar 13) := hM.ne 12 13 (by decide)
  have n1214 : x_ne (ar 12) (ar 14) := hM.ne 12 14 (by decide)
  have n1215 : x_ne (ar 12) (ar 15) := hM.ne 12 15 (by decide)
  have n1216 : x_ne (ar 12) (ar 16) := hM.ne 12 16 (by decide)
  have n1217 : x_ne (ar 12) (ar 17) := hM.ne 12 17 (by decide)
  have n1312 : x_ne (ar 13) (ar 12) := hM.ne 13 12 (by decide)
  have n1314 : x_ne (ar 13) (ar 14) := hM.ne 13 14 (by decide)
  have n1315 : x_ne (ar 13) (ar 15) := hM.ne 13 15 (by decide)
  have n1316 : x_ne (ar 13) (ar 16) := hM.ne 13 16 (by decide)
  have n1317 : x_ne (ar 13) (ar 17) := hM.ne 13 17 (by decide)
  have n1412 : x_ne (ar 14) (ar 12) := hM.ne 14 12 (by decide)
  have n1413 : x_ne (ar 14) (ar 13) := hM.ne 14 13 (by decide)
  have n1415 : x_ne (ar 14) (ar 15) := hM.ne 14 15 (by decide)
  have n1416 : x_ne (ar 14) (ar 16) := hM.ne 14 16 (by decide)
  have n1417 : x_ne (ar 14) (ar 17) := hM.ne 14 17 (by decide)
  have n1512 : x_ne (ar 15) (ar 12) := hM.ne 15 12 (by decide)
  have n1513 : x_ne (ar 15) (ar 13) := hM.ne 15 13 (by decide)
  have n1514 : x_ne (ar 15) (ar 14) := hM.ne 15 14 (by decide)
  have n1516 : x_ne (ar 15) (ar 16) := hM.ne 15 16 (by decide)
  have n1517 : x_ne (ar 15) (ar 17) := hM.ne 15 17 (by decide)
  have n1612 : x_ne (ar 16) (ar 12) := hM.ne 16 12 (by decide)
  have n1613 : x_ne (ar 16) (ar 13) := hM.ne 16 13 (by decide)
  have n1614 : x_ne (ar 16) (ar 14) := hM.ne 16 14 (by decide)
  have n1615 : x_ne (ar 16) (ar 15) := hM.ne 16 15 (by decide)
  have n1617 : x_ne (ar 16) (ar 17) := hM.ne 16 17 (by decide)
  have n1712 : x_ne (ar 17) (ar 12) := hM.ne 17 12 (by decide)
  have n1713 : x_ne (ar 17) (ar 13) := hM.ne 17 13 (by decide)
  have n1714 : x_ne (ar 17) (ar 14) := hM.ne 17 14 (by decide)
  have n1715 : x_ne (ar 17) (ar 15) := hM.ne 17 15 (by decide)
  have n1716 : x_ne (ar 17) (ar 16) := hM.ne 17 16 (by decide)
  have hm12 : x_ne (ar 12) m := hM.nm 12 (by decide)
  have hm13 : x_ne (ar 13) m := hM.nm 13 (by decide)
  have hm14 : x_ne (ar 14) m := hM.nm 14 (by decide)
  have hm15 : x_ne (ar 15) m := hM.nm 15 (by decide)
  have hm16 : x_ne (ar 16) m := hM.nm 16 (by decide)
  have hm17 : x_ne (ar 17) m := hM.nm 17 (by decide)
  
  refine x_aload_n C D_X9_pointHeight_0.1 rfl rfl (by first | exact Or.inr ⟨_, rfl⟩ | exact va_rf_or _ | exact Or.inl rfl) ?_
  refine x_iconst C (v := nI 0) D_X9_pointHeight_0.2.1 (by decide +kernel) ?_
  refine x_putI C (ci := 8) (k0 := 18) (by assumption) (by decide) rfl (by decide) in_X9 k_920 rfl tyX9 tyX9_ok nmX9 rfl (by rfl) rfl rfl rfl D_X9_pointHeight_0.2.2.1 (fun I2 eI2 => ?_)
  have i2 : ∀ a, x_ne a m → I2 a = I a := fun a ha => by rw [eI2, x_u2_a _ _ ha]
  have i2n : I2 m 10 = nI n := by rw [eI2, x_u2_j _ _ (by omega)]; exact hn
  have h4 : ∀ i, i < n → I2 (ar 14) i = xb (pa i) := fun i hi => by rw [i2 _ hm14]; exact h14 i hi
  refine x_aload_n C D_X9_pointHeight_0.2.2.2.1 rfl rfl (by first | exact Or.inr ⟨_, rfl⟩ | exact va_rf_or _ | exact Or.inl rfl) ?_
  refine x_getQ C (ci := 8) (k0 := 15) (by assumption) (by decide) rfl (by decide) in_X9 k_917 rfl rfl D_X9_pointHeight_0.2.2.2.2.1 ?_
  refine x_eqr (hM.2.1 15 (by decide)).1 ?_
  refine x_aload_n C D_X9_pointHeight_0.2.2.2.2.2.1 rfl rfl (by first | exact Or.inr ⟨_, rfl⟩ | exact va_rf_or _ | exact Or.inl rfl) ?_
  refine x_getI C (ci := 8) (k0 := 10) (by assumption) (by decide) rfl (by decide) in_X9 k_912 rfl rfl D_X9_pointHeight_0.2.2.2.2.2.2.1 ?_
  first
  | refine x_eqi _ (i2n) ?_
  | skip
  refine x_callSi C (y := yX9_heightOf) (c_X9_heightOf l G (ar 15) n ps (hM.2.1 15 (by decide)).2.1 (by have := hM.np 15 (by decide); omega) (by have := hM.np 15 (by decide); omega) (by omega) (fun i hi => ⟨by rw [i2 _ hm15]; exact h15 i hi, hpb i hi⟩)) k_1086 k_1087 k_67 k_1088 hd_X9_heightOf ⟨(Nat.le_of_ble_eq_true rfl), (Nat.le_of_ble_eq_true rfl)⟩ rfl (by first | exact Nat.le_of_ble_eq_true rfl | simp [x_crf, Value.category]) rfl rfl D_X9_pointHeight_0.2.2.2.2.2.2.2.1 ⟨(Nat.le_of_ble_eq_true rfl), (Nat.le_of_ble_eq_true rfl)⟩ (fun r_13 S_13 h_13 => ?_)
  obtain ⟨rfl, rfl⟩ := h_13
  refine ret _ _ _ _ _ _ rfl D_X9_pointHeight_0.2.2.2.2.2.2.2.2 (Nat.le_of_ble_eq_true rfl) (Nat.le_of_ble_eq_true rfl) ?_
  exact ⟨rfl, by rw [eI2]⟩
abbrev rm_X9_countInX : Room := { frames := 1, cells := 0, slots := 0, locals := 21 }
set_option maxHeartbeats 4000000 in
set_option maxRecDepth 100000 in
theorem c_X9_countInX (l : Launch) (G : xG) {K N : Nat → Nat} {I : Nat → Nat → Int32} {Q : Nat → Nat → Option Nat} {J : Nat → Nat → Int64} (m n : Nat) (ar pc ps : Nat → Nat) (pa : Nat → Bool) (a b c d : Int32) (hM : MZ K N Q m ar) (hK : PV I m ar n pc pa ps) (hx : a < 0 ∨ c < a ∨ nI 99 < c ∨ b < 0 ∨ d < b ∨ nI 99 < d)  : XM l yX9_countIn cX9_countIn 7 (some .int) rm_X9_countInX G Ri [.ref m, .int a, .int b, .int c, .int d] (K, N, I, Q, J) (fun r S1 => r = nI 0 ∧ S1 = (K, N, x_u2 I m 18 (nI 1), Q, J)) := by
  refine x_meti (lv := [_, _, _, _, _, _, _]) (by decide +kernel) (x_cc (by first | rfl | exact x_crf _) (x_cc (by first | rfl | exact x_crf _) (x_cc (by first | rfl | exact x_crf _) (x_cc (by first | rfl | exact x_crf _) (x_cc (by first | rfl | exact x_crf _) x_cn))))) (Nat.le_of_ble_eq_true rfl) rfl ?_
  intro pP eE sS mM aA bB hH cC Z C hini ret
  have hk9 := hM.1
  obtain ⟨hn, hn121, h12, h13, h14, h15⟩ := hK
  have h122 := hM.np 14 (by decide)
  have n1213 : x_ne (ar 12) (ar 13) := hM.ne 12 13 (by decide)
  have n1214 : x_ne (ar 12) (ar 14) := hM.ne 12 14 (by decide)
  have n1215 : x_ne (ar 12) (ar 15) := hM.ne 12 15 (by decide)
  have n1216 : x_ne (ar 12) (ar 16) := hM.ne 12 16 (by decide)
  have n1217 : x_ne (ar 12) (ar 17) := hM.ne 12 17 (by decide)
  have n1312 : x_ne (ar 13) (ar 12) := hM.ne 13 12 (by decide)
  have n1314 : x_ne (ar 13) (ar 14) := hM.ne 13 14 (by decide)
  have n1315 : x_ne (ar 13) (ar 15) := hM.ne 13 15 (by decide)
  have n1316 : x_ne (ar 13) (ar 16) := hM.ne 13 16 (by decide)
  have n1317 : x_ne (ar 13) (ar 17) := hM.ne 13 17 (by decide)
  have n1412 : x_ne (ar 14) (ar 12) := hM.ne 14 12 (by decide)
  have n1413 : x_ne (ar 14) (ar 13) := hM.ne 14 13 (by decide)
  have n1415 : x_ne (ar 14) (ar 15) := hM.ne 14 15 (by decide)
  have n1416 : x_ne (ar 14) (ar 16) := hM.ne 14 16 (by decide)
  have n1417 : x_ne (ar 14) (ar 17) := hM.ne 14 17 (by decide)
  have n1512 : x_ne (ar 15) (ar 12) := hM.ne 15 12 (by decide)
  have n1513 : x_ne (ar 15) (ar 13) := hM.ne 15 13 (by decide)
  have n1514 : x_ne (ar 15) (ar 14) := hM.ne 15 14 (by decide)
  have n1516 : x_ne (ar 15) (ar 16) := hM.ne 15 16 (by decide)
  have n1517 : x_ne (ar 15) (ar 17) := hM.ne 15 17 (by decide)
  have n1612 : x_ne (ar 16) (ar 12) := hM.ne 16 12 (by decide)
  have n1613 : x_ne (ar 16) (ar 13) := hM.ne 16 13 (by decide)
  have n1614 : x_ne (ar 16) (ar 14) := hM.ne 16 14 (by decide)
  have n1615 : x_ne (ar 16) (ar 15) := hM.ne 16 15 (by decide)
  have n1617 : x_ne (ar 16) (ar 17) := hM.ne 16 17 (by decide)
  have n1712 : x_ne (ar 17) (ar 12) := hM.ne 17 12 (by decide)
  have n1713 : x_ne (ar 17) (ar 13) := hM.ne 17 13 (by decide)
  have n1714 : x_ne (ar 17) (ar 14) := hM.ne 17 14 (by decide)
  have n1715 : x_ne (ar 17) (ar 15) := hM.ne 17 15 (by decide)
  have n1716 : x_ne (ar 17) (ar 16) := hM.ne 17 16 (by decide)
  have hm12 : x_ne (ar 12) m := hM.nm 12 (by decide)
  have hm13 : x_ne (ar 13) m := hM.nm 13 (by decide)
  have hm14 : x_ne (ar 14) m := hM.nm 14 (by decide)
  have hm15 : x_ne (ar 15) m := hM.nm 15 (by decide)
  have hm16 : x_ne (ar 16) m := hM.nm 16 (by decide)
  have hm17 : x_ne (ar 17) m := hM.nm 17 (by decide)
  
  refine x_aload_n C D_X9_countIn_0.1 rfl rfl (by first | exact Or.inr ⟨_, rfl⟩ | exact va_rf_or _ | exact Or.inl rfl) ?_
  refine x_iload_n C D_X9_countIn_0.2.1 rfl rfl ?_
  refine x_if_lt C 33 D_X9_countIn_0.2.2.1 (by decide) (fun c_2 => ?_) (fun c_2 => ?_)
  · skip
    refine x_iconst C (v := nI 1) D_X9_countIn_1.2.2.2.2.2.1 (by decide +kernel) ?_
    refine x_goto C 38 D_X9_countIn_1.2.2.2.2.2.2.1 (by decide) ?_
    refine x_callVz C (y := yX9_can) (c_X9_can l G m _ hM.1) (ci := 8) hM.1 (by decide) rfl rfl k_978 k_980 k_37 k_67 k_981 hd_X9_can ⟨(Nat.le_of_ble_eq_true rfl), (Nat.le_of_ble_eq_true rfl)⟩ rfl (by first | exact Nat.le_of_ble_eq_true rfl | simp [x_crf, Value.category]) rfl rfl D_X9_countIn_1.2.2.2.2.2.2.2.2.1 ⟨(Nat.le_of_ble_eq_true rfl), (Nat.le_of_ble_eq_true rfl)⟩ (fun r_38 S_38 h_38 => ?_)
    obtain ⟨rfl, rfl⟩ := h_38
    refine x_if_ne C 46 D_X9_countIn_1.2.2.2.2.2.2.2.2.2.1 (by decide) (fun c_41 => ?_) (fun c_41 => ?_)
    · skip
      exact absurd c_41 (by decide)
    · skip
      first
      | have d_41 := cz_eq c_41 (by omega)
      | have d_41 := cb_eq c_41
      | skip
      refine x_iconst C (v := nI 0) D_X9_countIn_1.2.2.2.2.2.2.2.2.2.2.1 (by decide +kernel) ?_
      refine ret _ _ _ _ _ _ rfl D_X9_countIn_1.2.2.2.2.2.2.2.2.2.2.2 (Nat.le_of_ble_eq_true rfl) (Nat.le_of_ble_eq_true rfl) ?_
      exact ⟨rfl, rfl⟩
  · skip
    refine x_iload_n C D_X9_countIn_0.2.2.2.1 rfl rfl ?_
    refine x_iload_n C D_X9_countIn_0.2.2.2.2.1 rfl rfl ?_
    refine x_icmp_lt C 33 D_X9_countIn_0.2.2.2.2.2.1 (by decide) (fun c_7 => ?_) (fun c_7 => ?_)
    · skip
      refine x_iconst C (v := nI 1) D_X9_countIn_1.2.2.2.2.2.1 (by decide +kernel) ?_
      refine x_goto C 38 D_X9_countIn_1.2.2.2.2.2.2.1 (by decide) ?_
      refine x_callVz C (y := yX9_can) (c_X9_can l G m _ hM.1) (ci := 8) hM.1 (by decide) rfl rfl k_978 k_980 k_37 k_67 k_981 hd_X9_can ⟨(Nat.le_of_ble_eq_true rfl), (Nat.le_of_ble_eq_true rfl)⟩ rfl (by first | exact Nat.le_of_ble_eq_true rfl | simp [x_crf, Value.category]) rfl rfl D_X9_countIn_1.2.2.2.2.2.2.2.2.1 ⟨(Nat.le_of_ble_eq_true rfl), (Nat.le_of_ble_eq_true rfl)⟩ (fun r_38 S_38 h_38 => ?_)
      obtain ⟨rfl, rfl⟩ := h_38
      refine x_if_ne C 46 D_X9_countIn_1.2.2.2.2.2.2.2.2.2.1 (by decide) (fun c_41 => ?_) (fun c_41 => ?_)
      · skip
        exact absurd c_41 (by decide)
      · skip
        first
        | have d_41 := cz_eq c_41 (by omega)
        | have d_41 := cb_eq c_41
        | skip
        refine x_iconst C (v := nI 0) D_X9_countIn_1.2.2.2.2.2.2.2.2.2.2.1 (by decide +kernel) ?_
        refine ret _ _ _ _ _ _ rfl D_X9_countIn_1.2.2.2.2.2.2.2.2.2.2.2 (Nat.le_of_ble_eq_true rfl) (Nat.le_of_ble_eq_true rfl) ?_
        exact ⟨rfl, rfl⟩
    · skip
      refine x_iload_n C D_X9_countIn_0.2.2.2.2.2.2.1 rfl rfl ?_
      refine x_bipush C (v := nI 99) D_X9_countIn_0.2.2.2.2.2.2.2.1 (by decide +kernel) ?_
      refine x_icmp_gt C 33 D_X9_countIn_0.2.2.2.2.2.2.2.2.1 (by decide) (fun c_13 => ?_) (fun c_13 => ?_)
      · skip
        refine x_iconst C (v := nI 1) D_X9_countIn_1.2.2.2.2.2.1 (by decide +kernel) ?_
        refine x_goto C 38 D_X9_countIn_1.2.2.2.2.2.2.1 (by decide) ?_
        refine x_callVz C (y := yX9_can) (c_X9_can l G m _ hM.1) (ci := 8) hM.1 (by decide) rfl rfl k_978 k_980 k_37 k_67 k_981 hd_X9_can ⟨(Nat.le_of_ble_eq_true rfl), (Nat.le_of_ble_eq_true rfl)⟩ rfl (by first | exact Nat.le_of_ble_eq_true rfl | simp [x_crf, Value.category]) rfl rfl D_X9_countIn_1.2.2.2.2.2.2.2.2.1 ⟨(Nat.le_of_ble_eq_true rfl), (Nat.le_of_ble_eq_true rfl)⟩ (fun r_38 S_38 h_38 => ?_)
        obtain ⟨rfl, rfl⟩ := h_38
        refine x_if_ne C 46 D_X9_countIn_1.2.2.2.2.2.2.2.2.2.1 (by decide) (fun c_41 => ?_) (fun c_41 => ?_)
        · skip
          exact absurd c_41 (by decide)
        · skip
          first
          | have d_41 := cz_eq c_41 (by omega)
          | have d_41 := cb_eq c_41
          | skip
          refine x_iconst C (v := nI 0) D_X9_countIn_1.2.2.2.2.2.2.2.2.2.2.1 (by decide +kernel) ?_
          refine ret _ _ _ _ _ _ rfl D_X9_countIn_1.2.2.2.2.2.2.2.2.2.2.2 (Nat.le_of_ble_eq_true rfl) (Nat.le_of_ble_eq_true rfl) ?_
          exact ⟨rfl, rfl⟩
      · skip
        refine x_iload_n C D_X9_countIn_0.2.2.2.2.2.2.2.2.2.1 rfl rfl ?_
        refine x_if_lt C 33 D_X9_countIn_0.2.2.2.2.2.2.2.2.2.2.1 (by decide) (fun c_17 => ?_) (fun c_17 => ?_)
        · skip
          refine x_iconst C (v := nI 1) D_X9_countIn_1.2.2.2.2.2.1 (by decide +kernel) ?_
          refine x_goto C 38 D_X9_countIn_1.2.2.2.2.2.2.1 (by decide) ?_
          refine x_callVz C (y := yX9_can) (c_X9_can l G m _ hM.1) (ci := 8) hM.1 (by decide) rfl rfl k_978 k_980 k_37 k_67 k_981 hd_X9_can ⟨(Nat.le_of_ble_eq_true rfl), (Nat.le_of_ble_eq_true rfl)⟩ rfl (by first | exact Nat.le_of_ble_eq_true rfl | simp [x_crf, Value.category]) rfl rfl D_X9_countIn_1.2.2.2.2.2.2.2.2.1 ⟨(Nat.le_of_ble_eq_true rfl), (Nat.le_of_ble_eq_true rfl)⟩ (fun r_38 S_38 h_38 => ?_)
          obtain ⟨rfl, rfl⟩ := h_38
          refine x_if_ne C 46 D_X9_countIn_1.2.2.2.2.2.2.2.2.2.1 (by decide) (fun c_41 => ?_) (fun c_41 => ?_)
          · skip
            exact absurd c_41 (by decide)
          · skip
            first
            | have d_41 := cz_eq c_41 (by omega)
            | have d_41 := cb_eq c_41
            | skip
            refine x_iconst C (v := nI 0) D_X9_countIn_1.2.2.2.2.2.2.2.2.2.2.1 (by decide +kernel) ?_
            refine ret _ _ _ _ _ _ rfl D_X9_countIn_1.2.2.2.2.2.2.2.2.2.2.2 (Nat.le_of_ble_eq_true rfl) (Nat.le_of_ble_eq_true rfl) ?_
            exact ⟨rfl, rfl⟩
        · skip
          refine x_iload C D_X9_countIn_0.2.2.2.2.2.2.2.2.2.2.2 rfl ?_
          refine x_iload_n C D_X9_countIn_1.1 rfl rfl ?_
          refine x_icmp_lt C 33 D_X9_countIn_1.2.1 (by decide) (fun c_23 => ?_) (fun c_23 => ?_)
          · skip
            refine x_iconst C (v := nI 1) D_X9_countIn_1.2.2.2.2.2.1 (by decide +kernel) ?_
            refine x_goto C 38 D_X9_countIn_1.2.2.2.2.2.2.1 (by decide) ?_
            refine x_callVz C (y := yX9_can) (c_X9_can l G m _ hM.1) (ci := 8) hM.1 (by decide) rfl rfl k_978 k_980 k_37 k_67 k_981 hd_X9_can ⟨(Nat.le_of_ble_eq_true rfl), (Nat.le_of_ble_eq_true rfl)⟩ rfl (by first | exact Nat.le_of_ble_eq_true rfl | simp [x_crf, Value.category]) rfl rfl D_X9_countIn_1.2.2.2.2.2.2.2.2.1 ⟨(Nat.le_of_ble_eq_true rfl), (Nat.le_of_ble_eq_true rfl)⟩ (fun r_38 S_38 h_38 => ?_)
            obtain ⟨rfl, rfl⟩ := h_38
            refine x_if_ne C 46 D_X9_countIn_1.2.2.2.2.2.2.2.2.2.1 (by decide) (fun c_41 => ?_) (fun c_41 => ?_)
            · skip
              exact absurd c_41 (by decide)
            · skip
              first
              | have d_41 := cz_eq c_41 (by omega)
              | have d_41 := cb_eq c_41
              | skip
              refine x_iconst C (v := nI 0) D_X9_countIn_1.2.2.2.2.2.2.2.2.2.2.1 (by decide +kernel) ?_
              refine ret _ _ _ _ _ _ rfl D_X9_countIn_1.2.2.2.2.2.2.2.2.2.2.2 (Nat.le_of_ble_eq_true rfl) (Nat.le_of_ble_eq_true rfl) ?_
              exact ⟨rfl, rfl⟩
          · skip
            refine x_iload C D_X9_countIn_1.2.2.1 rfl ?_
            refine x_bipush C (v := nI 99) D_X9_countIn_1.2.2.2.1 (by decide +kernel) ?_
            refine x_icmp_le C 37 D_X9_countIn_1.2.2.2.2.1 (by decide) (fun c_30 => ?_) (fun c_30 => ?_)
            · skip
              exfalso
              rcases hx with h | h | h | h | h | h
              · exact c_2 h
              · exact c_7 h
              · exact c_13 h
              · exact c_17 h
              · exact c_23 h
              · rw [i32_lt] at h; rw [i32_le] at c_30; omega
              --end
            · skip
              refine x_iconst C (v := nI 1) D_X9_countIn_1.2.2.2.2.2.1 (by decide +kernel) ?_
              refine x_goto C 38 D_X9_countIn_1.2.2.2.2.2.2.1 (by decide) ?_
              refine x_callVz C (y := yX9_can) (c_X9_can l G m _ hM.1) (ci := 8) hM.1 (by decide) rfl rfl k_978 k_980 k_37 k_67 k_981 hd_X9_can ⟨(Nat.le_of_ble_eq_true rfl), (Nat.le_of_ble_eq_true rfl)⟩ rfl (by first | exact Nat.le_of_ble_eq_true rfl | simp [x_crf, Value.category]) rfl rfl D_X9_countIn_1.2.2.2.2.2.2.2.2.1 ⟨(Nat.le_of_ble_eq_true rfl), (Nat.le_of_ble_eq_true rfl)⟩ (fun r_38 S_38 h_38 => ?_)
              obtain ⟨rfl, rfl⟩ := h_38
              refine x_if_ne C 46 D_X9_countIn_1.2.2.2.2.2.2.2.2.2.1 (by decide) (fun c_41 => ?_) (fun c_41 => ?_)
              · skip
                exact absurd c_41 (by decide)
              · skip
                first
                | have d_41 := cz_eq c_41 (by omega)
                | have d_41 := cb_eq c_41
                | skip
                refine x_iconst C (v := nI 0) D_X9_countIn_1.2.2.2.2.2.2.2.2.2.2.1 (by decide +kernel) ?_
                refine ret _ _ _ _ _ _ rfl D_X9_countIn_1.2.2.2.2.2.2.2.2.2.2.2 (Nat.le_of_ble_eq_true rfl) (Nat.le_of_ble_eq_true rfl) ?_
                exact ⟨rfl, rfl⟩
abbrev rm_X9_countInY : Room := { frames := 1, cells := 0, slots := 0, locals := 21 }
set_option maxHeartbeats 4000000 in
set_option maxRecDepth 100000 in
theorem c_X9_countInY (l : Launch) (G : xG) {K N : Nat → Nat} {I : Nat → Nat → Int32} {Q : Nat → Nat → Option Nat} {J : Nat → Nat → Int64} (m n : Nat) (ar pc ps : Nat → Nat) (pa : Nat → Bool) (a b c d : Nat) (hM : MZ K N Q m ar) (hK : PV I m ar n pc pa ps) (hac : a ≤ c) (hc : c ≤ 99) (hbd : b ≤ d) (hd : d ≤ 99) (hpc : ∀ i, i < n → pc i < 10000)  : XM l yX9_countIn cX9_countIn 7 (some .int) rm_X9_countInY G Ri [.ref m, .int (nI a), .int (nI b), .int (nI c), .int (nI d)] (K, N, I, Q, J) (fun r S1 => r = nI (cn (fun i => pa i && decide (a ≤ pc i / 100) && decide (pc i / 100 ≤ c) && decide (b ≤ pc i % 100) && decide (pc i % 100 ≤ d)) n) ∧ S1 = (K, N, x_u2 I m 18 (nI 0), Q, J)) := by
  refine x_meti (lv := [_, _, _, _, _, _, _]) (by decide +kernel) (x_cc (by first | rfl | exact x_crf _) (x_cc (by first | rfl | exact x_crf _) (x_cc (by first | rfl | exact x_crf _) (x_cc (by first | rfl | exact x_crf _) (x_cc (by first | rfl | exact x_crf _) x_cn))))) (Nat.le_of_ble_eq_true rfl) rfl ?_
  intro pP eE sS mM aA bB hH cC Z C hini ret
  have hk9 := hM.1
  obtain ⟨hn, hn121, h12, h13, h14, h15⟩ := hK
  have h122 := hM.np 14 (by decide)
  have n1213 : x_ne (ar 12) (ar 13) := hM.ne 12 13 (by decide)
  have n1214 : x_ne (ar 12) (ar 14) := hM.ne 12 14 (by decide)
  have n1215 : x_ne (ar 12) (ar 15) := hM.ne 12 15 (by decide)
  have n1216 : x_ne (ar 12) (ar 16) := hM.ne 12 16 (by decide)
  have n1217 : x_ne (ar 12) (ar 17) := hM.ne 12 17 (by decide)
  have n1312 : x_ne (ar 13) (ar 12) := hM.ne 13 12 (by decide)
  have n1314 : x_ne (ar 13) (ar 14) := hM.ne 13 14 (by decide)
  have n1315 : x_ne (ar 13) (ar 15) := hM.ne 13 15 (by decide)
  have n1316 : x_ne (ar 13) (ar 16) := hM.ne 13 16 (by decide)
  have n1317 : x_ne (ar 13) (ar 17) := hM.ne 13 17 (by decide)
  have n1412 : x_ne (ar 14) (ar 12) := hM.ne 14 12 (by decide)
  have n1413 : x_ne (ar 14) (ar 13) := hM.ne 14 13 (by decide)
  have n1415 : x_ne (ar 14) (ar 15) := hM.ne 14 15 (by decide)
  have n1416 : x_ne (ar 14) (ar 16) := hM.ne 14 16 (by decide)
  have n1417 : x_ne (ar 14) (ar 17) := hM.ne 14 17 (by decide)
  have n1512 : x_ne (ar 15) (ar 12) := hM.ne 15 12 (by decide)
  have n1513 : x_ne (ar 15) (ar 13) := hM.ne 15 13 (by decide)
  have n1514 : x_ne (ar 15) (ar 14) := hM.ne 15 14 (by decide)
  have n1516 : x_ne (ar 15) (ar 16) := hM.ne 15 16 (by decide)
  have n1517 : x_ne (ar 15) (ar 17) := hM.ne 15 17 (by decide)
  have n1612 : x_ne (ar 16) (ar 12) := hM.ne 16 12 (by decide)
  have n1613 : x_ne (ar 16) (ar 13) := hM.ne 16 13 (by decide)
  have n1614 : x_ne (ar 16) (ar 14) := hM.ne 16 14 (by decide)
  have n1615 : x_ne (ar 16) (ar 15) := hM.ne 16 15 (by decide)
  have n1617 : x_ne (ar 16) (ar 17) := hM.ne 16 17 (by decide)
  have n1712 : x_ne (ar 17) (ar 12) := hM.ne 17 12 (by decide)
  have n1713 : x_ne (ar 17) (ar 13) := hM.ne 17 13 (by decide)
  have n1714 : x_ne (ar 17) (ar 14) := hM.ne 17 14 (by decide)
  have n1715 : x_ne (ar 17) (ar 15) := hM.ne 17 15 (by decide)
  have n1716 : x_ne (ar 17) (ar 16) := hM.ne 17 16 (by decide)
  have hm12 : x_ne (ar 12) m := hM.nm 12 (by decide)
  have hm13 : x_ne (ar 13) m := hM.nm 13 (by decide)
  have hm14 : x_ne (ar 14) m := hM.nm 14 (by decide)
  have hm15 : x_ne (ar 15) m := hM.nm 15 (by decide)
  have hm16 : x_ne (ar 16) m := hM.nm 16 (by decide)
  have hm17 : x_ne (ar 17) m := hM.nm 17 (by decide)
  
  refine x_aload_n C D_X9_countIn_0.1 rfl rfl (by first | exact Or.inr ⟨_, rfl⟩ | exact va_rf_or _ | exact Or.inl rfl) ?_
  refine x_iload_n C D_X9_countIn_0.2.1 rfl rfl ?_
  refine x_if_lt C 33 D_X9_countIn_0.2.2.1 (by decide) (fun c_2 => ?_) (fun c_2 => ?_)
  · skip
    exact absurd c_2 (nI_pos (by omega))
    --end
  · skip
    refine x_iload_n C D_X9_countIn_0.2.2.2.1 rfl rfl ?_
    refine x_iload_n C D_X9_countIn_0.2.2.2.2.1 rfl rfl ?_
    refine x_icmp_lt C 33 D_X9_countIn_0.2.2.2.2.2.1 (by decide) (fun c_7 => ?_) (fun c_7 => ?_)
    · skip
      first
      | have d_7 := cv_lt c_7 (by omega) (by omega)
      | skip
      exfalso; omega
      --end
    · skip
      first
      | have d_7 := cv_nlt c_7 (by omega) (by omega)
      | skip
      refine x_iload_n C D_X9_countIn_0.2.2.2.2.2.2.1 rfl rfl ?_
      refine x_bipush C (v := nI 99) D_X9_countIn_0.2.2.2.2.2.2.2.1 (by decide +kernel) ?_
      refine x_icmp_gt C 33 D_X9_countIn_0.2.2.2.2.2.2.2.2.1 (by decide) (fun c_13 => ?_) (fun c_13 => ?_)
      · skip
        first
        | have d_13 := cv_lt c_13 (by omega) (by omega)
        | skip
        exfalso; omega
        --end
      · skip
        first
        | have d_13 := cv_nlt c_13 (by omega) (by omega)
        | skip
        refine x_iload_n C D_X9_countIn_0.2.2.2.2.2.2.2.2.2.1 rfl rfl ?_
        refine x_if_lt C 33 D_X9_countIn_0.2.2.2.2.2.2.2.2.2.2.1 (by decide) (fun c_17 => ?_) (fun c_17 => ?_)
        · skip
          exact absurd c_17 (nI_pos (by omega))
          --end
        · skip
          refine x_iload C D_X9_countIn_0.2.2.2.2.2.2.2.2.2.2.2 rfl ?_
          refine x_iload_n C D_X9_countIn_1.1 rfl rfl ?_
          refine x_icmp_lt C 33 D_X9_countIn_1.2.1 (by decide) (fun c_23 => ?_) (fun c_23 => ?_)
          · skip
            first
            | have d_23 := cv_lt c_23 (by omega) (by omega)
            | skip
            exfalso; omega
            --end
          · skip
            first
            | have d_23 := cv_nlt c_23 (by omega) (by omega)
            | skip
            refine x_iload C D_X9_countIn_1.2.2.1 rfl ?_
            refine x_bipush C (v := nI 99) D_X9_countIn_1.2.2.2.1 (by decide +kernel) ?_
            refine x_icmp_le C 37 D_X9_countIn_1.2.2.2.2.1 (by decide) (fun c_30 => ?_) (fun c_30 => ?_)
            · skip
              first
              | have d_30 := cv_le c_30 (by omega) (by omega)
              | skip
              refine x_iconst C (v := nI 0) D_X9_countIn_1.2.2.2.2.2.2.2.1 (by decide +kernel) ?_
              refine x_callVz C (y := yX9_can) (c_X9_can l G m _ hM.1) (ci := 8) hM.1 (by decide) rfl rfl k_978 k_980 k_37 k_67 k_981 hd_X9_can ⟨(Nat.le_of_ble_eq_true rfl), (Nat.le_of_ble_eq_true rfl)⟩ rfl (by first | exact Nat.le_of_ble_eq_true rfl | simp [x_crf, Value.category]) rfl rfl D_X9_countIn_1.2.2.2.2.2.2.2.2.1 ⟨(Nat.le_of_ble_eq_true rfl), (Nat.le_of_ble_eq_true rfl)⟩ (fun r_38 S_38 h_38 => ?_)
              obtain ⟨rfl, rfl⟩ := h_38
              obtain ⟨I2, eI2⟩ : ∃ I2, I2 = x_u2 I m 18 (nI 0) := ⟨_, rfl⟩
              rw [← eI2]
              have i2 : ∀ a, x_ne a m → I2 a = I a := fun a ha => by rw [eI2, x_u2_a _ _ ha]
              have i2n : I2 m 10 = nI n := by rw [eI2, x_u2_j _ _ (by omega)]; exact hn
              have h4 : ∀ i, i < n → I2 (ar 14) i = xb (pa i) := fun i hi => by rw [i2 _ hm14]; exact h14 i hi
              refine x_if_ne C 46 D_X9_countIn_1.2.2.2.2.2.2.2.2.2.1 (by decide) (fun c_41 => ?_) (fun c_41 => ?_)
              · skip
                first
                | have d_41 := cz_ne c_41 (by omega)
                | have d_41 := cb_ne c_41
                | skip
                refine x_iconst C (v := nI 0) D_X9_countIn_2.1 (by decide +kernel) ?_
                refine x_istore C (lv' := [_, _, _, _, _, _, _]) D_X9_countIn_2.2.1 (Nat.le_of_ble_eq_true rfl) (by first | rfl | exact x_ok_q rfl) rfl ?_
                refine x_iconst C (v := nI 0) D_X9_countIn_2.2.2.1 (by decide +kernel) ?_
                refine x_istore C (lv' := [_, _, _, _, _, _, _]) D_X9_countIn_2.2.2.2.1 (Nat.le_of_ble_eq_true rfl) (by first | rfl | exact x_ok_q rfl) rfl ?_
                have L_52 : ∀ (w_52 : Nat) (k0 : Nat), n - k0 < w_52 → (k0 ≤ n) → XW pP l eE rm_X9_countInY sS mM aA bB hH cC G Z 0 0 (K, N, I2, Q, J) 52 [some (.ref m), some (.int (nI a)), some (.int (nI b)), some (.int (nI c)), some (.int (nI d)), some (.int (nI (cn (fun i => pa i && decide (a ≤ pc i / 100) && decide (pc i / 100 ≤ c) && decide (b ≤ pc i % 100) && decide (pc i % 100 ≤ d)) k0))), some (.int (nI k0))] [] := by
                  intro w_52
                  induction w_52 with
                  | zero =>
                    intro k0 hw_52
                    exact absurd hw_52 (Nat.not_lt_zero _)
                  | succ w_52 ih_52 =>
                    intro k0 hw_52 hk0
                    refine x_iload C D_X9_countIn_2.2.2.2.2.1 rfl ?_
                    refine x_aload_n C D_X9_countIn_2.2.2.2.2.2.1 rfl rfl (by first | exact Or.inr ⟨_, rfl⟩ | exact va_rf_or _ | exact Or.inl rfl) ?_
                    refine x_getI C (ci := 8) (k0 := 10) (by assumption) (by decide) rfl (by decide) in_X9 k_912 rfl rfl D_X9_countIn_2.2.2.2.2.2.2.1 ?_
                    first
                    | refine x_eqi _ (i2n) ?_
                    | refine x_eqi _ (h4 _ (by omega)) ?_
                    | refine x_eqi _ (hf1) ?_
                    | refine x_eqi _ (hf2) ?_
                    | skip
                    refine x_icmp_ge C 132 D_X9_countIn_2.2.2.2.2.2.2.2.1 (by decide) (fun c_58 => ?_) (fun c_58 => ?_)
                    · skip
                      first
                      | have d_58 := cv_le c_58 (by omega) (by omega)
                      | skip
                      obtain rfl : n = k0 := by omega
                      refine x_iload C D_X9_countIn_5.2.2.2.2.2.2.2.2.2.1 rfl ?_
                      refine ret _ _ _ _ _ _ rfl D_X9_countIn_5.2.2.2.2.2.2.2.2.2.2 (Nat.le_of_ble_eq_true rfl) (Nat.le_of_ble_eq_true rfl) ?_
                      exact ⟨rfl, by rw [eI2]⟩
                    · skip
                      first
                      | have d_58 := cv_nle c_58 (by omega) (by omega)
                      | skip
                      have hp9 := hpc k0 (by omega)
                      have hcl := cn_le (fun i => pa i && decide (a ≤ pc i / 100) && decide (pc i / 100 ≤ c) && decide (b ≤ pc i % 100) && decide (pc i % 100 ≤ d)) k0
                      have hf1 : I2 (ar 12) k0 = nI (pc k0 / 100) := by rw [i2 _ hm12]; exact h12 k0 (by omega)
                      have hf2 : I2 (ar 13) k0 = nI (pc k0 % 100) := by rw [i2 _ hm13]; exact h13 k0 (by omega)
                      refine x_iload C D_X9_countIn_2.2.2.2.2.2.2.2.2.1 rfl ?_
                      refine x_aload_n C D_X9_countIn_2.2.2.2.2.2.2.2.2.2.1 rfl rfl (by first | exact Or.inr ⟨_, rfl⟩ | exact va_rf_or _ | exact Or.inl rfl) ?_
                      refine x_getQ C (ci := 8) (k0 := 14) (by assumption) (by decide) rfl (by decide) in_X9 k_916 rfl rfl D_X9_countIn_2.2.2.2.2.2.2.2.2.2.2.1 ?_
                      refine x_eqr (hM.2.1 14 (by decide)).1 ?_
                      refine x_iload C D_X9_countIn_2.2.2.2.2.2.2.2.2.2.2.2 rfl ?_
                      refine x_zald C _ (by first | assumption | exact (hM.2.1 _ (by decide)).2.1) rfl (by first | omega | (rw [hM.nk _ (by decide)]; omega) | (rw [hM.np _ (by decide)]; omega)) (by first | omega | (rw [hM.nk _ (by decide)]; omega) | (rw [hM.np _ (by decide)]; omega)) D_X9_countIn_3.1 ?_
                      first
                      | refine x_eqi _ (i2n) ?_
                      | refine x_eqi _ (h4 _ (by omega)) ?_
                      | refine x_eqi _ (hf1) ?_
                      | refine x_eqi _ (hf2) ?_
                      | skip
                      refine x_if_eq C 122 D_X9_countIn_3.2.1 (by decide) (fun c_70 => ?_) (fun c_70 => ?_)
                      · skip
                        first
                        | have d_70 := cz_eq c_70 (by omega)
                        | have d_70 := cb_eq c_70
                        | skip
                        have hs : cn (fun i => pa i && decide (a ≤ pc i / 100) && decide (pc i / 100 ≤ c) && decide (b ≤ pc i % 100) && decide (pc i % 100 ≤ d)) (k0 + 1) = cn (fun i => pa i && decide (a ≤ pc i / 100) && decide (pc i / 100 ≤ c) && decide (b ≤ pc i % 100) && decide (pc i % 100 ≤ d)) k0 + 0 := by simp [cn, d_70]
                        refine x_iconst C (v := nI 0) D_X9_countIn_5.2.2.2.2.1 (by decide +kernel) ?_
                        refine x_iadd C D_X9_countIn_5.2.2.2.2.2.1 ?_
                        first
                        | refine x_eqi _ (nI_add _ _) ?_
                        | skip
                        refine x_istore C (lv' := [_, _, _, _, _, _, _]) D_X9_countIn_5.2.2.2.2.2.2.1 (Nat.le_of_ble_eq_true rfl) (by first | rfl | exact x_ok_q rfl) rfl ?_
                        first
                        | refine x_iinc C (lv' := [_, _, _, _, _, _, _]) D_X9_countIn_5.2.2.2.2.2.2.2.1 rfl (x_incN_1 _) (by first | rfl | exact x_ok_q rfl) rfl ?_
                        | refine x_iinc C (lv' := [_, _, _, _, _, _, _]) D_X9_countIn_5.2.2.2.2.2.2.2.1 rfl (x_inc_1 _) (by first | rfl | exact x_ok_q rfl) rfl ?_
                        refine x_goto C 52 D_X9_countIn_5.2.2.2.2.2.2.2.2.1 (by decide) ?_
                        rw [← hs]
                        exact ih_52 (k0 + 1) (by omega) (by omega)
                      · skip
                        first
                        | have d_70 := cz_ne c_70 (by omega)
                        | have d_70 := cb_ne c_70
                        | skip
                        refine x_aload_n C D_X9_countIn_3.2.2.1 rfl rfl (by first | exact Or.inr ⟨_, rfl⟩ | exact va_rf_or _ | exact Or.inl rfl) ?_
                        refine x_getQ C (ci := 8) (k0 := 12) (by assumption) (by decide) rfl (by decide) in_X9 k_914 rfl rfl D_X9_countIn_3.2.2.2.1 ?_
                        refine x_eqr (hM.2.1 12 (by decide)).1 ?_
                        refine x_iload C D_X9_countIn_3.2.2.2.2.1 rfl ?_
                        refine x_iald C _ (by first | assumption | exact (hM.2.1 _ (by decide)).2.1) rfl (by first | omega | (rw [hM.nk _ (by decide)]; omega) | (rw [hM.np _ (by decide)]; omega)) (by first | omega | (rw [hM.nk _ (by decide)]; omega) | (rw [hM.np _ (by decide)]; omega)) D_X9_countIn_3.2.2.2.2.2.1 ?_
                        first
                        | refine x_eqi _ (i2n) ?_
                        | refine x_eqi _ (h4 _ (by omega)) ?_
                        | refine x_eqi _ (hf1) ?_
                        | refine x_eqi _ (hf2) ?_
                        | skip
                        refine x_iload_n C D_X9_countIn_3.2.2.2.2.2.2.1 rfl rfl ?_
                        refine x_icmp_lt C 122 D_X9_countIn_3.2.2.2.2.2.2.2.1 (by decide) (fun c_81 => ?_) (fun c_81 => ?_)
                        · skip
                          first
                          | have d_81 := cv_lt c_81 (by omega) (by omega)
                          | skip
                          have hs : cn (fun i => pa i && decide (a ≤ pc i / 100) && decide (pc i / 100 ≤ c) && decide (b ≤ pc i % 100) && decide (pc i % 100 ≤ d)) (k0 + 1) = cn (fun i => pa i && decide (a ≤ pc i / 100) && decide (pc i / 100 ≤ c) && decide (b ≤ pc i % 100) && decide (pc i % 100 ≤ d)) k0 + 0 := by
                            simp only [cn]
                            rw [if_neg (by simp only [Bool.and_eq_true, decide_eq_true_eq]; omega)]
                          refine x_iconst C (v := nI 0) D_X9_countIn_5.2.2.2.2.1 (by decide +kernel) ?_
                          refine x_iadd C D_X9_countIn_5.2.2.2.2.2.1 ?_
                          first
                          | refine x_eqi _ (nI_add _ _) ?_
                          | skip
                          refine x_istore C (lv' := [_, _, _, _, _, _, _]) D_X9_countIn_5.2.2.2.2.2.2.1 (Nat.le_of_ble_eq_true rfl) (by first | rfl | exact x_ok_q rfl) rfl ?_
                          first
                          | refine x_iinc C (lv' := [_, _, _, _, _, _, _]) D_X9_countIn_5.2.2.2.2.2.2.2.1 rfl (x_incN_1 _) (by first | rfl | exact x_ok_q rfl) rfl ?_
                          | refine x_iinc C (lv' := [_, _, _, _, _, _, _]) D_X9_countIn_5.2.2.2.2.2.2.2.1 rfl (x_inc_1 _) (by first | rfl | exact x_ok_q rfl) rfl ?_
                          refine x_goto C 52 D_X9_countIn_5.2.2.2.2.2.2.2.2.1 (by decide) ?_
                          rw [← hs]
                          exact ih_52 (k0 + 1) (by omega) (by omega)
                        · skip
                          first
                          | have d_81 := cv_nlt c_81 (by omega) (by omega)
                          | skip
                          refine x_aload_n C D_X9_countIn_3.2.2.2.2.2.2.2.2.1 rfl rfl (by first | exact Or.inr ⟨_, rfl⟩ | exact va_rf_or _ | exact Or.inl rfl) ?_
                          refine x_getQ C (ci := 8) (k0 := 12) (by assumption) (by decide) rfl (by decide) in_X9 k_914 rfl rfl D_X9_countIn_3.2.2.2.2.2.2.2.2.2.1 ?_
                          refine x_eqr (hM.2.1 12 (by decide)).1 ?_
                          refine x_iload C D_X9_countIn_3.2.2.2.2.2.2.2.2.2.2.1 rfl ?_
                          refine x_iald C _ (by first | assumption | exact (hM.2.1 _ (by decide)).2.1) rfl (by first | omega | (rw [hM.nk _ (by decide)]; omega) | (rw [hM.np _ (by decide)]; omega)) (by first | omega | (rw [hM.nk _ (by decide)]; omega) | (rw [hM.np _ (by decide)]; omega)) D_X9_countIn_3.2.2.2.2.2.2.2.2.2.2.2 ?_
                          first
                          | refine x_eqi _ (i2n) ?_
                          | refine x_eqi _ (h4 _ (by omega)) ?_
                          | refine x_eqi _ (hf1) ?_
                          | refine x_eqi _ (hf2) ?_
                          | skip
                          refine x_iload_n C D_X9_countIn_4.1 rfl rfl ?_
                          refine x_icmp_gt C 122 D_X9_countIn_4.2.1 (by decide) (fun c_92 => ?_) (fun c_92 => ?_)
                          · skip
                            first
                            | have d_92 := cv_lt c_92 (by omega) (by omega)
                            | skip
                            have hs : cn (fun i => pa i && decide (a ≤ pc i / 100) && decide (pc i / 100 ≤ c) && decide (b ≤ pc i % 100) && decide (pc i % 100 ≤ d)) (k0 + 1) = cn (fun i => pa i && decide (a ≤ pc i / 100) && decide (pc i / 100 ≤ c) && decide (b ≤ pc i % 100) && decide (pc i % 100 ≤ d)) k0 + 0 := by
                              simp only [cn]
                              rw [if_neg (by simp only [Bool.and_eq_true, decide_eq_true_eq]; omega)]
                            refine x_iconst C (v := nI 0) D_X9_countIn_5.2.2.2.2.1 (by decide +kernel) ?_
                            refine x_iadd C D_X9_countIn_5.2.2.2.2.2.1 ?_
                            first
                            | refine x_eqi _ (nI_add _ _) ?_
                            | skip
                            refine x_istore C (lv' := [_, _, _, _, _, _, _]) D_X9_countIn_5.2.2.2.2.2.2.1 (Nat.le_of_ble_eq_true rfl) (by first | rfl | exact x_ok_q rfl) rfl ?_
                            first
                            | refine x_iinc C (lv' := [_, _, _, _, _, _, _]) D_X9_countIn_5.2.2.2.2.2.2.2.1 rfl (x_incN_1 _) (by first | rfl | exact x_ok_q rfl) rfl ?_
                            | refine x_iinc C (lv' := [_, _, _, _, _, _, _]) D_X9_countIn_5.2.2.2.2.2.2.2.1 rfl (x_inc_1 _) (by first | rfl | exact x_ok_q rfl) rfl ?_
                            refine x_goto C 52 D_X9_countIn_5.2.2.2.2.2.2.2.2.1 (by decide) ?_
                            rw [← hs]
                            exact ih_52 (k0 + 1) (by omega) (by omega)
                          · skip
                            first
                            | have d_92 := cv_nlt c_92 (by omega) (by omega)
                            | skip
                            refine x_aload_n C D_X9_countIn_4.2.2.1 rfl rfl (by first | exact Or.inr ⟨_, rfl⟩ | exact va_rf_or _ | exact Or.inl rfl) ?_
                            refine x_getQ C (ci := 8) (k0 := 13) (by assumption) (by decide) rfl (by decide) in_X9 k_915 rfl rfl D_X9_countIn_4.2.2.2.1 ?_
                            refine x_eqr (hM.2.1 13 (by decide)).1 ?_
                            refine x_iload C D_X9_countIn_4.2.2.2.2.1 rfl ?_
                            refine x_iald C _ (by first | assumption | exact (hM.2.1 _ (by decide)).2.1) rfl (by first | omega | (rw [hM.nk _ (by decide)]; omega) | (rw [hM.np _ (by decide)]; omega)) (by first | omega | (rw [hM.nk _ (by decide)]; omega) | (rw [hM.np _ (by decide)]; omega)) D_X9_countIn_4.2.2.2.2.2.1 ?_
                            first
                            | refine x_eqi _ (i2n) ?_
                            | refine x_eqi _ (h4 _ (by omega)) ?_
                            | refine x_eqi _ (hf1) ?_
                            | refine x_eqi _ (hf2) ?_
                            | skip
                            refine x_iload_n C D_X9_countIn_4.2.2.2.2.2.2.1 rfl rfl ?_
                            refine x_icmp_lt C 122 D_X9_countIn_4.2.2.2.2.2.2.2.1 (by decide) (fun c_103 => ?_) (fun c_103 => ?_)
                            · skip
                              first
                              | have d_103 := cv_lt c_103 (by omega) (by omega)
                              | skip
                              have hs : cn (fun i => pa i && decide (a ≤ pc i / 100) && decide (pc i / 100 ≤ c) && decide (b ≤ pc i % 100) && decide (pc i % 100 ≤ d)) (k0 + 1) = cn (fun i => pa i && decide (a ≤ pc i / 100) && decide (pc i / 100 ≤ c) && decide (b ≤ pc i % 100) && decide (pc i % 100 ≤ d)) k0 + 0 := by
                                simp only [cn]
                                rw [if_neg (by simp only [Bool.and_eq_true, decide_eq_true_eq]; omega)]
                              refine x_iconst C (v := nI 0) D_X9_countIn_5.2.2.2.2.1 (by decide +kernel) ?_
                              refine x_iadd C D_X9_countIn_5.2.2.2.2.2.1 ?_
                              first
                              | refine x_eqi _ (nI_add _ _) ?_
                              | skip
                              refine x_istore C (lv' := [_, _, _, _, _, _, _]) D_X9_countIn_5.2.2.2.2.2.2.1 (Nat.le_of_ble_eq_true rfl) (by first | rfl | exact x_ok_q rfl) rfl ?_
                              first
                              | refine x_iinc C (lv' := [_, _, _, _, _, _, _]) D_X9_countIn_5.2.2.2.2.2.2.2.1 rfl (x_incN_1 _) (by first | rfl | exact x_ok_q rfl) rfl ?_
                              | refine x_iinc C (lv' := [_, _, _, _, _, _, _]) D_X9_countIn_5.2.2.2.2.2.2.2.1 rfl (x_inc_1 _) (by first | rfl | exact x_ok_q rfl) rfl ?_
                              refine x_goto C 52 D_X9_countIn_5.2.2.2.2.2.2.2.2.1 (by decide) ?_
                              rw [← hs]
                              exact ih_52 (k0 + 1) (by omega) (by omega)
                            · skip
                              first
                              | have d_103 := cv_nlt c_103 (by omega) (by omega)
                              | skip
                              refine x_aload_n C D_X9_countIn_4.2.2.2.2.2.2.2.2.1 rfl rfl (by first | exact Or.inr ⟨_, rfl⟩ | exact va_rf_or _ | exact Or.inl rfl) ?_
                              refine x_getQ C (ci := 8) (k0 := 13) (by assumption) (by decide) rfl (by decide) in_X9 k_915 rfl rfl D_X9_countIn_4.2.2.2.2.2.2.2.2.2.1 ?_
                              refine x_eqr (hM.2.1 13 (by decide)).1 ?_
                              refine x_iload C D_X9_countIn_4.2.2.2.2.2.2.2.2.2.2.1 rfl ?_
                              refine x_iald C _ (by first | assumption | exact (hM.2.1 _ (by decide)).2.1) rfl (by first | omega | (rw [hM.nk _ (by decide)]; omega) | (rw [hM.np _ (by decide)]; omega)) (by first | omega | (rw [hM.nk _ (by decide)]; omega) | (rw [hM.np _ (by decide)]; omega)) D_X9_countIn_4.2.2.2.2.2.2.2.2.2.2.2 ?_
                              first
                              | refine x_eqi _ (i2n) ?_
                              | refine x_eqi _ (h4 _ (by omega)) ?_
                              | refine x_eqi _ (hf1) ?_
                              | refine x_eqi _ (hf2) ?_
                              | skip
                              refine x_iload C D_X9_countIn_5.1 rfl ?_
                              refine x_icmp_gt C 122 D_X9_countIn_5.2.1 (by decide) (fun c_115 => ?_) (fun c_115 => ?_)
                              · skip
                                first
                                | have d_115 := cv_lt c_115 (by omega) (by omega)
                                | skip
                                have hs : cn (fun i => pa i && decide (a ≤ pc i / 100) && decide (pc i / 100 ≤ c) && decide (b ≤ pc i % 100) && decide (pc i % 100 ≤ d)) (k0 + 1) = cn (fun i => pa i && decide (a ≤ pc i / 100) && decide (pc i / 100 ≤ c) && decide (b ≤ pc i % 100) && decide (pc i % 100 ≤ d)) k0 + 0 := by
                                  simp only [cn]
                                  rw [if_neg (by simp only [Bool.and_eq_true, decide_eq_true_eq]; omega)]
                                refine x_iconst C (v := nI 0) D_X9_countIn_5.2.2.2.2.1 (by decide +kernel) ?_
                                refine x_iadd C D_X9_countIn_5.2.2.2.2.2.1 ?_
                                first
                                | refine x_eqi _ (nI_add _ _) ?_
                                | skip
                                refine x_istore C (lv' := [_, _, _, _, _, _, _]) D_X9_countIn_5.2.2.2.2.2.2.1 (Nat.le_of_ble_eq_true rfl) (by first | rfl | exact x_ok_q rfl) rfl ?_
                                first
                                | refine x_iinc C (lv' := [_, _, _, _, _, _, _]) D_X9_countIn_5.2.2.2.2.2.2.2.1 rfl (x_incN_1 _) (by first | rfl | exact x_ok_q rfl) rfl ?_
                                | refine x_iinc C (lv' := [_, _, _, _, _, _, _]) D_X9_countIn_5.2.2.2.2.2.2.2.1 rfl (x_inc_1 _) (by first | rfl | exact x_ok_q rfl) rfl ?_
                                refine x_goto C 52 D_X9_countIn_5.2.2.2.2.2.2.2.2.1 (by decide) ?_
                                rw [← hs]
                                exact ih_52 (k0 + 1) (by omega) (by omega)
                              · skip
                                first
                                | have d_115 := cv_nlt c_115 (by omega) (by omega)
                                | skip
                                have hs : cn (fun i => pa i && decide (a ≤ pc i / 100) && decide (pc i / 100 ≤ c) && decide (b ≤ pc i % 100) && decide (pc i % 100 ≤ d)) (k0 + 1) = cn (fun i => pa i && decide (a ≤ pc i / 100) && decide (pc i / 100 ≤ c) && decide (b ≤ pc i % 100) && decide (pc i % 100 ≤ d)) k0 + 1 := by
                                  simp only [cn]
                                  rw [if_pos (by simp only [Bool.and_eq_true, decide_eq_true_eq]; exact ⟨⟨⟨⟨d_70, by omega⟩, by omega⟩, by omega⟩, by omega⟩)]
                                refine x_iconst C (v := nI 1) D_X9_countIn_5.2.2.1 (by decide +kernel) ?_
                                refine x_goto C 123 D_X9_countIn_5.2.2.2.1 (by decide) ?_
                                refine x_iadd C D_X9_countIn_5.2.2.2.2.2.1 ?_
                                first
                                | refine x_eqi _ (nI_add _ _) ?_
                                | skip
                                refine x_istore C (lv' := [_, _, _, _, _, _, _]) D_X9_countIn_5.2.2.2.2.2.2.1 (Nat.le_of_ble_eq_true rfl) (by first | rfl | exact x_ok_q rfl) rfl ?_
                                first
                                | refine x_iinc C (lv' := [_, _, _, _, _, _, _]) D_X9_countIn_5.2.2.2.2.2.2.2.1 rfl (x_incN_1 _) (by first | rfl | exact x_ok_q rfl) rfl ?_
                                | refine x_iinc C (lv' := [_, _, _, _, _, _, _]) D_X9_countIn_5.2.2.2.2.2.2.2.1 rfl (x_inc_1 _) (by first | rfl | exact x_ok_q rfl) rfl ?_
                                refine x_goto C 52 D_X9_countIn_5.2.2.2.2.2.2.2.2.1 (by decide) ?_
                                rw [← hs]
                                exact ih_52 (k0 + 1) (by omega) (by omega)
                exact L_52 _ 0 (Nat.lt_succ_self _) (Nat.zero_le _)
              · skip
                exact absurd c_41 (by decide)
            · skip
              first
              | have d_30 := cv_nle c_30 (by omega) (by omega)
              | skip
              exfalso; omega
              --end
abbrev rm_X9_nearestX : Room := { frames := 1, cells := 0, slots := 0, locals := 21 }
set_option maxHeartbeats 4000000 in
set_option maxRecDepth 100000 in
theorem c_X9_nearestX (l : Launch) (G : xG) {K N : Nat → Nat} {I : Nat → Nat → Int32} {Q : Nat → Nat → Option Nat} {J : Nat → Nat → Int64} (m n : Nat) (ar pc ps : Nat → Nat) (pa : Nat → Bool) (x y : Int32) (hM : MZ K N Q m ar) (hK : PV I m ar n pc pa ps) (hx : x < 0 ∨ nI 99 < x ∨ y < 0 ∨ nI 99 < y)  : XM l yX9_nearest cX9_nearest 8 (some .int) rm_X9_nearestX G Ri [.ref m, .int x, .int y] (K, N, I, Q, J) (fun r S1 => r = nI 0 ∧ S1 = (K, N, x_u2 I m 18 (nI 1), Q, J)) := by
  refine x_meti (lv := [_, _, _, _, _, _, _, _]) (by decide +kernel) (x_cc (by first | rfl | exact x_crf _) (x_cc (by first | rfl | exact x_crf _) (x_cc (by first | rfl | exact x_crf _) x_cn))) (Nat.le_of_ble_eq_true rfl) rfl ?_
  intro pP eE sS mM aA bB hH cC Z C hini ret
  have hk9 := hM.1
  obtain ⟨hn, hn121, h12, h13, h14, h15⟩ := hK
  have h122 := hM.np 14 (by decide)
  have n1213 : x_ne (ar 12) (ar 13) := hM.ne 12 13 (by decide)
  have n1214 : x_ne (ar 12) (ar 14) := hM.ne 12 14 (by decide)
  have n1215 : x_ne (ar 12) (ar 15) := hM.ne 12 15 (by decide)
  have n1216 : x_ne (ar 12) (ar 16) := hM.ne 12 16 (by decide)
  have n1217 : x_ne (ar 12) (ar 17) := hM.ne 12 17 (by decide)
  have n1312 : x_ne (ar 13) (ar 12) := hM.ne 13 12 (by decide)
  have n1314 : x_ne (ar 13) (ar 14) := hM.ne 13 14 (by decide)
  have n1315 : x_ne (ar 13) (ar 15) := hM.ne 13 15 (by decide)
  have n1316 : x_ne (ar 13) (ar 16) := hM.ne 13 16 (by decide)
  have n1317 : x_ne (ar 13) (ar 17) := hM.ne 13 17 (by decide)
  have n1412 : x_ne (ar 14) (ar 12) := hM.ne 14 12 (by decide)
  have n1413 : x_ne (ar 14) (ar 13) := hM.ne 14 13 (by decide)
  have n1415 : x_ne (ar 14) (ar 15) := hM.ne 14 15 (by decide)
  have n1416 : x_ne (ar 14) (ar 16) := hM.ne 14 16 (by decide)
  have n1417 : x_ne (ar 14) (ar 17) := hM.ne 14 17 (by decide)
  have n1512 : x_ne (ar 15) (ar 12) := hM.ne 15 12 (by decide)
  have n1513 : x_ne (ar 15) (ar 13) := hM.ne 15 13 (by decide)
  have n1514 : x_ne (ar 15) (ar 14) := hM.ne 15 14 (by decide)
  have n1516 : x_ne (ar 15) (ar 16) := hM.ne 15 16 (by decide)
  have n1517 : x_ne (ar 15) (ar 17) := hM.ne 15 17 (by decide)
  have n1612 : x_ne (ar 16) (ar 12) := hM.ne 16 12 (by decide)
  have n1613 : x_ne (ar 16) (ar 13) := hM.ne 16 13 (by decide)
  have n1614 : x_ne (ar 16) (ar 14) := hM.ne 16 14 (by decide)
  have n1615 : x_ne (ar 16) (ar 15) := hM.ne 16 15 (by decide)
  have n1617 : x_ne (ar 16) (ar 17) := hM.ne 16 17 (by decide)
  have n1712 : x_ne (ar 17) (ar 12) := hM.ne 17 12 (by decide)
  have n1713 : x_ne (ar 17) (ar 13) := hM.ne 17 13 (by decide)
  have n1714 : x_ne (ar 17) (ar 14) := hM.ne 17 14 (by decide)
  have n1715 : x_ne (ar 17) (ar 15) := hM.ne 17 15 (by decide)
  have n1716 : x_ne (ar 17) (ar 16) := hM.ne 17 16 (by decide)
  have hm12 : x_ne (ar 12) m := hM.nm 12 (by decide)
  have hm13 : x_ne (ar 13) m := hM.nm 13 (by decide)
  have hm14 : x_ne (ar 14) m := hM.nm 14 (by decide)
  have hm15 : x_ne (ar 15) m := hM.nm 15 (by decide)
  have hm16 : x_ne (ar 16) m := hM.nm 16 (by decide)
  have hm17 : x_ne (ar 17) m := hM.nm 17 (by decide)
  
  refine x_aload_n C D_X9_nearest_0.1 rfl rfl (by first | exact Or.inr ⟨_, rfl⟩ | exact va_rf_or _ | exact Or.inl rfl) ?_
  refine x_iload_n C D_X9_nearest_0.2.1 rfl rfl ?_
  refine x_if_lt C 21 D_X9_nearest_0.2.2.1 (by decide) (fun c_2 => ?_) (fun c_2 => ?_)
  · skip
    refine x_iconst C (v := nI 1) D_X9_nearest_0.2.2.2.2.2.2.2.2.2.2.2 (by decide +kernel) ?_
    refine x_goto C 37 D_X9_nearest_1.1 (by decide) ?_
    refine x_callVz C (y := yX9_can) (c_X9_can l G m _ hM.1) (ci := 8) hM.1 (by decide) rfl rfl k_978 k_980 k_37 k_67 k_981 hd_X9_can ⟨(Nat.le_of_ble_eq_true rfl), (Nat.le_of_ble_eq_true rfl)⟩ rfl (by first | exact Nat.le_of_ble_eq_true rfl | simp [x_crf, Value.category]) rfl rfl D_X9_nearest_1.2.2.2.2.2.2.2.1 ⟨(Nat.le_of_ble_eq_true rfl), (Nat.le_of_ble_eq_true rfl)⟩ (fun r_37 S_37 h_37 => ?_)
    obtain ⟨rfl, rfl⟩ := h_37
    refine x_if_ne C 45 D_X9_nearest_1.2.2.2.2.2.2.2.2.1 (by decide) (fun c_40 => ?_) (fun c_40 => ?_)
    · skip
      exact absurd c_40 (by decide)
    · skip
      first
      | have d_40 := cz_eq c_40 (by omega)
      | have d_40 := cb_eq c_40
      | skip
      refine x_iconst C (v := nI 0) D_X9_nearest_1.2.2.2.2.2.2.2.2.2.1 (by decide +kernel) ?_
      refine ret _ _ _ _ _ _ rfl D_X9_nearest_1.2.2.2.2.2.2.2.2.2.2.1 (Nat.le_of_ble_eq_true rfl) (Nat.le_of_ble_eq_true rfl) ?_
      exact ⟨rfl, rfl⟩
  · skip
    refine x_iload_n C D_X9_nearest_0.2.2.2.1 rfl rfl ?_
    refine x_bipush C (v := nI 99) D_X9_nearest_0.2.2.2.2.1 (by decide +kernel) ?_
    refine x_icmp_gt C 21 D_X9_nearest_0.2.2.2.2.2.1 (by decide) (fun c_8 => ?_) (fun c_8 => ?_)
    · skip
      refine x_iconst C (v := nI 1) D_X9_nearest_0.2.2.2.2.2.2.2.2.2.2.2 (by decide +kernel) ?_
      refine x_goto C 37 D_X9_nearest_1.1 (by decide) ?_
      refine x_callVz C (y := yX9_can) (c_X9_can l G m _ hM.1) (ci := 8) hM.1 (by decide) rfl rfl k_978 k_980 k_37 k_67 k_981 hd_X9_can ⟨(Nat.le_of_ble_eq_true rfl), (Nat.le_of_ble_eq_true rfl)⟩ rfl (by first | exact Nat.le_of_ble_eq_true rfl | simp [x_crf, Value.category]) rfl rfl D_X9_nearest_1.2.2.2.2.2.2.2.1 ⟨(Nat.le_of_ble_eq_true rfl), (Nat.le_of_ble_eq_true rfl)⟩ (fun r_37 S_37 h_37 => ?_)
      obtain ⟨rfl, rfl⟩ := h_37
      refine x_if_ne C 45 D_X9_nearest_1.2.2.2.2.2.2.2.2.1 (by decide) (fun c_40 => ?_) (fun c_40 => ?_)
      · skip
        exact absurd c_40 (by decide)
      · skip
        first
        | have d_40 := cz_eq c_40 (by omega)
        | have d_40 := cb_eq c_40
        | skip
        refine x_iconst C (v := nI 0) D_X9_nearest_1.2.2.2.2.2.2.2.2.2.1 (by decide +kernel) ?_
        refine ret _ _ _ _ _ _ rfl D_X9_nearest_1.2.2.2.2.2.2.2.2.2.2.1 (Nat.le_of_ble_eq_true rfl) (Nat.le_of_ble_eq_true rfl) ?_
        exact ⟨rfl, rfl⟩
    · skip
      refine x_iload_n C D_X9_nearest_0.2.2.2.2.2.2.1 rfl rfl ?_
      refine x_if_lt C 21 D_X9_nearest_0.2.2.2.2.2.2.2.1 (by decide) (fun c_12 => ?_) (fun c_12 => ?_)
      · skip
        refine x_iconst C (v := nI 1) D_X9_nearest_0.2.2.2.2.2.2.2.2.2.2.2 (by decide +kernel) ?_
        refine x_goto C 37 D_X9_nearest_1.1 (by decide) ?_
        refine x_callVz C (y := yX9_can) (c_X9_can l G m _ hM.1) (ci := 8) hM.1 (by decide) rfl rfl k_978 k_980 k_37 k_67 k_981 hd_X9_can ⟨(Nat.le_of_ble_eq_true rfl), (Nat.le_of_ble_eq_true rfl)⟩ rfl (by first | exact Nat.le_of_ble_eq_true rfl | simp [x_crf, Value.category]) rfl rfl D_X9_nearest_1.2.2.2.2.2.2.2.1 ⟨(Nat.le_of_ble_eq_true rfl), (Nat.le_of_ble_eq_true rfl)⟩ (fun r_37 S_37 h_37 => ?_)
        obtain ⟨rfl, rfl⟩ := h_37
        refine x_if_ne C 45 D_X9_nearest_1.2.2.2.2.2.2.2.2.1 (by decide) (fun c_40 => ?_) (fun c_40 => ?_)
        · skip
          exact absurd c_40 (by decide)
        · skip
          first
          | have d_40 := cz_eq c_40 (by omega)
          | have d_40 := cb_eq c_40
          | skip
          refine x_iconst C (v := nI 0) D_X9_nearest_1.2.2.2.2.2.2.2.2.2.1 (by decide +kernel) ?_
          refine ret _ _ _ _ _ _ rfl D_X9_nearest_1.2.2.2.2.2.2.2.2.2.2.1 (Nat.le_of_ble_eq_true rfl) (Nat.le_of_ble_eq_true rfl) ?_
          exact ⟨rfl, rfl⟩
      · skip
        refine x_iload_n C D_X9_nearest_0.2.2.2.2.2.2.2.2.1 rfl rfl ?_
        refine x_bipush C (v := nI 99) D_X9_nearest_0.2.2.2.2.2.2.2.2.2.1 (by decide +kernel) ?_
        refine x_icmp_le C 25 D_X9_nearest_0.2.2.2.2.2.2.2.2.2.2.1 (by decide) (fun c_18 => ?_) (fun c_18 => ?_)
        · skip
          exfalso
          rcases hx with h | h | h | h
          · exact c_2 h
          · exact c_8 h
          · exact c_12 h
          · rw [i32_lt] at h; rw [i32_le] at c_18; omega
          --end
        · skip
          refine x_iconst C (v := nI 1) D_X9_nearest_0.2.2.2.2.2.2.2.2.2.2.2 (by decide +kernel) ?_
          refine x_goto C 37 D_X9_nearest_1.1 (by decide) ?_
          refine x_callVz C (y := yX9_can) (c_X9_can l G m _ hM.1) (ci := 8) hM.1 (by decide) rfl rfl k_978 k_980 k_37 k_67 k_981 hd_X9_can ⟨(Nat.le_of_ble_eq_true rfl), (Nat.le_of_ble_eq_true rfl)⟩ rfl (by first | exact Nat.le_of_ble_eq_true rfl | simp [x_crf, Value.category]) rfl rfl D_X9_nearest_1.2.2.2.2.2.2.2.1 ⟨(Nat.le_of_ble_eq_true rfl), (Nat.le_of_ble_eq_true rfl)⟩ (fun r_37 S_37 h_37 => ?_)
          obtain ⟨rfl, rfl⟩ := h_37
          refine x_if_ne C 45 D_X9_nearest_1.2.2.2.2.2.2.2.2.1 (by decide) (fun c_40 => ?_) (fun c_40 => ?_)
          · skip
            exact absurd c_40 (by decide)
          · skip
            first
            | have d_40 := cz_eq c_40 (by omega)
            | have d_40 := cb_eq c_40
            | skip
            refine x_iconst C (v := nI 0) D_X9_nearest_1.2.2.2.2.2.2.2.2.2.1 (by decide +kernel) ?_
            refine ret _ _ _ _ _ _ rfl D_X9_nearest_1.2.2.2.2.2.2.2.2.2.2.1 (Nat.le_of_ble_eq_true rfl) (Nat.le_of_ble_eq_true rfl) ?_
            exact ⟨rfl, rfl⟩
abbrev rm_X9_nearestZ : Room := { frames := 1, cells := 0, slots := 0, locals := 22 }
set_option maxHeartbeats 4000000 in
set_option maxRecDepth 100000 in
theorem c_X9_nearestZ (l : Launch) (G : xG) {K N : Nat → Nat} {I : Nat → Nat → Int32} {Q : Nat → Nat → Option Nat} {J : Nat → Nat → Int64} (m n : Nat) (ar pc ps : Nat → Nat) (pa : Nat → Bool) (x y : Nat) (hM : MZ K N Q m ar) (hK : PV I m ar n pc pa ps) (hx : x < 100) (hy : y < 100) (hlv : cn pa n = 0)  : XM l yX9_nearest cX9_nearest 8 (some .int) rm_X9_nearestZ G Ri [.ref m, .int (nI x), .int (nI y)] (K, N, I, Q, J) (fun r S1 => r = nI 0 ∧ S1 = (K, N, x_u2 I m 18 (nI 2), Q, J)) := by
  refine x_meti (lv := [_, _, _, _, _, _, _, _]) (by decide +kernel) (x_cc (by first | rfl | exact x_crf _) (x_cc (by first | rfl | exact x_crf _) (x_cc (by first | rfl | exact x_crf _) x_cn))) (Nat.le_of_ble_eq_true rfl) rfl ?_
  intro pP eE sS mM aA bB hH cC Z C hini ret
  have hk9 := hM.1
  obtain ⟨hn, hn121, h12, h13, h14, h15⟩ := hK
  have h122 := hM.np 14 (by decide)
  have n1213 : x_ne (ar 12) (ar 13) := hM.ne 12 13 (by decide)
  have n1214 : x_ne (ar 12) (ar 14) := hM.ne 12 14 (by decide)
  have n1215 : x_ne (ar 12) (ar 15) := hM.ne 12 15 (by decide)
  have n1216 : x_ne (ar 12) (ar 16) := hM.ne 12 16 (by decide)
  have n1217 : x_ne (ar 12) (ar 17) := hM.ne 12 17 (by decide)
  have n1312 : x_ne (ar 13) (ar 12) := hM.ne 13 12 (by decide)
  have n1314 : x_ne (ar 13) (ar 14) := hM.ne 13 14 (by decide)
  have n1315 : x_ne (ar 13) (ar 15) := hM.ne 13 15 (by decide)
  have n1316 : x_ne (ar 13) (ar 16) := hM.ne 13 16 (by decide)
  have n1317 : x_ne (ar 13) (ar 17) := hM.ne 13 17 (by decide)
  have n1412 : x_ne (ar 14) (ar 12) := hM.ne 14 12 (by decide)
  have n1413 : x_ne (ar 14) (ar 13) := hM.ne 14 13 (by decide)
  have n1415 : x_ne (ar 14) (ar 15) := hM.ne 14 15 (by decide)
  have n1416 : x_ne (ar 14) (ar 16) := hM.ne 14 16 (by decide)
  have n1417 : x_ne (ar 14) (ar 17) := hM.ne 14 17 (by decide)
  have n1512 : x_ne (ar 15) (ar 12) := hM.ne 15 12 (by decide)
  have n1513 : x_ne (ar 15) (ar 13) := hM.ne 15 13 (by decide)
  have n1514 : x_ne (ar 15) (ar 14) := hM.ne 15 14 (by decide)
  have n1516 : x_ne (ar 15) (ar 16) := hM.ne 15 16 (by decide)
  have n1517 : x_ne (ar 15) (ar 17) := hM.ne 15 17 (by decide)
  have n1612 : x_ne (ar 16) (ar 12) := hM.ne 16 12 (by decide)
  have n1613 : x_ne (ar 16) (ar 13) := hM.ne 16 13 (by decide)
  have n1614 : x_ne (ar 16) (ar 14) := hM.ne 16 14 (by decide)
  have n1615 : x_ne (ar 16) (ar 15) := hM.ne 16 15 (by decide)
  have n1617 : x_ne (ar 16) (ar 17) := hM.ne 16 17 (by decide)
  have n1712 : x_ne (ar 17) (ar 12) := hM.ne 17 12 (by decide)
  have n1713 : x_ne (ar 17) (ar 13) := hM.ne 17 13 (by decide)
  have n1714 : x_ne (ar 17) (ar 14) := hM.ne 17 14 (by decide)
  have n1715 : x_ne (ar 17) (ar 15) := hM.ne 17 15 (by decide)
  have n1716 : x_ne (ar 17) (ar 16) := hM.ne 17 16 (by decide)
  have hm12 : x_ne (ar 12) m := hM.nm 12 (by decide)
  have hm13 : x_ne (ar 13) m := hM.nm 13 (by decide)
  have hm14 : x_ne (ar 14) m := hM.nm 14 (by decide)
  have hm15 : x_ne (ar 15) m := hM.nm 15 (by decide)
  have hm16 : x_ne (ar 16) m := hM.nm 16 (by decide)
  have hm17 : x_ne (ar 17) m := hM.nm 17 (by decide)
  
  refine x_aload_n C D_X9_nearest_0.1 rfl rfl (by first | exact Or.inr ⟨_, rfl⟩ | exact va_rf_or _ | exact Or.inl rfl) ?_
  refine x_iload_n C D_X9_nearest_0.2.1 rfl rfl ?_
  refine x_if_lt C 21 D_X9_nearest_0.2.2.1 (by decide) (fun c_2 => ?_) (fun c_2 => ?_)
  · skip
    exact absurd c_2 (nI_pos (by omega))
    --end
  · skip
    refine x_iload_n C D_X9_nearest_0.2.2.2.1 rfl rfl ?_
    refine x_bipush C (v := nI 99) D_X9_nearest_0.2.2.2.2.1 (by decide +kernel) ?_
    refine x_icmp_gt C 21 D_X9_nearest_0.2.2.2.2.2.1 (by decide) (fun c_8 => ?_) (fun c_8 => ?_)
    · skip
      first
      | have d_8 := cv_lt c_8 (by omega) (by omega)
      | skip
      exfalso; omega
      --end
    · skip
      first
      | have d_8 := cv_nlt c_8 (by omega) (by omega)
      | skip
      refine x_iload_n C D_X9_nearest_0.2.2.2.2.2.2.1 rfl rfl ?_
      refine x_if_lt C 21 D_X9_nearest_0.2.2.2.2.2.2.2.1 (by decide) (fun c_12 => ?_) (fun c_12 => ?_)
      · skip
        exact absurd c_12 (nI_pos (by omega))
        --end
      · skip
        refine x_iload_n C D_X9_nearest_0.2.2.2.2.2.2.2.2.1 rfl rfl ?_
        refine x_bipush C (v := nI 99) D_X9_nearest_0.2.2.2.2.2.2.2.2.2.1 (by decide +kernel) ?_
        refine x_icmp_le C 25 D_X9_nearest_0.2.2.2.2.2.2.2.2.2.2.1 (by decide) (fun c_18 => ?_) (fun c_18 => ?_)
        · skip
          first
          | have d_18 := cv_le c_18 (by omega) (by omega)
          | skip
          refine x_aload_n C D_X9_nearest_1.2.1 rfl rfl (by first | exact Or.inr ⟨_, rfl⟩ | exact va_rf_or _ | exact Or.inl rfl) ?_
          refine x_callVi C (y := yX9_livingPoints) (c_X9_livingPoints l G m n ar pa hM hn (by omega) h14) (ci := 8) hM.1 (by decide) rfl rfl k_1149 k_1151 k_53 k_67 k_1152 hd_X9_livingPoints ⟨(Nat.le_of_ble_eq_true rfl), (Nat.le_of_ble_eq_true rfl)⟩ rfl (by first | exact Nat.le_of_ble_eq_true rfl | simp [x_crf, Value.category]) rfl rfl D_X9_nearest_1.2.2.1 ⟨(Nat.le_of_ble_eq_true rfl), (Nat.le_of_ble_eq_true rfl)⟩ (fun r_26 S_26 h_26 => ?_)
          obtain ⟨rfl, rfl⟩ := h_26
          refine x_if_ne C 36 D_X9_nearest_1.2.2.2.1 (by decide) (fun c_29 => ?_) (fun c_29 => ?_)
          · skip
            first
            | have d_29 := cz_ne c_29 (by omega)
            | have d_29 := cb_ne c_29
            | skip
            exfalso; omega
            --end
          · skip
            first
            | have d_29 := cz_eq c_29 (by omega)
            | have d_29 := cb_eq c_29
            | skip
            refine x_iconst C (v := nI 2) D_X9_nearest_1.2.2.2.2.1 (by decide +kernel) ?_
            refine x_goto C 37 D_X9_nearest_1.2.2.2.2.2.1 (by decide) ?_
            refine x_callVz C (y := yX9_can) (c_X9_can l G m _ hM.1) (ci := 8) hM.1 (by decide) rfl rfl k_978 k_980 k_37 k_67 k_981 hd_X9_can ⟨(Nat.le_of_ble_eq_true rfl), (Nat.le_of_ble_eq_true rfl)⟩ rfl (by first | exact Nat.le_of_ble_eq_true rfl | simp [x_crf, Value.category]) rfl rfl D_X9_nearest_1.2.2.2.2.2.2.2.1 ⟨(Nat.le_of_ble_eq_true rfl), (Nat.le_of_ble_eq_true rfl)⟩ (fun r_37 S_37 h_37 => ?_)
            obtain ⟨rfl, rfl⟩ := h_37
            refine x_if_ne C 45 D_X9_nearest_1.2.2.2.2.2.2.2.2.1 (by decide) (fun c_40 => ?_) (fun c_40 => ?_)
            · skip
              exact absurd c_40 (by decide)
            · skip
              first
              | have d_40 := cz_eq c_40 (by omega)
              | have d_40 := cb_eq c_40
              | skip
              refine x_iconst C (v := nI 0) D_X9_nearest_1.2.2.2.2.2.2.2.2.2.1 (by decide +kernel) ?_
              refine ret _ _ _ _ _ _ rfl D_X9_nearest_1.2.2.2.2.2.2.2.2.2.2.1 (Nat.le_of_ble_eq_true rfl) (Nat.le_of_ble_eq_true rfl) ?_
              exact ⟨rfl, rfl⟩
        · skip
          first
          | have d_18 := cv_nle c_18 (by omega) (by omega)
          | skip
          exfalso; omega
          --end
abbrev rm_X9_nearestY : Room := { frames := 1, cells := 0, slots := 0, locals := 22 }
set_option maxHeartbeats 4000000 in
set_option maxRecDepth 100000 in
theorem c_X9_nearestY (l : Launch) (G : xG) {K N : Nat → Nat} {I : Nat → Nat → Int32} {Q : Nat → Nat → Option Nat} {J : Nat → Nat → Int64} (m n : Nat) (ar pc ps : Nat → Nat) (pa : Nat → Bool) (x y : Nat) (hM : MZ K N Q m ar) (hK : PV I m ar n pc pa ps) (hx : x < 100) (hy : y < 100) (hlv : 0 < cn pa n) (hpc : ∀ i, i < n → pc i < 10000)  : XM l yX9_nearest cX9_nearest 8 (some .int) rm_X9_nearestY G Ri [.ref m, .int (nI x), .int (nI y)] (K, N, I, Q, J) (fun r S1 => r = nI (nrM pc pa x y n).1 ∧ S1 = (K, N, x_u2 I m 18 (nI 0), Q, J)) := by
  refine x_meti (lv := [_, _, _, _, _, _, _, _]) (by decide +kernel) (x_cc (by first | rfl | exact x_crf _) (x_cc (by first | rfl | exact x_crf _) (x_cc (by first | rfl | exact x_crf _) x_cn))) (Nat.le_of_ble_eq_true rfl) rfl ?_
  intro pP eE sS mM aA bB hH cC Z C hini ret
  have hk9 := hM.1
  obtain ⟨hn, hn121, h12, h13, h14, h15⟩ := hK
  have h122 := hM.np 14 (by decide)
  have n1213 : x_ne (ar 12) (ar 13) := hM.ne 12 13 (by decide)
  have n1214 : x_ne (ar 12) (ar 14) := hM.ne 12 14 (by decide)
  have n1215 : x_ne (ar 12) (ar 15) := hM.ne 12 15 (by decide)
  have n1216 : x_ne (ar 12) (ar 16) := hM.ne 12 16 (by decide)
  have n1217 : x_ne (ar 12) (ar 17) := hM.ne 12 17 (by decide)
  have n1312 : x_ne (ar 13) (ar 12) := hM.ne 13 12 (by decide)
  have n1314 : x_ne (ar 13) (ar 14) := hM.ne 13 14 (by decide)
  have n1315 : x_ne (ar 13) (ar 15) := hM.ne 13 15 (by decide)
  have n1316 : x_ne (ar 13) (ar 16) := hM.ne 13 16 (by decide)
  have n1317 : x_ne (ar 13) (ar 17) := hM.ne 13 17 (by decide)
  have n1412 : x_ne (ar 14) (ar 12) := hM.ne 14 12 (by decide)
  have n1413 : x_ne (ar 14) (ar 13) := hM.ne 14 13 (by decide)
  have n1415 : x_ne (ar 14) (ar 15) := hM.ne 14 15 (by decide)
  have n1416 : x_ne (ar 14) (ar 16) := hM.ne 14 16 (by decide)
  have n1417 : x_ne (ar 14) (ar 17) := hM.ne 14 17 (by decide)
  have n1512 : x_ne (ar 15) (ar 12) := hM.ne 15 12 (by decide)
  have n1513 : x_ne (ar 15) (ar 13) := hM.ne 15 13 (by decide)
  have n1514 : x_ne (ar 15) (ar 14) := hM.ne 15 14 (by decide)
  have n1516 : x_ne (ar 15) (ar 16) := hM.ne 15 16 (by decide)
  have n1517 : x_ne (ar 15) (ar 17) := hM.ne 15 17 (by decide)
  have n1612 : x_ne (ar 16) (ar 12) := hM.ne 16 12 (by decide)
  have n1613 : x_ne (ar 16) (ar 13) := hM.ne 16 13 (by decide)
  have n1614 : x_ne (ar 16) (ar 14) := hM.ne 16 14 (by decide)
  have n1615 : x_ne (ar 16) (ar 15) := hM.ne 16 15 (by decide)
  have n1617 : x_ne (ar 16) (ar 17) := hM.ne 16 17 (by decide)
  have n1712 : x_ne (ar 17) (ar 12) := hM.ne 17 12 (by decide)
  have n1713 : x_ne (ar 17) (ar 13) := hM.ne 17 13 (by decide)
  have n1714 : x_ne (ar 17) (ar 14) := hM.ne 17 14 (by decide)
  have n1715 : x_ne (ar 17) (ar 15) := hM.ne 17 15 (by decide)
  have n1716 : x_ne (ar 17) (ar 16) := hM.ne 17 16 (by decide)
  have hm12 : x_ne (ar 12) m := hM.nm 12 (by decide)
  have hm13 : x_ne (ar 13) m := hM.nm 13 (by decide)
  have hm14 : x_ne (ar 14) m := hM.nm 14 (by decide)
  have hm15 : x_ne (ar 15) m := hM.nm 15 (by decide)
  have hm16 : x_ne (ar 16) m := hM.nm 16 (by decide)
  have hm17 : x_ne (ar 17) m := hM.nm 17 (by decide)
  
  refine x_aload_n C D_X9_nearest_0.1 rfl rfl (by first | exact Or.inr ⟨_, rfl⟩ | exact va_rf_or _ | exact Or.inl rfl) ?_
  refine x_iload_n C D_X9_nearest_0.2.1 rfl rfl ?_
  refine x_if_lt C 21 D_X9_nearest_0.2.2.1 (by decide) (fun c_2 => ?_) (fun c_2 => ?_)
  · skip
    exact absurd c_2 (nI_pos (by omega))
    --end
  · skip
    refine x_iload_n C D_X9_nearest_0.2.2.2.1 rfl rfl ?_
    refine x_bipush C (v := nI 99) D_X9_nearest_0.2.2.2.2.1 (by decide +kernel) ?_
    refine x_icmp_gt C 21 D_X9_nearest_0.2.2.2.2.2.1 (by decide) (fun c_8 => ?_) (fun c_8 => ?_)
    · skip
      first
      | have d_8 := cv_lt c_8 (by omega) (by omega)
      | skip
      exfalso; omega
      --end
    · skip
      first
      | have d_8 := cv_nlt c_8 (by omega) (by omega)
      | skip
      refine x_iload_n C D_X9_nearest_0.2.2.2.2.2.2.1 rfl rfl ?_
      refine x_if_lt C 21 D_X9_nearest_0.2.2.2.2.2.2.2.1 (by decide) (fun c_12 => ?_) (fun c_12 => ?_)
      · skip
        exact absurd c_12 (nI_pos (by omega))
        --end
      · skip
        refine x_iload_n C D_X9_nearest_0.2.2.2.2.2.2.2.2.1 rfl rfl ?_
        refine x_bipush C (v := nI 99) D_X9_nearest_0.2.2.2.2.2.2.2.2.2.1 (by decide +kernel) ?_
        refine x_icmp_le C 25 D_X9_nearest_0.2.2.2.2.2.2.2.2.2.2.1 (by decide) (fun c_18 => ?_) (fun c_18 => ?_)
        · skip
          first
          | have d_18 := cv_le c_18 (by omega) (by omega)
          | skip
          refine x_aload_n C D_X9_nearest_1.2.1 rfl rfl (by first | exact Or.inr ⟨_, rfl⟩ | exact va_rf_or _ | exact Or.inl rfl) ?_
          refine x_callVi C (y := yX9_livingPoints) (c_X9_livingPoints l G m n ar pa hM hn (by omega) h14) (ci := 8) hM.1 (by decide) rfl rfl k_1149 k_1151 k_53 k_67 k_1152 hd_X9_livingPoints ⟨(Nat.le_of_ble_eq_true rfl), (Nat.le_of_ble_eq_true rfl)⟩ rfl (by first | exact Nat.le_of_ble_eq_true rfl | simp [x_crf, Value.category]) rfl rfl D_X9_nearest_1.2.2.1 ⟨(Nat.le_of_ble_eq_true rfl), (Nat.le_of_ble_eq_true rfl)⟩ (fun r_26 S_26 h_26 => ?_)
          obtain ⟨rfl, rfl⟩ := h_26
          have hcl := cn_le pa n
          refine x_if_ne C 36 D_X9_nearest_1.2.2.2.1 (by decide) (fun c_29 => ?_) (fun c_29 => ?_)
          · skip
            first
            | have d_29 := cz_ne c_29 (by omega)
            | have d_29 := cb_ne c_29
            | skip
            refine x_iconst C (v := nI 0) D_X9_nearest_1.2.2.2.2.2.2.1 (by decide +kernel) ?_
            refine x_callVz C (y := yX9_can) (c_X9_can l G m _ hM.1) (ci := 8) hM.1 (by decide) rfl rfl k_978 k_980 k_37 k_67 k_981 hd_X9_can ⟨(Nat.le_of_ble_eq_true rfl), (Nat.le_of_ble_eq_true rfl)⟩ rfl (by first | exact Nat.le_of_ble_eq_true rfl | simp [x_crf, Value.category]) rfl rfl D_X9_nearest_1.2.2.2.2.2.2.2.1 ⟨(Nat.le_of_ble_eq_true rfl), (Nat.le_of_ble_eq_true rfl)⟩ (fun r_37 S_37 h_37 => ?_)
            obtain ⟨rfl, rfl⟩ := h_37
            obtain ⟨I2, eI2⟩ : ∃ I2, I2 = x_u2 I m 18 (nI 0) := ⟨_, rfl⟩
            rw [← eI2]
            have i2 : ∀ a, x_ne a m → I2 a = I a := fun a ha => by rw [eI2, x_u2_a _ _ ha]
            have i2n : I2 m 10 = nI n := by rw [eI2, x_u2_j _ _ (by omega)]; exact hn
            have h4 : ∀ i, i < n → I2 (ar 14) i = xb (pa i) := fun i hi => by rw [i2 _ hm14]; exact h14 i hi
            refine x_if_ne C 45 D_X9_nearest_1.2.2.2.2.2.2.2.2.1 (by decide) (fun c_40 => ?_) (fun c_40 => ?_)
            · skip
              first
              | have d_40 := cz_ne c_40 (by omega)
              | have d_40 := cb_ne c_40
              | skip
              refine x_iconst C (v := nI 0) D_X9_nearest_1.2.2.2.2.2.2.2.2.2.2.2 (by decide +kernel) ?_
              refine x_istore_n C (lv' := [_, _, _, _, _, _, _, _]) D_X9_nearest_2.1 rfl (Nat.le_of_ble_eq_true rfl) (by first | rfl | exact x_ok_q rfl) rfl ?_
              refine x_ldc C k_1204 D_X9_nearest_2.2.1 ?_
              refine x_istore C (lv' := [_, _, _, _, _, _, _, _]) D_X9_nearest_2.2.2.1 (Nat.le_of_ble_eq_true rfl) (by first | rfl | exact x_ok_q rfl) rfl ?_
              refine x_iconst C (v := nI 0) D_X9_nearest_2.2.2.2.1 (by decide +kernel) ?_
              refine x_istore C (lv' := [_, _, _, _, _, _, _, _]) D_X9_nearest_2.2.2.2.2.1 (Nat.le_of_ble_eq_true rfl) (by first | rfl | exact x_ok_q rfl) rfl ?_
              have L_54 : ∀ (w_54 : Nat) (k0 : Nat) (v6 v7 : Option Value), n - k0 < w_54 → (k0 ≤ n) → XW pP l eE rm_X9_nearestY sS mM aA bB hH cC G Z 0 0 (K, N, I2, Q, J) 54 [some (.ref m), some (.int (nI x)), some (.int (nI y)), some (.int (nI (nrM pc pa x y k0).1)), some (.int (nI (nrM pc pa x y k0).2)), some (.int (nI k0)), v6, v7] [] := by
                intro w_54
                induction w_54 with
                | zero =>
                  intro k0 v6 v7 hw_54
                  exact absurd hw_54 (Nat.not_lt_zero _)
                | succ w_54 ih_54 =>
                  intro k0 v6 v7 hw_54 hk0
                  refine x_iload C D_X9_nearest_2.2.2.2.2.2.1 rfl ?_
                  refine x_aload_n C D_X9_nearest_2.2.2.2.2.2.2.1 rfl rfl (by first | exact Or.inr ⟨_, rfl⟩ | exact va_rf_or _ | exact Or.inl rfl) ?_
                  refine x_getI C (ci := 8) (k0 := 10) (by assumption) (by decide) rfl (by decide) in_X9 k_912 rfl rfl D_X9_nearest_2.2.2.2.2.2.2.2.1 ?_
                  first
                  | refine x_eqi _ (i2n) ?_
                  | refine x_eqi _ (h4 _ (by omega)) ?_
                  | refine x_eqi _ (hf1) ?_
                  | refine x_eqi _ (hf2) ?_
                  | skip
                  refine x_icmp_ge C 167 D_X9_nearest_2.2.2.2.2.2.2.2.2.1 (by decide) (fun c_60 => ?_) (fun c_60 => ?_)
                  · skip
                    first
                    | have d_60 := cv_le c_60 (by omega) (by omega)
                    | skip
                    obtain rfl : n = k0 := by omega
                    refine x_iload_n C D_X9_nearest_7.2.2.2.2.2.2.2.2.2.1 rfl rfl ?_
                    refine ret _ _ _ _ _ _ rfl D_X9_nearest_7.2.2.2.2.2.2.2.2.2.2 (Nat.le_of_ble_eq_true rfl) (Nat.le_of_ble_eq_true rfl) ?_
                    exact ⟨rfl, by rw [eI2]⟩
                  · skip
                    first
                    | have d_60 := cv_nle c_60 (by omega) (by omega)
                    | skip
                    have hp9 := hpc k0 (by omega)
                    have hfl := far_lt hx hy hp9
                    have hnb := nrM_b (pa := pa) hx hy (n := k0) (fun i hi => hpc i (by omega))
                    have hf1 : I2 (ar 12) k0 = nI (pc k0 / 100) := by rw [i2 _ hm12]; exact h12 k0 (by omega)
                    have hf2 : I2 (ar 13) k0 = nI (pc k0 % 100) := by rw [i2 _ hm13]; exact h13 k0 (by omega)
                    refine x_aload_n C D_X9_nearest_2.2.2.2.2.2.2.2.2.2.1 rfl rfl (by first | exact Or.inr ⟨_, rfl⟩ | exact va_rf_or _ | exact Or.inl rfl) ?_
                    refine x_getQ C (ci := 8) (k0 := 12) (by assumption) (by decide) rfl (by decide) in_X9 k_914 rfl rfl D_X9_nearest_2.2.2.2.2.2.2.2.2.2.2.1 ?_
                    refine x_eqr (hM.2.1 12 (by decide)).1 ?_
                    refine x_iload C D_X9_nearest_2.2.2.2.2.2.2.2.2.2.2.2 rfl ?_
                    refine x_iald C _ (by first | assumption | exact (hM.2.1 _ (by decide)).2.1) rfl (by first | omega | (rw [hM.nk _ (by decide)]; omega) | (rw [hM.np _ (by decide)]; omega)) (by first | omega | (rw [hM.nk _ (by decide)]; omega) | (rw [hM.np _ (by decide)]; omega)) D_X9_nearest_3.1 ?_
                    first
                    | refine x_eqi _ (i2n) ?_
                    | refine x_eqi _ (h4 _ (by omega)) ?_
                    | refine x_eqi _ (hf1) ?_
                    | refine x_eqi _ (hf2) ?_
                    | skip
                    refine x_iload_n C D_X9_nearest_3.2.1 rfl rfl ?_
                    refine x_isub C D_X9_nearest_3.2.2.1 ?_
                    skip
                    refine x_aload_n C D_X9_nearest_3.2.2.2.1 rfl rfl (by first | exact Or.inr ⟨_, rfl⟩ | exact va_rf_or _ | exact Or.inl rfl) ?_
                    refine x_getQ C (ci := 8) (k0 := 12) (by assumption) (by decide) rfl (by decide) in_X9 k_914 rfl rfl D_X9_nearest_3.2.2.2.2.1 ?_
                    refine x_eqr (hM.2.1 12 (by decide)).1 ?_
                    refine x_iload C D_X9_nearest_3.2.2.2.2.2.1 rfl ?_
                    refine x_iald C _ (by first | assumption | exact (hM.2.1 _ (by decide)).2.1) rfl (by first | omega | (rw [hM.nk _ (by decide)]; omega) | (rw [hM.np _ (by decide)]; omega)) (by first | omega | (rw [hM.nk _ (by decide)]; omega) | (rw [hM.np _ (by decide)]; omega)) D_X9_nearest_3.2.2.2.2.2.2.1 ?_
                    first
                    | refine x_eqi _ (i2n) ?_
                    | refine x_eqi _ (h4 _ (by omega)) ?_
                    | refine x_eqi _ (hf1) ?_
                    | refine x_eqi _ (hf2) ?_
                    | skip
                    refine x_iload_n C D_X9_nearest_3.2.2.2.2.2.2.2.1 rfl rfl ?_
                    refine x_isub C D_X9_nearest_3.2.2.2.2.2.2.2.2.1 ?_
                    skip
                    refine x_imul C D_X9_nearest_3.2.2.2.2.2.2.2.2.2.1 ?_
                    refine x_eqi _ (sq_i _ _) ?_
                    refine x_aload_n C D_X9_nearest_3.2.2.2.2.2.2.2.2.2.2.1 rfl rfl (by first | exact Or.inr ⟨_, rfl⟩ | exact va_rf_or _ | exact Or.inl rfl) ?_
                    refine x_getQ C (ci := 8) (k0 := 13) (by assumption) (by decide) rfl (by decide) in_X9 k_915 rfl rfl D_X9_nearest_3.2.2.2.2.2.2.2.2.2.2.2 ?_
                    refine x_eqr (hM.2.1 13 (by decide)).1 ?_
                    refine x_iload C D_X9_nearest_4.1 rfl ?_
                    refine x_iald C _ (by first | assumption | exact (hM.2.1 _ (by decide)).2.1) rfl (by first | omega | (rw [hM.nk _ (by decide)]; omega) | (rw [hM.np _ (by decide)]; omega)) (by first | omega | (rw [hM.nk _ (by decide)]; omega) | (rw [hM.np _ (by decide)]; omega)) D_X9_nearest_4.2.1 ?_
                    first
                    | refine x_eqi _ (i2n) ?_
                    | refine x_eqi _ (h4 _ (by omega)) ?_
                    | refine x_eqi _ (hf1) ?_
                    | refine x_eqi _ (hf2) ?_
                    | skip
                    refine x_iload_n C D_X9_nearest_4.2.2.1 rfl rfl ?_
                    refine x_isub C D_X9_nearest_4.2.2.2.1 ?_
                    skip
                    refine x_aload_n C D_X9_nearest_4.2.2.2.2.1 rfl rfl (by first | exact Or.inr ⟨_, rfl⟩ | exact va_rf_or _ | exact Or.inl rfl) ?_
                    refine x_getQ C (ci := 8) (k0 := 13) (by assumption) (by decide) rfl (by decide) in_X9 k_915 rfl rfl D_X9_nearest_4.2.2.2.2.2.1 ?_
                    refine x_eqr (hM.2.1 13 (by decide)).1 ?_
                    refine x_iload C D_X9_nearest_4.2.2.2.2.2.2.1 rfl ?_
                    refine x_iald C _ (by first | assumption | exact (hM.2.1 _ (by decide)).2.1) rfl (by first | omega | (rw [hM.nk _ (by decide)]; omega) | (rw [hM.np _ (by decide)]; omega)) (by first | omega | (rw [hM.nk _ (by decide)]; omega) | (rw [hM.np _ (by decide)]; omega)) D_X9_nearest_4.2.2.2.2.2.2.2.1 ?_
                    first
                    | refine x_eqi _ (i2n) ?_
                    | refine x_eqi _ (h4 _ (by omega)) ?_
                    | refine x_eqi _ (hf1) ?_
                    | refine x_eqi _ (hf2) ?_
                    | skip
                    refine x_iload_n C D_X9_nearest_4.2.2.2.2.2.2.2.2.1 rfl rfl ?_
                    refine x_isub C D_X9_nearest_4.2.2.2.2.2.2.2.2.2.1 ?_
                    skip
                    refine x_imul C D_X9_nearest_4.2.2.2.2.2.2.2.2.2.2.1 ?_
                    refine x_eqi _ (sq_i _ _) ?_
                    refine x_iadd C D_X9_nearest_4.2.2.2.2.2.2.2.2.2.2.2 ?_
                    refine x_eqi (nI (far x y (pc k0))) (nI_add _ _) ?_
                    refine x_istore C (lv' := [_, _, _, _, _, _, _, _]) D_X9_nearest_5.1 (Nat.le_of_ble_eq_true rfl) (by first | rfl | exact x_ok_q rfl) rfl ?_
                    refine x_bipush C (v := nI 100) D_X9_nearest_5.2.1 (by decide +kernel) ?_
                    refine x_aload_n C D_X9_nearest_5.2.2.1 rfl rfl (by first | exact Or.inr ⟨_, rfl⟩ | exact va_rf_or _ | exact Or.inl rfl) ?_
                    refine x_getQ C (ci := 8) (k0 := 12) (by assumption) (by decide) rfl (by decide) in_X9 k_914 rfl rfl D_X9_nearest_5.2.2.2.1 ?_
                    refine x_eqr (hM.2.1 12 (by decide)).1 ?_
                    refine x_iload C D_X9_nearest_5.2.2.2.2.1 rfl ?_
                    refine x_iald C _ (by first | assumption | exact (hM.2.1 _ (by decide)).2.1) rfl (by first | omega | (rw [hM.nk _ (by decide)]; omega) | (rw [hM.np _ (by decide)]; omega)) (by first | omega | (rw [hM.nk _ (by decide)]; omega) | (rw [hM.np _ (by decide)]; omega)) D_X9_nearest_5.2.2.2.2.2.1 ?_
                    first
                    | refine x_eqi _ (i2n) ?_
                    | refine x_eqi _ (h4 _ (by omega)) ?_
                    | refine x_eqi _ (hf1) ?_
                    | refine x_eqi _ (hf2) ?_
                    | skip
                    refine x_imul C D_X9_nearest_5.2.2.2.2.2.2.1 ?_
                    refine x_eqi _ (pk_mul _ _) ?_
                    refine x_aload_n C D_X9_nearest_5.2.2.2.2.2.2.2.1 rfl rfl (by first | exact Or.inr ⟨_, rfl⟩ | exact va_rf_or _ | exact Or.inl rfl) ?_
                    refine x_getQ C (ci := 8) (k0 := 13) (by assumption) (by decide) rfl (by decide) in_X9 k_915 rfl rfl D_X9_nearest_5.2.2.2.2.2.2.2.2.1 ?_
                    refine x_eqr (hM.2.1 13 (by decide)).1 ?_
                    refine x_iload C D_X9_nearest_5.2.2.2.2.2.2.2.2.2.1 rfl ?_
                    refine x_iald C _ (by first | assumption | exact (hM.2.1 _ (by decide)).2.1) rfl (by first | omega | (rw [hM.nk _ (by decide)]; omega) | (rw [hM.np _ (by decide)]; omega)) (by first | omega | (rw [hM.nk _ (by decide)]; omega) | (rw [hM.np _ (by decide)]; omega)) D_X9_nearest_5.2.2.2.2.2.2.2.2.2.2.1 ?_
                    first
                    | refine x_eqi _ (i2n) ?_
                    | refine x_eqi _ (h4 _ (by omega)) ?_
                    | refine x_eqi _ (hf1) ?_
                    | refine x_eqi _ (hf2) ?_
                    | skip
                    refine x_iadd C D_X9_nearest_5.2.2.2.2.2.2.2.2.2.2.2 ?_
                    refine x_eqi (nI (pc k0)) (by rw [nI_add, Nat.div_add_mod]) ?_
                    refine x_istore C (lv' := [_, _, _, _, _, _, _, _]) D_X9_nearest_6.1 (Nat.le_of_ble_eq_true rfl) (by first | rfl | exact x_ok_q rfl) rfl ?_
                    refine x_aload_n C D_X9_nearest_6.2.1 rfl rfl (by first | exact Or.inr ⟨_, rfl⟩ | exact va_rf_or _ | exact Or.inl rfl) ?_
                    refine x_getQ C (ci := 8) (k0 := 14) (by assumption) (by decide) rfl (by decide) in_X9 k_916 rfl rfl D_X9_nearest_6.2.2.1 ?_
                    refine x_eqr (hM.2.1 14 (by decide)).1 ?_
                    refine x_iload C D_X9_nearest_6.2.2.2.1 rfl ?_
                    refine x_zald C _ (by first | assumption | exact (hM.2.1 _ (by decide)).2.1) rfl (by first | omega | (rw [hM.nk _ (by decide)]; omega) | (rw [hM.np _ (by decide)]; omega)) (by first | omega | (rw [hM.nk _ (by decide)]; omega) | (rw [hM.np _ (by decide)]; omega)) D_X9_nearest_6.2.2.2.2.1 ?_
                    first
                    | refine x_eqi _ (i2n) ?_
                    | refine x_eqi _ (h4 _ (by omega)) ?_
                    | refine x_eqi _ (hf1) ?_
                    | refine x_eqi _ (hf2) ?_
                    | skip
                    refine x_if_eq C 161 D_X9_nearest_6.2.2.2.2.2.1 (by decide) (fun c_131 => ?_) (fun c_131 => ?_)
                    · skip
                      first
                      | have d_131 := cz_eq c_131 (by omega)
                      | have d_131 := cb_eq c_131
                      | skip
                      have hs : nrM pc pa x y (k0 + 1) = (nrM pc pa x y k0) := by simp only [nrM]; rw [if_neg (fun z => by rw [d_131] at z; exact absurd z.1 (by decide))]
                      first
                      | refine x_iinc C (lv' := [_, _, _, _, _, _, _, _]) D_X9_nearest_7.2.2.2.2.2.2.2.1 rfl (x_incN_1 _) (by first | rfl | exact x_ok_q rfl) rfl ?_
                      | refine x_iinc C (lv' := [_, _, _, _, _, _, _, _]) D_X9_nearest_7.2.2.2.2.2.2.2.1 rfl (x_inc_1 _) (by first | rfl | exact x_ok_q rfl) rfl ?_
                      refine x_goto C 54 D_X9_nearest_7.2.2.2.2.2.2.2.2.1 (by decide) ?_
                      refine x_lv (lv := [_, _, _, some (.int (nI (nrM pc pa x y (k0 + 1)).1)), some (.int (nI (nrM pc pa x y (k0 + 1)).2)), _, _, _]) (by rw [hs]) ?_
                      exact ih_54 (k0 + 1) _ _ (by omega) (by omega)
                    · skip
                      first
                      | have d_131 := cz_ne c_131 (by omega)
                      | have d_131 := cb_ne c_131
                      | skip
                      refine x_iload C D_X9_nearest_6.2.2.2.2.2.2.1 rfl ?_
                      refine x_iload C D_X9_nearest_6.2.2.2.2.2.2.2.1 rfl ?_
                      refine x_icmp_lt C 154 D_X9_nearest_6.2.2.2.2.2.2.2.2.1 (by decide) (fun c_138 => ?_) (fun c_138 => ?_)
                      · skip
                        first
                        | have d_138 := cv_lt c_138 (by omega) (by omega)
                        | skip
                        have hs : nrM pc pa x y (k0 + 1) = (pc k0, far x y (pc k0)) := by simp only [nrM]; rw [if_pos ⟨d_131, Or.inl d_138⟩]
                        refine x_iload C D_X9_nearest_7.2.2.2.1 rfl ?_
                        refine x_istore_n C (lv' := [_, _, _, _, _, _, _, _]) D_X9_nearest_7.2.2.2.2.1 rfl (Nat.le_of_ble_eq_true rfl) (by first | rfl | exact x_ok_q rfl) rfl ?_
                        refine x_iload C D_X9_nearest_7.2.2.2.2.2.1 rfl ?_
                        refine x_istore C (lv' := [_, _, _, _, _, _, _, _]) D_X9_nearest_7.2.2.2.2.2.2.1 (Nat.le_of_ble_eq_true rfl) (by first | rfl | exact x_ok_q rfl) rfl ?_
                        first
                        | refine x_iinc C (lv' := [_, _, _, _, _, _, _, _]) D_X9_nearest_7.2.2.2.2.2.2.2.1 rfl (x_incN_1 _) (by first | rfl | exact x_ok_q rfl) rfl ?_
                        | refine x_iinc C (lv' := [_, _, _, _, _, _, _, _]) D_X9_nearest_7.2.2.2.2.2.2.2.1 rfl (x_inc_1 _) (by first | rfl | exact x_ok_q rfl) rfl ?_
                        refine x_goto C 54 D_X9_nearest_7.2.2.2.2.2.2.2.2.1 (by decide) ?_
                        refine x_lv (lv := [_, _, _, some (.int (nI (nrM pc pa x y (k0 + 1)).1)), some (.int (nI (nrM pc pa x y (k0 + 1)).2)), _, _, _]) (by rw [hs]) ?_
                        exact ih_54 (k0 + 1) _ _ (by omega) (by omega)
                      · skip
                        first
                        | have d_138 := cv_nlt c_138 (by omega) (by omega)
                        | skip
                        refine x_iload C D_X9_nearest_6.2.2.2.2.2.2.2.2.2.1 rfl ?_
                        refine x_iload C D_X9_nearest_6.2.2.2.2.2.2.2.2.2.2.1 rfl ?_
                        refine x_icmp_ne C 161 D_X9_nearest_6.2.2.2.2.2.2.2.2.2.2.2 (by decide) (fun c_145 => ?_) (fun c_145 => ?_)
                        · skip
                          first
                          | have d_145 := cv_ne c_145 (by omega) (by omega)
                          | skip
                          have hs : nrM pc pa x y (k0 + 1) = (nrM pc pa x y k0) := by simp only [nrM]; rw [if_neg (fun z => by omega)]
                          first
                          | refine x_iinc C (lv' := [_, _, _, _, _, _, _, _]) D_X9_nearest_7.2.2.2.2.2.2.2.1 rfl (x_incN_1 _) (by first | rfl | exact x_ok_q rfl) rfl ?_
                          | refine x_iinc C (lv' := [_, _, _, _, _, _, _, _]) D_X9_nearest_7.2.2.2.2.2.2.2.1 rfl (x_inc_1 _) (by first | rfl | exact x_ok_q rfl) rfl ?_
                          refine x_goto C 54 D_X9_nearest_7.2.2.2.2.2.2.2.2.1 (by decide) ?_
                          refine x_lv (lv := [_, _, _, some (.int (nI (nrM pc pa x y (k0 + 1)).1)), some (.int (nI (nrM pc pa x y (k0 + 1)).2)), _, _, _]) (by rw [hs]) ?_
                          exact ih_54 (k0 + 1) _ _ (by omega) (by omega)
                        · skip
                          first
                          | have d_145 := cv_eq c_145 (by omega) (by omega)
                          | skip
                          refine x_iload C D_X9_nearest_7.1 rfl ?_
                          refine x_iload_n C D_X9_nearest_7.2.1 rfl rfl ?_
                          refine x_icmp_ge C 161 D_X9_nearest_7.2.2.1 (by decide) (fun c_151 => ?_) (fun c_151 => ?_)
                          · skip
                            first
                            | have d_151 := cv_le c_151 (by omega) (by omega)
                            | skip
                            have hs : nrM pc pa x y (k0 + 1) = (nrM pc pa x y k0) := by simp only [nrM]; rw [if_neg (fun z => by omega)]
                            first
                            | refine x_iinc C (lv' := [_, _, _, _, _, _, _, _]) D_X9_nearest_7.2.2.2.2.2.2.2.1 rfl (x_incN_1 _) (by first | rfl | exact x_ok_q rfl) rfl ?_
                            | refine x_iinc C (lv' := [_, _, _, _, _, _, _, _]) D_X9_nearest_7.2.2.2.2.2.2.2.1 rfl (x_inc_1 _) (by first | rfl | exact x_ok_q rfl) rfl ?_
                            refine x_goto C 54 D_X9_nearest_7.2.2.2.2.2.2.2.2.1 (by decide) ?_
                            refine x_lv (lv := [_, _, _, some (.int (nI (nrM pc pa x y (k0 + 1)).1)), some (.int (nI (nrM pc pa x y (k0 + 1)).2)), _, _, _]) (by rw [hs]) ?_
                            exact ih_54 (k0 + 1) _ _ (by omega) (by omega)
                          · skip
                            first
                            | have d_151 := cv_nle c_151 (by omega) (by omega)
                            | skip
                            have hs : nrM pc pa x y (k0 + 1) = (pc k0, far x y (pc k0)) := by simp only [nrM]; rw [if_pos ⟨d_131, Or.inr ⟨d_145, d_151⟩⟩]
                            refine x_iload C D_X9_nearest_7.2.2.2.1 rfl ?_
                            refine x_istore_n C (lv' := [_, _, _, _, _, _, _, _]) D_X9_nearest_7.2.2.2.2.1 rfl (Nat.le_of_ble_eq_true rfl) (by first | rfl | exact x_ok_q rfl) rfl ?_
                            refine x_iload C D_X9_nearest_7.2.2.2.2.2.1 rfl ?_
                            refine x_istore C (lv' := [_, _, _, _, _, _, _, _]) D_X9_nearest_7.2.2.2.2.2.2.1 (Nat.le_of_ble_eq_true rfl) (by first | rfl | exact x_ok_q rfl) rfl ?_
                            first
                            | refine x_iinc C (lv' := [_, _, _, _, _, _, _, _]) D_X9_nearest_7.2.2.2.2.2.2.2.1 rfl (x_incN_1 _) (by first | rfl | exact x_ok_q rfl) rfl ?_
                            | refine x_iinc C (lv' := [_, _, _, _, _, _, _, _]) D_X9_nearest_7.2.2.2.2.2.2.2.1 rfl (x_inc_1 _) (by first | rfl | exact x_ok_q rfl) rfl ?_
                            refine x_goto C 54 D_X9_nearest_7.2.2.2.2.2.2.2.2.1 (by decide) ?_
                            refine x_lv (lv := [_, _, _, some (.int (nI (nrM pc pa x y (k0 + 1)).1)), some (.int (nI (nrM pc pa x y (k0 + 1)).2)), _, _, _]) (by rw [hs]) ?_
                            exact ih_54 (k0 + 1) _ _ (by omega) (by omega)
              refine x_lv (lv := [_, _, _, some (.int (nI (nrM pc pa x y 0).1)), some (.int (nI (nrM pc pa x y 0).2)), _, _, _]) rfl ?_
              exact L_54 _ 0 _ _ (Nat.lt_succ_self _) (Nat.zero_le _)
            · skip
              exact absurd c_40 (by decide)
          · skip
            first
            | have d_29 := cz_eq c_29 (by omega)
            | have d_29 := cb_eq c_29
            | skip
            exfalso; omega
            --end
        · skip
          first
          | have d_18 := cv_nle c_18 (by omega) (by omega)
          | skip
          exfalso; omega
          --end
