theorem D_X9_addPoint_0 : decode cX9_addPoint 0 = .ok (.aload_n 0, 1) ∧ decode cX9_addPoint 1 = .ok (.iload_n 1, 1) ∧ decode cX9_addPoint 2 = .ok (.iload_n 2, 1) ∧ decode cX9_addPoint 3 = .ok (.invokevirtual 171, 3) ∧ decode cX9_addPoint 6 = .ok (.istore_n 3, 1) ∧ decode cX9_addPoint 7 = .ok (.iload_n 3, 1) ∧ decode cX9_addPoint 8 = .ok (.iconst (-1), 1) ∧ decode cX9_addPoint 9 = .ok (.if_icmp .eq 16, 3) ∧ decode cX9_addPoint 12 = .ok (.aload_n 0, 1) ∧ decode cX9_addPoint 13 = .ok (.getfield 32, 3) ∧ decode cX9_addPoint 16 = .ok (.iload_n 3, 1) ∧ decode cX9_addPoint 17 = .ok (.baload, 1) := by decide +kernel
theorem D_X9_addPoint_1 : decode cX9_addPoint 18 = .ok (.ifCond .eq 7, 3) ∧ decode cX9_addPoint 21 = .ok (.iconst 1, 1) ∧ decode cX9_addPoint 22 = .ok (.goto 4, 3) ∧ decode cX9_addPoint 25 = .ok (.iconst 0, 1) ∧ decode cX9_addPoint 26 = .ok (.istore 4, 2) ∧ decode cX9_addPoint 28 = .ok (.aload_n 0, 1) ∧ decode cX9_addPoint 29 = .ok (.iload_n 1, 1) ∧ decode cX9_addPoint 30 = .ok (.ifCond .lt 19, 3) ∧ decode cX9_addPoint 33 = .ok (.iload_n 1, 1) ∧ decode cX9_addPoint 34 = .ok (.bipush 99, 2) ∧ decode cX9_addPoint 36 = .ok (.if_icmp .gt 13, 3) ∧ decode cX9_addPoint 39 = .ok (.iload_n 2, 1) := by decide +kernel
theorem D_X9_addPoint_2 : decode cX9_addPoint 40 = .ok (.ifCond .lt 9, 3) ∧ decode cX9_addPoint 43 = .ok (.iload_n 2, 1) ∧ decode cX9_addPoint 44 = .ok (.bipush 99, 2) ∧ decode cX9_addPoint 46 = .ok (.if_icmp .le 7, 3) ∧ decode cX9_addPoint 49 = .ok (.iconst 1, 1) ∧ decode cX9_addPoint 50 = .ok (.goto 22, 3) ∧ decode cX9_addPoint 53 = .ok (.iload 4, 2) ∧ decode cX9_addPoint 55 = .ok (.ifCond .ne 16, 3) ∧ decode cX9_addPoint 58 = .ok (.aload_n 0, 1) ∧ decode cX9_addPoint 59 = .ok (.invokevirtual 175, 3) ∧ decode cX9_addPoint 62 = .ok (.bipush 60, 2) ∧ decode cX9_addPoint 64 = .ok (.if_icmp .ne 7, 3) := by decide +kernel
theorem D_X9_addPoint_3 : decode cX9_addPoint 67 = .ok (.iconst 2, 1) ∧ decode cX9_addPoint 68 = .ok (.goto 4, 3) ∧ decode cX9_addPoint 71 = .ok (.iconst 0, 1) ∧ decode cX9_addPoint 72 = .ok (.invokevirtual 117, 3) ∧ decode cX9_addPoint 75 = .ok (.ifCond .eq 8, 3) ∧ decode cX9_addPoint 78 = .ok (.iload 4, 2) ∧ decode cX9_addPoint 80 = .ok (.ifCond .eq 5, 3) ∧ decode cX9_addPoint 83 = .ok (.iconst 0, 1) ∧ decode cX9_addPoint 84 = .ok (.ireturn, 1) ∧ decode cX9_addPoint 85 = .ok (.iload_n 3, 1) ∧ decode cX9_addPoint 86 = .ok (.iconst (-1), 1) ∧ decode cX9_addPoint 87 = .ok (.if_icmp .eq 12, 3) := by decide +kernel
theorem D_X9_addPoint_4 : decode cX9_addPoint 90 = .ok (.aload_n 0, 1) ∧ decode cX9_addPoint 91 = .ok (.getfield 32, 3) ∧ decode cX9_addPoint 94 = .ok (.iload_n 3, 1) ∧ decode cX9_addPoint 95 = .ok (.iconst 1, 1) ∧ decode cX9_addPoint 96 = .ok (.bastore, 1) ∧ decode cX9_addPoint 97 = .ok (.iconst 1, 1) ∧ decode cX9_addPoint 98 = .ok (.ireturn, 1) ∧ decode cX9_addPoint 99 = .ok (.iconst 1, 1) ∧ decode cX9_addPoint 100 = .ok (.istore 5, 2) ∧ decode cX9_addPoint 102 = .ok (.aload_n 0, 1) ∧ decode cX9_addPoint 103 = .ok (.getfield 35, 3) ∧ decode cX9_addPoint 106 = .ok (.aload_n 0, 1) := by decide +kernel
theorem D_X9_addPoint_5 : decode cX9_addPoint 107 = .ok (.getfield 149, 3) ∧ decode cX9_addPoint 110 = .ok (.iload 5, 2) ∧ decode cX9_addPoint 112 = .ok (.invokestatic 63, 3) ∧ decode cX9_addPoint 115 = .ok (.istore 6, 2) ∧ decode cX9_addPoint 117 = .ok (.iload 6, 2) ∧ decode cX9_addPoint 119 = .ok (.iconst (-1), 1) ∧ decode cX9_addPoint 120 = .ok (.if_icmp .eq 60, 3) ∧ decode cX9_addPoint 123 = .ok (.iconst 2, 1) ∧ decode cX9_addPoint 124 = .ok (.iload 5, 2) ∧ decode cX9_addPoint 126 = .ok (.imul, 1) ∧ decode cX9_addPoint 127 = .ok (.iload_n 1, 1) ∧ decode cX9_addPoint 128 = .ok (.iload_n 2, 1) := by decide +kernel
theorem D_X9_addPoint_6 : decode cX9_addPoint 129 = .ok (.aload_n 0, 1) ∧ decode cX9_addPoint 130 = .ok (.getfield 26, 3) ∧ decode cX9_addPoint 133 = .ok (.iload 6, 2) ∧ decode cX9_addPoint 135 = .ok (.iaload, 1) ∧ decode cX9_addPoint 136 = .ok (.aload_n 0, 1) ∧ decode cX9_addPoint 137 = .ok (.getfield 29, 3) ∧ decode cX9_addPoint 140 = .ok (.iload 6, 2) ∧ decode cX9_addPoint 142 = .ok (.iaload, 1) ∧ decode cX9_addPoint 143 = .ok (.iload 5, 2) ∧ decode cX9_addPoint 145 = .ok (.invokestatic 48, 3) ∧ decode cX9_addPoint 148 = .ok (.invokestatic 152, 3) ∧ decode cX9_addPoint 151 = .ok (.ifCond .eq 7, 3) := by decide +kernel
theorem D_X9_addPoint_7 : decode cX9_addPoint 154 = .ok (.iconst 0, 1) ∧ decode cX9_addPoint 155 = .ok (.goto 4, 3) ∧ decode cX9_addPoint 158 = .ok (.iconst 1, 1) ∧ decode cX9_addPoint 159 = .ok (.iadd, 1) ∧ decode cX9_addPoint 160 = .ok (.istore 5, 2) ∧ decode cX9_addPoint 162 = .ok (.aload_n 0, 1) ∧ decode cX9_addPoint 163 = .ok (.getfield 35, 3) ∧ decode cX9_addPoint 166 = .ok (.aload_n 0, 1) ∧ decode cX9_addPoint 167 = .ok (.getfield 149, 3) ∧ decode cX9_addPoint 170 = .ok (.iload 5, 2) ∧ decode cX9_addPoint 172 = .ok (.invokestatic 63, 3) ∧ decode cX9_addPoint 175 = .ok (.istore 6, 2) := by decide +kernel
theorem D_X9_addPoint_8 : decode cX9_addPoint 177 = .ok (.goto (-60), 3) ∧ decode cX9_addPoint 180 = .ok (.aload_n 0, 1) ∧ decode cX9_addPoint 181 = .ok (.getfield 26, 3) ∧ decode cX9_addPoint 184 = .ok (.aload_n 0, 1) ∧ decode cX9_addPoint 185 = .ok (.getfield 149, 3) ∧ decode cX9_addPoint 188 = .ok (.iload_n 1, 1) ∧ decode cX9_addPoint 189 = .ok (.iastore, 1) ∧ decode cX9_addPoint 190 = .ok (.aload_n 0, 1) ∧ decode cX9_addPoint 191 = .ok (.getfield 29, 3) ∧ decode cX9_addPoint 194 = .ok (.aload_n 0, 1) ∧ decode cX9_addPoint 195 = .ok (.getfield 149, 3) ∧ decode cX9_addPoint 198 = .ok (.iload_n 2, 1) := by decide +kernel
theorem D_X9_addPoint_9 : decode cX9_addPoint 199 = .ok (.iastore, 1) ∧ decode cX9_addPoint 200 = .ok (.aload_n 0, 1) ∧ decode cX9_addPoint 201 = .ok (.getfield 32, 3) ∧ decode cX9_addPoint 204 = .ok (.aload_n 0, 1) ∧ decode cX9_addPoint 205 = .ok (.getfield 149, 3) ∧ decode cX9_addPoint 208 = .ok (.iconst 1, 1) ∧ decode cX9_addPoint 209 = .ok (.bastore, 1) ∧ decode cX9_addPoint 210 = .ok (.aload_n 0, 1) ∧ decode cX9_addPoint 211 = .ok (.getfield 35, 3) ∧ decode cX9_addPoint 214 = .ok (.aload_n 0, 1) ∧ decode cX9_addPoint 215 = .ok (.getfield 149, 3) ∧ decode cX9_addPoint 218 = .ok (.iload 5, 2) := by decide +kernel
theorem D_X9_addPoint_10 : decode cX9_addPoint 220 = .ok (.iastore, 1) ∧ decode cX9_addPoint 221 = .ok (.aload_n 0, 1) ∧ decode cX9_addPoint 222 = .ok (.dup, 1) ∧ decode cX9_addPoint 223 = .ok (.getfield 149, 3) ∧ decode cX9_addPoint 226 = .ok (.iconst 1, 1) ∧ decode cX9_addPoint 227 = .ok (.iadd, 1) ∧ decode cX9_addPoint 228 = .ok (.putfield 149, 3) ∧ decode cX9_addPoint 231 = .ok (.aload_n 0, 1) ∧ decode cX9_addPoint 232 = .ok (.iload 5, 2) ∧ decode cX9_addPoint 234 = .ok (.invokevirtual 178, 3) ∧ decode cX9_addPoint 237 = .ok (.iconst 1, 1) ∧ decode cX9_addPoint 238 = .ok (.ireturn, 1) := by decide +kernel
theorem D_X9_removePoint_0 : decode cX9_removePoint 0 = .ok (.aload_n 0, 1) ∧ decode cX9_removePoint 1 = .ok (.iconst 0, 1) ∧ decode cX9_removePoint 2 = .ok (.putfield 44, 3) ∧ decode cX9_removePoint 5 = .ok (.aload_n 0, 1) ∧ decode cX9_removePoint 6 = .ok (.iload_n 1, 1) ∧ decode cX9_removePoint 7 = .ok (.iload_n 2, 1) ∧ decode cX9_removePoint 8 = .ok (.invokevirtual 171, 3) ∧ decode cX9_removePoint 11 = .ok (.istore_n 3, 1) ∧ decode cX9_removePoint 12 = .ok (.iload_n 3, 1) ∧ decode cX9_removePoint 13 = .ok (.iconst (-1), 1) ∧ decode cX9_removePoint 14 = .ok (.if_icmp .eq 12, 3) ∧ decode cX9_removePoint 17 = .ok (.aload_n 0, 1) := by decide +kernel
theorem D_X9_removePoint_1 : decode cX9_removePoint 18 = .ok (.getfield 32, 3) ∧ decode cX9_removePoint 21 = .ok (.iload_n 3, 1) ∧ decode cX9_removePoint 22 = .ok (.baload, 1) ∧ decode cX9_removePoint 23 = .ok (.ifCond .ne 5, 3) ∧ decode cX9_removePoint 26 = .ok (.iconst 0, 1) ∧ decode cX9_removePoint 27 = .ok (.ireturn, 1) ∧ decode cX9_removePoint 28 = .ok (.aload_n 0, 1) ∧ decode cX9_removePoint 29 = .ok (.getfield 32, 3) ∧ decode cX9_removePoint 32 = .ok (.iload_n 3, 1) ∧ decode cX9_removePoint 33 = .ok (.iconst 0, 1) ∧ decode cX9_removePoint 34 = .ok (.bastore, 1) ∧ decode cX9_removePoint 35 = .ok (.aload_n 0, 1) := by decide +kernel
theorem D_X9_removePoint_2 : decode cX9_removePoint 36 = .ok (.invokevirtual 175, 3) ∧ decode cX9_removePoint 39 = .ok (.istore 4, 2) ∧ decode cX9_removePoint 41 = .ok (.aload_n 0, 1) ∧ decode cX9_removePoint 42 = .ok (.getfield 149, 3) ∧ decode cX9_removePoint 45 = .ok (.iload 4, 2) ∧ decode cX9_removePoint 47 = .ok (.isub, 1) ∧ decode cX9_removePoint 48 = .ok (.iload 4, 2) ∧ decode cX9_removePoint 50 = .ok (.if_icmp .le 92, 3) ∧ decode cX9_removePoint 53 = .ok (.iconst 0, 1) ∧ decode cX9_removePoint 54 = .ok (.istore 4, 2) ∧ decode cX9_removePoint 56 = .ok (.iconst 0, 1) ∧ decode cX9_removePoint 57 = .ok (.istore 5, 2) := by decide +kernel
theorem D_X9_removePoint_3 : decode cX9_removePoint 59 = .ok (.iload 5, 2) ∧ decode cX9_removePoint 61 = .ok (.aload_n 0, 1) ∧ decode cX9_removePoint 62 = .ok (.getfield 149, 3) ∧ decode cX9_removePoint 65 = .ok (.if_icmp .ge 66, 3) ∧ decode cX9_removePoint 68 = .ok (.aload_n 0, 1) ∧ decode cX9_removePoint 69 = .ok (.getfield 32, 3) ∧ decode cX9_removePoint 72 = .ok (.iload 5, 2) ∧ decode cX9_removePoint 74 = .ok (.baload, 1) ∧ decode cX9_removePoint 75 = .ok (.ifCond .eq 50, 3) ∧ decode cX9_removePoint 78 = .ok (.aload_n 0, 1) ∧ decode cX9_removePoint 79 = .ok (.getfield 26, 3) ∧ decode cX9_removePoint 82 = .ok (.iload 4, 2) := by decide +kernel
theorem D_X9_removePoint_4 : decode cX9_removePoint 84 = .ok (.aload_n 0, 1) ∧ decode cX9_removePoint 85 = .ok (.getfield 26, 3) ∧ decode cX9_removePoint 88 = .ok (.iload 5, 2) ∧ decode cX9_removePoint 90 = .ok (.iaload, 1) ∧ decode cX9_removePoint 91 = .ok (.iastore, 1) ∧ decode cX9_removePoint 92 = .ok (.aload_n 0, 1) ∧ decode cX9_removePoint 93 = .ok (.getfield 29, 3) ∧ decode cX9_removePoint 96 = .ok (.iload 4, 2) ∧ decode cX9_removePoint 98 = .ok (.aload_n 0, 1) ∧ decode cX9_removePoint 99 = .ok (.getfield 29, 3) ∧ decode cX9_removePoint 102 = .ok (.iload 5, 2) ∧ decode cX9_removePoint 104 = .ok (.iaload, 1) := by decide +kernel
theorem D_X9_removePoint_5 : decode cX9_removePoint 105 = .ok (.iastore, 1) ∧ decode cX9_removePoint 106 = .ok (.aload_n 0, 1) ∧ decode cX9_removePoint 107 = .ok (.getfield 32, 3) ∧ decode cX9_removePoint 110 = .ok (.iload 4, 2) ∧ decode cX9_removePoint 112 = .ok (.iconst 1, 1) ∧ decode cX9_removePoint 113 = .ok (.bastore, 1) ∧ decode cX9_removePoint 114 = .ok (.aload_n 0, 1) ∧ decode cX9_removePoint 115 = .ok (.getfield 35, 3) ∧ decode cX9_removePoint 118 = .ok (.iload 4, 2) ∧ decode cX9_removePoint 120 = .ok (.iconst 1, 1) ∧ decode cX9_removePoint 121 = .ok (.iastore, 1) ∧ decode cX9_removePoint 122 = .ok (.iinc 4 1, 3) := by decide +kernel
theorem D_X9_removePoint_6 : decode cX9_removePoint 125 = .ok (.iinc 5 1, 3) ∧ decode cX9_removePoint 128 = .ok (.goto (-69), 3) ∧ decode cX9_removePoint 131 = .ok (.aload_n 0, 1) ∧ decode cX9_removePoint 132 = .ok (.iload 4, 2) ∧ decode cX9_removePoint 134 = .ok (.putfield 149, 3) ∧ decode cX9_removePoint 137 = .ok (.aload_n 0, 1) ∧ decode cX9_removePoint 138 = .ok (.iconst 1, 1) ∧ decode cX9_removePoint 139 = .ok (.invokevirtual 168, 3) ∧ decode cX9_removePoint 142 = .ok (.iconst 1, 1) ∧ decode cX9_removePoint 143 = .ok (.ireturn, 1) := by decide +kernel
abbrev rm_X9_addPointR : Room := { frames := 1, cells := 0, slots := 0, locals := 24 }
theorem hd_X9_pointOf : yX9_pointOf.cls ≠ "java/lang/invoke/MethodHandle" ∧ yX9_pointOf.cls ≠ "java/lang/invoke/VarHandle" ∧ (parseMethodDescriptor yX9_pointOf.desc).map (fun d => d.parameters.length) = some 2 := by decide +kernel
set_option maxHeartbeats 4000000 in
set_option maxRecDepth 100000 in
theorem c_X9_addPointR (l : Launch) (G : xG) {K N : Nat → Nat} {I : Nat → Nat → Int32} {Q : Nat → Nat → Option Nat} {J : Nat → Nat → Int64} (m n : Nat) (ar pc ps : Nat → Nat) (pa : Nat → Bool) (x y : Int32) (hM : MZ K N Q m ar) (hK : PV I m ar n pc pa ps) (hB : PB n pc ps) (hx : x < 0 ∨ nI 99 < x ∨ y < 0 ∨ nI 99 < y) (hnd : (lastF (fun i => decide (I (ar 12) i = x) && decide (I (ar 13) i = y)) n) = none) : XM l yX9_addPoint cX9_addPoint 7 (some .boolean) rm_X9_addPointR G Rz [.ref m, .int x, .int y] (K, N, I, Q, J) (fun r S1 => r = false ∧ S1 = (K, N, x_u2 I m 18 (nI 1), Q, J)) := by
  refine x_metz (lv := [_, _, _, _, _, _, _]) (by decide +kernel) (x_cc (by first | rfl | exact x_crf _) (x_cc (by first | rfl | exact x_crf _) (x_cc (by first | rfl | exact x_crf _) x_cn))) (Nat.le_of_ble_eq_true rfl) rfl ?_
  intro pP eE sS mM aA bB hH cC Z C hini ret
  have hk9 := hM.1
  obtain ⟨hn, hn121, h12, h13, h14, h15⟩ := hK
  have h122 := hM.np 14 (by decide)
  have n1213 : x_ne (ar 12) (ar 13) := hM.ne 12 13 (by decide)
  have n1214 : x_ne (ar 12) (ar 14) := hM.ne 12 14 (by decide)
  have n1215 : x_ne (ar 12) (ar 15) := hM.ne 12 15 (by decide)
  have n1216 : x_ne (ar 12) (ar 16) := hM.ne 12 16 (by decide)
  have n1217 : x_ne (ar 12) (ar 17) := hM.ne 12 17 (by decide)
  have n1312 : x_ne (ar 13) (ar 12) := hM.ne 13 12 (by decide)
  have n1314 : x_ne (ar 13) (ar 14) := hM.ne 13 14 (by decide)
  have n1315 : x_ne (ar 13) (ar 15) := hM.ne 13 15 (by decide)
  have n1316 : x_ne (ar 13) (ar 16) := hM.ne 13 16 (by decide)
  have n1317 : x_ne (ar 13) (ar 17) := hM.ne 13 17 (by decide)
  have n1412 : x_ne (ar 14) (ar 12) := hM.ne 14 12 (by decide)
  have n1413 : x_ne (ar 14) (ar 13) := hM.ne 14 13 (by decide)
  have n1415 : x_ne (ar 14) (ar 15) := hM.ne 14 15 (by decide)
  have n1416 : x_ne (ar 14) (ar 16) := hM.ne 14 16 (by decide)
  have n1417 : x_ne (ar 14) (ar 17) := hM.ne 14 17 (by decide)
  have n1512 : x_ne (ar 15) (ar 12) := hM.ne 15 12 (by decide)
  have n1513 : x_ne (ar 15) (ar 13) := hM.ne 15 13 (by decide)
  have n1514 : x_ne (ar 15) (ar 14) := hM.ne 15 14 (by decide)
  have n1516 : x_ne (ar 15) (ar 16) := hM.ne 15 16 (by decide)
  have n1517 : x_ne (ar 15) (ar 17) := hM.ne 15 17 (by decide)
  have n1612 : x_ne (ar 16) (ar 12) := hM.ne 16 12 (by decide)
  have n1613 : x_ne (ar 16) (ar 13) := hM.ne 16 13 (by decide)
  have n1614 : x_ne (ar 16) (ar 14) := hM.ne 16 14 (by decide)
  have n1615 : x_ne (ar 16) (ar 15) := hM.ne 16 15 (by decide)
  have n1617 : x_ne (ar 16) (ar 17) := hM.ne 16 17 (by decide)
  have n1712 : x_ne (ar 17) (ar 12) := hM.ne 17 12 (by decide)
  have n1713 : x_ne (ar 17) (ar 13) := hM.ne 17 13 (by decide)
  have n1714 : x_ne (ar 17) (ar 14) := hM.ne 17 14 (by decide)
  have n1715 : x_ne (ar 17) (ar 15) := hM.ne 17 15 (by decide)
  have n1716 : x_ne (ar 17) (ar 16) := hM.ne 17 16 (by decide)
  have hm12 : x_ne (ar 12) m := hM.nm 12 (by decide)
  have hm13 : x_ne (ar 13) m := hM.nm 13 (by decide)
  have hm14 : x_ne (ar 14) m := hM.nm 14 (by decide)
  have hm15 : x_ne (ar 15) m := hM.nm 15 (by decide)
  have hm16 : x_ne (ar 16) m := hM.nm 16 (by decide)
  have hm17 : x_ne (ar 17) m := hM.nm 17 (by decide)
  
  refine x_aload_n C D_X9_addPoint_0.1 rfl rfl (by first | exact Or.inr ⟨_, rfl⟩ | exact va_rf_or _ | exact Or.inl rfl) ?_
  refine x_iload_n C D_X9_addPoint_0.2.1 rfl rfl ?_
  refine x_iload_n C D_X9_addPoint_0.2.2.1 rfl rfl ?_
  refine x_callVi C (y := yX9_pointOf) (c_X9_pointOf l G m n ar (x) (y) hM hn (by omega)) (ci := 8) hM.1 (by decide) rfl rfl k_1145 k_1147 k_52 k_67 k_1148 hd_X9_pointOf ⟨(Nat.le_of_ble_eq_true rfl), (Nat.le_of_ble_eq_true rfl)⟩ rfl (by first | exact Nat.le_of_ble_eq_true rfl | simp [x_crf, Value.category]) rfl rfl D_X9_addPoint_0.2.2.2.1 ⟨(Nat.le_of_ble_eq_true rfl), (Nat.le_of_ble_eq_true rfl)⟩ (fun r_3 S_3 h_3 => ?_)
  obtain ⟨rfl, rfl⟩ := h_3
  refine x_eqi (oI none) (by rw [hnd]) ?_
  refine x_istore_n C (lv' := [_, _, _, _, _, _, _]) D_X9_addPoint_0.2.2.2.2.1 rfl (Nat.le_of_ble_eq_true rfl) (by first | rfl | exact x_ok_q rfl) rfl ?_
  refine x_iload_n C D_X9_addPoint_0.2.2.2.2.2.1 rfl rfl ?_
  refine x_iconst C (v := (-1)) D_X9_addPoint_0.2.2.2.2.2.2.1 (by decide +kernel) ?_
  refine x_icmp_eq C 25 D_X9_addPoint_0.2.2.2.2.2.2.2.1 (by decide) (fun c_9 => ?_) (fun c_9 => ?_)
  · skip
    first
    | have d_9 := cv_eq c_9 (by omega) (by omega)
    | skip
    refine x_iconst C (v := nI 0) D_X9_addPoint_1.2.2.2.1 (by decide +kernel) ?_
    refine x_istore C (lv' := [_, _, _, _, _, _, _]) D_X9_addPoint_1.2.2.2.2.1 (Nat.le_of_ble_eq_true rfl) (by first | rfl | exact x_ok_q rfl) rfl ?_
    refine x_aload_n C D_X9_addPoint_1.2.2.2.2.2.1 rfl rfl (by first | exact Or.inr ⟨_, rfl⟩ | exact va_rf_or _ | exact Or.inl rfl) ?_
    refine x_iload_n C D_X9_addPoint_1.2.2.2.2.2.2.1 rfl rfl ?_
    refine x_if_lt C 49 D_X9_addPoint_1.2.2.2.2.2.2.2.1 (by decide) (fun c_30 => ?_) (fun c_30 => ?_)
    · skip
      refine x_iconst C (v := nI 1) D_X9_addPoint_2.2.2.2.2.1 (by decide +kernel) ?_
      refine x_goto C 72 D_X9_addPoint_2.2.2.2.2.2.1 (by decide) ?_
      refine x_callVz C (y := yX9_can) (c_X9_can l G m _ hM.1) (ci := 8) hM.1 (by decide) rfl rfl k_978 k_980 k_37 k_67 k_981 hd_X9_can ⟨(Nat.le_of_ble_eq_true rfl), (Nat.le_of_ble_eq_true rfl)⟩ rfl (by first | exact Nat.le_of_ble_eq_true rfl | simp [x_crf, Value.category]) rfl rfl D_X9_addPoint_3.2.2.2.1 ⟨(Nat.le_of_ble_eq_true rfl), (Nat.le_of_ble_eq_true rfl)⟩ (fun r_72 S_72 h_72 => ?_)
      obtain ⟨rfl, rfl⟩ := h_72
      refine x_if_eq C 83 D_X9_addPoint_3.2.2.2.2.1 (by decide) (fun c_75 => ?_) (fun c_75 => ?_)
      · skip
        first
        | have d_75 := cz_eq c_75 (by omega)
        | have d_75 := cb_eq c_75
        | skip
        refine x_iconst C (v := nI 0) D_X9_addPoint_3.2.2.2.2.2.2.2.1 (by decide +kernel) ?_
        refine ret _ _ _ _ _ _ false rfl D_X9_addPoint_3.2.2.2.2.2.2.2.2.1 (Nat.le_of_ble_eq_true rfl) (Nat.le_of_ble_eq_true rfl) rfl ?_
        exact ⟨rfl, rfl⟩
      · skip
        exact absurd c_75 (by decide)
    · skip
      refine x_iload_n C D_X9_addPoint_1.2.2.2.2.2.2.2.2.1 rfl rfl ?_
      refine x_bipush C (v := nI 99) D_X9_addPoint_1.2.2.2.2.2.2.2.2.2.1 (by decide +kernel) ?_
      refine x_icmp_gt C 49 D_X9_addPoint_1.2.2.2.2.2.2.2.2.2.2.1 (by decide) (fun c_36 => ?_) (fun c_36 => ?_)
      · skip
        refine x_iconst C (v := nI 1) D_X9_addPoint_2.2.2.2.2.1 (by decide +kernel) ?_
        refine x_goto C 72 D_X9_addPoint_2.2.2.2.2.2.1 (by decide) ?_
        refine x_callVz C (y := yX9_can) (c_X9_can l G m _ hM.1) (ci := 8) hM.1 (by decide) rfl rfl k_978 k_980 k_37 k_67 k_981 hd_X9_can ⟨(Nat.le_of_ble_eq_true rfl), (Nat.le_of_ble_eq_true rfl)⟩ rfl (by first | exact Nat.le_of_ble_eq_true rfl | simp [x_crf, Value.category]) rfl rfl D_X9_addPoint_3.2.2.2.1 ⟨(Nat.le_of_ble_eq_true rfl), (Nat.le_of_ble_eq_true rfl)⟩ (fun r_72 S_72 h_72 => ?_)
        obtain ⟨rfl, rfl⟩ := h_72
        refine x_if_eq C 83 D_X9_addPoint_3.2.2.2.2.1 (by decide) (fun c_75 => ?_) (fun c_75 => ?_)
        · skip
          first
          | have d_75 := cz_eq c_75 (by omega)
          | have d_75 := cb_eq c_75
          | skip
          refine x_iconst C (v := nI 0) D_X9_addPoint_3.2.2.2.2.2.2.2.1 (by decide +kernel) ?_
          refine ret _ _ _ _ _ _ false rfl D_X9_addPoint_3.2.2.2.2.2.2.2.2.1 (Nat.le_of_ble_eq_true rfl) (Nat.le_of_ble_eq_true rfl) rfl ?_
          exact ⟨rfl, rfl⟩
        · skip
          exact absurd c_75 (by decide)
      · skip
        refine x_iload_n C D_X9_addPoint_1.2.2.2.2.2.2.2.2.2.2.2 rfl rfl ?_
        refine x_if_lt C 49 D_X9_addPoint_2.1 (by decide) (fun c_40 => ?_) (fun c_40 => ?_)
        · skip
          refine x_iconst C (v := nI 1) D_X9_addPoint_2.2.2.2.2.1 (by decide +kernel) ?_
          refine x_goto C 72 D_X9_addPoint_2.2.2.2.2.2.1 (by decide) ?_
          refine x_callVz C (y := yX9_can) (c_X9_can l G m _ hM.1) (ci := 8) hM.1 (by decide) rfl rfl k_978 k_980 k_37 k_67 k_981 hd_X9_can ⟨(Nat.le_of_ble_eq_true rfl), (Nat.le_of_ble_eq_true rfl)⟩ rfl (by first | exact Nat.le_of_ble_eq_true rfl | simp [x_crf, Value.category]) rfl rfl D_X9_addPoint_3.2.2.2.1 ⟨(Nat.le_of_ble_eq_true rfl), (Nat.le_of_ble_eq_true rfl)⟩ (fun r_72 S_72 h_72 => ?_)
          obtain ⟨rfl, rfl⟩ := h_72
          refine x_if_eq C 83 D_X9_addPoint_3.2.2.2.2.1 (by decide) (fun c_75 => ?_) (fun c_75 => ?_)
          · skip
            first
            | have d_75 := cz_eq c_75 (by omega)
            | have d_75 := cb_eq c_75
            | skip
            refine x_iconst C (v := nI 0) D_X9_addPoint_3.2.2.2.2.2.2.2.1 (by decide +kernel) ?_
            refine ret _ _ _ _ _ _ false rfl D_X9_addPoint_3.2.2.2.2.2.2.2.2.1 (Nat.le_of_ble_eq_true rfl) (Nat.le_of_ble_eq_true rfl) rfl ?_
            exact ⟨rfl, rfl⟩
          · skip
            exact absurd c_75 (by decide)
        · skip
          refine x_iload_n C D_X9_addPoint_2.2.1 rfl rfl ?_
          refine x_bipush C (v := nI 99) D_X9_addPoint_2.2.2.1 (by decide +kernel) ?_
          refine x_icmp_le C 53 D_X9_addPoint_2.2.2.2.1 (by decide) (fun c_46 => ?_) (fun c_46 => ?_)
          · skip
            exfalso
            rcases hx with h | h | h | h
            · exact c_30 h
            · exact c_36 h
            · exact c_40 h
            · rw [i32_lt] at h; rw [i32_le] at c_46; omega
            --end
          · skip
            refine x_iconst C (v := nI 1) D_X9_addPoint_2.2.2.2.2.1 (by decide +kernel) ?_
            refine x_goto C 72 D_X9_addPoint_2.2.2.2.2.2.1 (by decide) ?_
            refine x_callVz C (y := yX9_can) (c_X9_can l G m _ hM.1) (ci := 8) hM.1 (by decide) rfl rfl k_978 k_980 k_37 k_67 k_981 hd_X9_can ⟨(Nat.le_of_ble_eq_true rfl), (Nat.le_of_ble_eq_true rfl)⟩ rfl (by first | exact Nat.le_of_ble_eq_true rfl | simp [x_crf, Value.category]) rfl rfl D_X9_addPoint_3.2.2.2.1 ⟨(Nat.le_of_ble_eq_true rfl), (Nat.le_of_ble_eq_true rfl)⟩ (fun r_72 S_72 h_72 => ?_)
            obtain ⟨rfl, rfl⟩ := h_72
            refine x_if_eq C 83 D_X9_addPoint_3.2.2.2.2.1 (by decide) (fun c_75 => ?_) (fun c_75 => ?_)
            · skip
              first
              | have d_75 := cz_eq c_75 (by omega)
              | have d_75 := cb_eq c_75
              | skip
              refine x_iconst C (v := nI 0) D_X9_addPoint_3.2.2.2.2.2.2.2.1 (by decide +kernel) ?_
              refine ret _ _ _ _ _ _ false rfl D_X9_addPoint_3.2.2.2.2.2.2.2.2.1 (Nat.le_of_ble_eq_true rfl) (Nat.le_of_ble_eq_true rfl) rfl ?_
              exact ⟨rfl, rfl⟩
            · skip
              exact absurd c_75 (by decide)
  · skip
    exact absurd c_9 (by decide)
abbrev rm_X9_addPointT : Room := { frames := 1, cells := 0, slots := 0, locals := 24 }
set_option maxHeartbeats 4000000 in
set_option maxRecDepth 100000 in
theorem c_X9_addPointT (l : Launch) (G : xG) {K N : Nat → Nat} {I : Nat → Nat → Int32} {Q : Nat → Nat → Option Nat} {J : Nat → Nat → Int64} (m n : Nat) (ar pc ps : Nat → Nat) (pa : Nat → Bool) (c k : Nat) (hM : MZ K N Q m ar) (hK : PV I m ar n pc pa ps) (hB : PB n pc ps) (hc : c < 10000) (hnd : (lastF (fun i => decide (I (ar 12) i = nI (c / 100)) && decide (I (ar 13) i = nI (c % 100))) n) = some k) (hal : pa k = true) : XM l yX9_addPoint cX9_addPoint 7 (some .boolean) rm_X9_addPointT G Rz [.ref m, .int (nI (c / 100)), .int (nI (c % 100))] (K, N, I, Q, J) (fun r S1 => r = false ∧ S1 = (K, N, x_u2 I m 18 (nI 0), Q, J)) := by
  refine x_metz (lv := [_, _, _, _, _, _, _]) (by decide +kernel) (x_cc (by first | rfl | exact x_crf _) (x_cc (by first | rfl | exact x_crf _) (x_cc (by first | rfl | exact x_crf _) x_cn))) (Nat.le_of_ble_eq_true rfl) rfl ?_
  intro pP eE sS mM aA bB hH cC Z C hini ret
  have hk9 := hM.1
  obtain ⟨hn, hn121, h12, h13, h14, h15⟩ := hK
  have h122 := hM.np 14 (by decide)
  have n1213 : x_ne (ar 12) (ar 13) := hM.ne 12 13 (by decide)
  have n1214 : x_ne (ar 12) (ar 14) := hM.ne 12 14 (by decide)
  have n1215 : x_ne (ar 12) (ar 15) := hM.ne 12 15 (by decide)
  have n1216 : x_ne (ar 12) (ar 16) := hM.ne 12 16 (by decide)
  have n1217 : x_ne (ar 12) (ar 17) := hM.ne 12 17 (by decide)
  have n1312 : x_ne (ar 13) (ar 12) := hM.ne 13 12 (by decide)
  have n1314 : x_ne (ar 13) (ar 14) := hM.ne 13 14 (by decide)
  have n1315 : x_ne (ar 13) (ar 15) := hM.ne 13 15 (by decide)
  have n1316 : x_ne (ar 13) (ar 16) := hM.ne 13 16 (by decide)
  have n1317 : x_ne (ar 13) (ar 17) := hM.ne 13 17 (by decide)
  have n1412 : x_ne (ar 14) (ar 12) := hM.ne 14 12 (by decide)
  have n1413 : x_ne (ar 14) (ar 13) := hM.ne 14 13 (by decide)
  have n1415 : x_ne (ar 14) (ar 15) := hM.ne 14 15 (by decide)
  have n1416 : x_ne (ar 14) (ar 16) := hM.ne 14 16 (by decide)
  have n1417 : x_ne (ar 14) (ar 17) := hM.ne 14 17 (by decide)
  have n1512 : x_ne (ar 15) (ar 12) := hM.ne 15 12 (by decide)
  have n1513 : x_ne (ar 15) (ar 13) := hM.ne 15 13 (by decide)
  have n1514 : x_ne (ar 15) (ar 14) := hM.ne 15 14 (by decide)
  have n1516 : x_ne (ar 15) (ar 16) := hM.ne 15 16 (by decide)
  have n1517 : x_ne (ar 15) (ar 17) := hM.ne 15 17 (by decide)
  have n1612 : x_ne (ar 16) (ar 12) := hM.ne 16 12 (by decide)
  have n1613 : x_ne (ar 16) (ar 13) := hM.ne 16 13 (by decide)
  have n1614 : x_ne (ar 16) (ar 14) := hM.ne 16 14 (by decide)
  have n1615 : x_ne (ar 16) (ar 15) := hM.ne 16 15 (by decide)
  have n1617 : x_ne (ar 16) (ar 17) := hM.ne 16 17 (by decide)
  have n1712 : x_ne (ar 17) (ar 12) := hM.ne 17 12 (by decide)
  have n1713 : x_ne (ar 17) (ar 13) := hM.ne 17 13 (by decide)
  have n1714 : x_ne (ar 17) (ar 14) := hM.ne 17 14 (by decide)
  have n1715 : x_ne (ar 17) (ar 15) := hM.ne 17 15 (by decide)
  have n1716 : x_ne (ar 17) (ar 16) := hM.ne 17 16 (by decide)
  have hm12 : x_ne (ar 12) m := hM.nm 12 (by decide)
  have hm13 : x_ne (ar 13) m := hM.nm 13 (by decide)
  have hm14 : x_ne (ar 14) m := hM.nm 14 (by decide)
  have hm15 : x_ne (ar 15) m := hM.nm 15 (by decide)
  have hm16 : x_ne (ar 16) m := hM.nm 16 (by decide)
  have hm17 : x_ne (ar 17) m := hM.nm 17 (by decide)
  have hkn := (lastF_lt hnd).1
  
  refine x_aload_n C D_X9_addPoint_0.1 rfl rfl (by first | exact Or.inr ⟨_, rfl⟩ | exact va_rf_or _ | exact Or.inl rfl) ?_
  refine x_iload_n C D_X9_addPoint_0.2.1 rfl rfl ?_
  refine x_iload_n C D_X9_addPoint_0.2.2.1 rfl rfl ?_
  refine x_callVi C (y := yX9_pointOf) (c_X9_pointOf l G m n ar (nI (c / 100)) (nI (c % 100)) hM hn (by omega)) (ci := 8) hM.1 (by decide) rfl rfl k_1145 k_1147 k_52 k_67 k_1148 hd_X9_pointOf ⟨(Nat.le_of_ble_eq_true rfl), (Nat.le_of_ble_eq_true rfl)⟩ rfl (by first | exact Nat.le_of_ble_eq_true rfl | simp [x_crf, Value.category]) rfl rfl D_X9_addPoint_0.2.2.2.1 ⟨(Nat.le_of_ble_eq_true rfl), (Nat.le_of_ble_eq_true rfl)⟩ (fun r_3 S_3 h_3 => ?_)
  obtain ⟨rfl, rfl⟩ := h_3
  refine x_eqi (oI (some k)) (by rw [hnd]) ?_
  refine x_istore_n C (lv' := [_, _, _, _, _, _, _]) D_X9_addPoint_0.2.2.2.2.1 rfl (Nat.le_of_ble_eq_true rfl) (by first | rfl | exact x_ok_q rfl) rfl ?_
  refine x_iload_n C D_X9_addPoint_0.2.2.2.2.2.1 rfl rfl ?_
  refine x_iconst C (v := (-1)) D_X9_addPoint_0.2.2.2.2.2.2.1 (by decide +kernel) ?_
  refine x_icmp_eq C 25 D_X9_addPoint_0.2.2.2.2.2.2.2.1 (by decide) (fun c_9 => ?_) (fun c_9 => ?_)
  · skip
    exact absurd c_9 (oI_nn k (by omega))
    --end
  · skip
    refine x_aload_n C D_X9_addPoint_0.2.2.2.2.2.2.2.2.1 rfl rfl (by first | exact Or.inr ⟨_, rfl⟩ | exact va_rf_or _ | exact Or.inl rfl) ?_
    refine x_getQ C (ci := 8) (k0 := 14) (by assumption) (by decide) rfl (by decide) in_X9 k_916 rfl rfl D_X9_addPoint_0.2.2.2.2.2.2.2.2.2.1 ?_
    refine x_eqr (hM.2.1 14 (by decide)).1 ?_
    refine x_iload_n C D_X9_addPoint_0.2.2.2.2.2.2.2.2.2.2.1 rfl rfl ?_
    refine x_zald C _ (by first | assumption | exact (hM.2.1 _ (by decide)).2.1) rfl (by first | omega | (rw [hM.nk _ (by decide)]; omega) | (rw [hM.np _ (by decide)]; omega)) (by first | omega | (rw [hM.nk _ (by decide)]; omega) | (rw [hM.np _ (by decide)]; omega)) D_X9_addPoint_0.2.2.2.2.2.2.2.2.2.2.2 ?_
    refine x_eqi _ (show I (ar 14) k = xb true by rw [h14 k hkn, hal]) ?_
    refine x_if_eq C 25 D_X9_addPoint_1.1 (by decide) (fun c_18 => ?_) (fun c_18 => ?_)
    · skip
      exact absurd c_18 (by decide)
    · skip
      first
      | have d_18 := cz_ne c_18 (by omega)
      | have d_18 := cb_ne c_18
      | skip
      refine x_iconst C (v := nI 1) D_X9_addPoint_1.2.1 (by decide +kernel) ?_
      refine x_goto C 26 D_X9_addPoint_1.2.2.1 (by decide) ?_
      refine x_istore C (lv' := [_, _, _, _, _, _, _]) D_X9_addPoint_1.2.2.2.2.1 (Nat.le_of_ble_eq_true rfl) (by first | rfl | exact x_ok_q rfl) rfl ?_
      refine x_aload_n C D_X9_addPoint_1.2.2.2.2.2.1 rfl rfl (by first | exact Or.inr ⟨_, rfl⟩ | exact va_rf_or _ | exact Or.inl rfl) ?_
      refine x_iload_n C D_X9_addPoint_1.2.2.2.2.2.2.1 rfl rfl ?_
      refine x_if_lt C 49 D_X9_addPoint_1.2.2.2.2.2.2.2.1 (by decide) (fun c_30 => ?_) (fun c_30 => ?_)
      · skip
        exact absurd c_30 (nI_pos (by omega))
        --end
      · skip
        refine x_iload_n C D_X9_addPoint_1.2.2.2.2.2.2.2.2.1 rfl rfl ?_
        refine x_bipush C (v := nI 99) D_X9_addPoint_1.2.2.2.2.2.2.2.2.2.1 (by decide +kernel) ?_
        refine x_icmp_gt C 49 D_X9_addPoint_1.2.2.2.2.2.2.2.2.2.2.1 (by decide) (fun c_36 => ?_) (fun c_36 => ?_)
        · skip
          first
          | have d_36 := cv_lt c_36 (by omega) (by omega)
          | skip
          exfalso; omega
          --end
        · skip
          first
          | have d_36 := cv_nlt c_36 (by omega) (by omega)
          | skip
          refine x_iload_n C D_X9_addPoint_1.2.2.2.2.2.2.2.2.2.2.2 rfl rfl ?_
          refine x_if_lt C 49 D_X9_addPoint_2.1 (by decide) (fun c_40 => ?_) (fun c_40 => ?_)
          · skip
            exact absurd c_40 (nI_pos (by omega))
            --end
          · skip
            refine x_iload_n C D_X9_addPoint_2.2.1 rfl rfl ?_
            refine x_bipush C (v := nI 99) D_X9_addPoint_2.2.2.1 (by decide +kernel) ?_
            refine x_icmp_le C 53 D_X9_addPoint_2.2.2.2.1 (by decide) (fun c_46 => ?_) (fun c_46 => ?_)
            · skip
              first
              | have d_46 := cv_le c_46 (by omega) (by omega)
              | skip
              refine x_iload C D_X9_addPoint_2.2.2.2.2.2.2.1 rfl ?_
              refine x_if_ne C 71 D_X9_addPoint_2.2.2.2.2.2.2.2.1 (by decide) (fun c_55 => ?_) (fun c_55 => ?_)
              · skip
                first
                | have d_55 := cz_ne c_55 (by omega)
                | have d_55 := cb_ne c_55
                | skip
                refine x_iconst C (v := nI 0) D_X9_addPoint_3.2.2.1 (by decide +kernel) ?_
                refine x_callVz C (y := yX9_can) (c_X9_can l G m _ hM.1) (ci := 8) hM.1 (by decide) rfl rfl k_978 k_980 k_37 k_67 k_981 hd_X9_can ⟨(Nat.le_of_ble_eq_true rfl), (Nat.le_of_ble_eq_true rfl)⟩ rfl (by first | exact Nat.le_of_ble_eq_true rfl | simp [x_crf, Value.category]) rfl rfl D_X9_addPoint_3.2.2.2.1 ⟨(Nat.le_of_ble_eq_true rfl), (Nat.le_of_ble_eq_true rfl)⟩ (fun r_72 S_72 h_72 => ?_)
                obtain ⟨rfl, rfl⟩ := h_72
                refine x_if_eq C 83 D_X9_addPoint_3.2.2.2.2.1 (by decide) (fun c_75 => ?_) (fun c_75 => ?_)
                · skip
                  exact absurd c_75 (by decide)
                · skip
                  first
                  | have d_75 := cz_ne c_75 (by omega)
                  | have d_75 := cb_ne c_75
                  | skip
                  refine x_iload C D_X9_addPoint_3.2.2.2.2.2.1 rfl ?_
                  refine x_if_eq C 85 D_X9_addPoint_3.2.2.2.2.2.2.1 (by decide) (fun c_80 => ?_) (fun c_80 => ?_)
                  · skip
                    exact absurd c_80 (by decide)
                  · skip
                    first
                    | have d_80 := cz_ne c_80 (by omega)
                    | have d_80 := cb_ne c_80
                    | skip
                    refine x_iconst C (v := nI 0) D_X9_addPoint_3.2.2.2.2.2.2.2.1 (by decide +kernel) ?_
                    refine ret _ _ _ _ _ _ false rfl D_X9_addPoint_3.2.2.2.2.2.2.2.2.1 (Nat.le_of_ble_eq_true rfl) (Nat.le_of_ble_eq_true rfl) rfl ?_
                    exact ⟨rfl, rfl⟩
              · skip
                exact absurd c_55 (by decide)
            · skip
              first
              | have d_46 := cv_nle c_46 (by omega) (by omega)
              | skip
              exfalso; omega
              --end
abbrev rm_X9_addPointF : Room := { frames := 1, cells := 0, slots := 0, locals := 24 }
theorem hd_X9_livingPoints : yX9_livingPoints.cls ≠ "java/lang/invoke/MethodHandle" ∧ yX9_livingPoints.cls ≠ "java/lang/invoke/VarHandle" ∧ (parseMethodDescriptor yX9_livingPoints.desc).map (fun d => d.parameters.length) = some 0 := by decide +kernel
set_option maxHeartbeats 4000000 in
set_option maxRecDepth 100000 in
theorem c_X9_addPointF (l : Launch) (G : xG) {K N : Nat → Nat} {I : Nat → Nat → Int32} {Q : Nat → Nat → Option Nat} {J : Nat → Nat → Int64} (m n : Nat) (ar pc ps : Nat → Nat) (pa : Nat → Bool) (c k : Nat) (hM : MZ K N Q m ar) (hK : PV I m ar n pc pa ps) (hB : PB n pc ps) (hc : c < 10000) (hnd : (lastF (fun i => decide (I (ar 12) i = nI (c / 100)) && decide (I (ar 13) i = nI (c % 100))) n) = none) (hlv : cn pa n = 60) : XM l yX9_addPoint cX9_addPoint 7 (some .boolean) rm_X9_addPointF G Rz [.ref m, .int (nI (c / 100)), .int (nI (c % 100))] (K, N, I, Q, J) (fun r S1 => r = false ∧ S1 = (K, N, x_u2 I m 18 (nI 2), Q, J)) := by
  refine x_metz (lv := [_, _, _, _, _, _, _]) (by decide +kernel) (x_cc (by first | rfl | exact x_crf _) (x_cc (by first | rfl | exact x_crf _) (x_cc (by first | rfl | exact x_crf _) x_cn))) (Nat.le_of_ble_eq_true rfl) rfl ?_
  intro pP eE sS mM aA bB hH cC Z C hini ret
  have hk9 := hM.1
  obtain ⟨hn, hn121, h12, h13, h14, h15⟩ := hK
  have h122 := hM.np 14 (by decide)
  have n1213 : x_ne (ar 12) (ar 13) := hM.ne 12 13 (by decide)
  have n1214 : x_ne (ar 12) (ar 14) := hM.ne 12 14 (by decide)
  have n1215 : x_ne (ar 12) (ar 15) := hM.ne 12 15 (by decide)
  have n1216 : x_ne (ar 12) (ar 16) := hM.ne 12 16 (by decide)
  have n1217 : x_ne (ar 12) (ar 17) := hM.ne 12 17 (by decide)
  have n1312 : x_ne (ar 13) (ar 12) := hM.ne 13 12 (by decide)
  have n1314 : x_ne (ar 13) (ar 14) := hM.ne 13 14 (by decide)
  have n1315 : x_ne (ar 13) (ar 15) := hM.ne 13 15 (by decide)
  have n1316 : x_ne (ar 13) (ar 16) := hM.ne 13 16 (by decide)
  have n1317 : x_ne (ar 13) (ar 17) := hM.ne 13 17 (by decide)
  have n1412 : x_ne (ar 14) (ar 12) := hM.ne 14 12 (by decide)
  have n1413 : x_ne (ar 14) (ar 13) := hM.ne 14 13 (by decide)
  have n1415 : x_ne (ar 14) (ar 15) := hM.ne 14 15 (by decide)
  have n1416 : x_ne (ar 14) (ar 16) := hM.ne 14 16 (by decide)
  have n1417 : x_ne (ar 14) (ar 17) := hM.ne 14 17 (by decide)
  have n1512 : x_ne (ar 15) (ar 12) := hM.ne 15 12 (by decide)
  have n1513 : x_ne (ar 15) (ar 13) := hM.ne 15 13 (by decide)
  have n1514 : x_ne (ar 15) (ar 14) := hM.ne 15 14 (by decide)
  have n1516 : x_ne (ar 15) (ar 16) := hM.ne 15 16 (by decide)
  have n1517 : x_ne (ar 15) (ar 17) := hM.ne 15 17 (by decide)
  have n1612 : x_ne (ar 16) (ar 12) := hM.ne 16 12 (by decide)
  have n1613 : x_ne (ar 16) (ar 13) := hM.ne 16 13 (by decide)
  have n1614 : x_ne (ar 16) (ar 14) := hM.ne 16 14 (by decide)
  have n1615 : x_ne (ar 16) (ar 15) := hM.ne 16 15 (by decide)
  have n1617 : x_ne (ar 16) (ar 17) := hM.ne 16 17 (by decide)
  have n1712 : x_ne (ar 17) (ar 12) := hM.ne 17 12 (by decide)
  have n1713 : x_ne (ar 17) (ar 13) := hM.ne 17 13 (by decide)
  have n1714 : x_ne (ar 17) (ar 14) := hM.ne 17 14 (by decide)
  have n1715 : x_ne (ar 17) (ar 15) := hM.ne 17 15 (by decide)
  have n1716 : x_ne (ar 17) (ar 16) := hM.ne 17 16 (by decide)
  have hm12 : x_ne (ar 12) m := hM.nm 12 (by decide)
  have hm13 : x_ne (ar 13) m := hM.nm 13 (by decide)
  have hm14 : x_ne (ar 14) m := hM.nm 14 (by decide)
  have hm15 : x_ne (ar 15) m := hM.nm 15 (by decide)
  have hm16 : x_ne (ar 16) m := hM.nm 16 (by decide)
  have hm17 : x_ne (ar 17) m := hM.nm 17 (by decide)
  
  refine x_aload_n C D_X9_addPoint_0.1 rfl rfl (by first | exact Or.inr ⟨_, rfl⟩ | exact va_rf_or _ | exact Or.inl rfl) ?_
  refine x_iload_n C D_X9_addPoint_0.2.1 rfl rfl ?_
  refine x_iload_n C D_X9_addPoint_0.2.2.1 rfl rfl ?_
  refine x_callVi C (y := yX9_pointOf) (c_X9_pointOf l G m n ar (nI (c / 100)) (nI (c % 100)) hM hn (by omega)) (ci := 8) hM.1 (by decide) rfl rfl k_1145 k_1147 k_52 k_67 k_1148 hd_X9_pointOf ⟨(Nat.le_of_ble_eq_true rfl), (Nat.le_of_ble_eq_true rfl)⟩ rfl (by first | exact Nat.le_of_ble_eq_true rfl | simp [x_crf, Value.category]) rfl rfl D_X9_addPoint_0.2.2.2.1 ⟨(Nat.le_of_ble_eq_true rfl), (Nat.le_of_ble_eq_true rfl)⟩ (fun r_3 S_3 h_3 => ?_)
  obtain ⟨rfl, rfl⟩ := h_3
  refine x_eqi (oI none) (by rw [hnd]) ?_
  refine x_istore_n C (lv' := [_, _, _, _, _, _, _]) D_X9_addPoint_0.2.2.2.2.1 rfl (Nat.le_of_ble_eq_true rfl) (by first | rfl | exact x_ok_q rfl) rfl ?_
  refine x_iload_n C D_X9_addPoint_0.2.2.2.2.2.1 rfl rfl ?_
  refine x_iconst C (v := (-1)) D_X9_addPoint_0.2.2.2.2.2.2.1 (by decide +kernel) ?_
  refine x_icmp_eq C 25 D_X9_addPoint_0.2.2.2.2.2.2.2.1 (by decide) (fun c_9 => ?_) (fun c_9 => ?_)
  · skip
    first
    | have d_9 := cv_eq c_9 (by omega) (by omega)
    | skip
    refine x_iconst C (v := nI 0) D_X9_addPoint_1.2.2.2.1 (by decide +kernel) ?_
    refine x_istore C (lv' := [_, _, _, _, _, _, _]) D_X9_addPoint_1.2.2.2.2.1 (Nat.le_of_ble_eq_true rfl) (by first | rfl | exact x_ok_q rfl) rfl ?_
    refine x_aload_n C D_X9_addPoint_1.2.2.2.2.2.1 rfl rfl (by first | exact Or.inr ⟨_, rfl⟩ | exact va_rf_or _ | exact Or.inl rfl) ?_
    refine x_iload_n C D_X9_addPoint_1.2.2.2.2.2.2.1 rfl rfl ?_
    refine x_if_lt C 49 D_X9_addPoint_1.2.2.2.2.2.2.2.1 (by decide) (fun c_30 => ?_) (fun c_30 => ?_)
    · skip
      exact absurd c_30 (nI_pos (by omega))
      --end
    · skip
      refine x_iload_n C D_X9_addPoint_1.2.2.2.2.2.2.2.2.1 rfl rfl ?_
      refine x_bipush C (v := nI 99) D_X9_addPoint_1.2.2.2.2.2.2.2.2.2.1 (by decide +kernel) ?_
      refine x_icmp_gt C 49 D_X9_addPoint_1.2.2.2.2.2.2.2.2.2.2.1 (by decide) (fun c_36 => ?_) (fun c_36 => ?_)
      · skip
        first
        | have d_36 := cv_lt c_36 (by omega) (by omega)
        | skip
        exfalso; omega
        --end
      · skip
        first
        | have d_36 := cv_nlt c_36 (by omega) (by omega)
        | skip
        refine x_iload_n C D_X9_addPoint_1.2.2.2.2.2.2.2.2.2.2.2 rfl rfl ?_
        refine x_if_lt C 49 D_X9_addPoint_2.1 (by decide) (fun c_40 => ?_) (fun c_40 => ?_)
        · skip
          exact absurd c_40 (nI_pos (by omega))
          --end
        · skip
          refine x_iload_n C D_X9_addPoint_2.2.1 rfl rfl ?_
          refine x_bipush C (v := nI 99) D_X9_addPoint_2.2.2.1 (by decide +kernel) ?_
          refine x_icmp_le C 53 D_X9_addPoint_2.2.2.2.1 (by decide) (fun c_46 => ?_) (fun c_46 => ?_)
          · skip
            first
            | have d_46 := cv_le c_46 (by omega) (by omega)
            | skip
            refine x_iload C D_X9_addPoint_2.2.2.2.2.2.2.1 rfl ?_
            refine x_if_ne C 71 D_X9_addPoint_2.2.2.2.2.2.2.2.1 (by decide) (fun c_55 => ?_) (fun c_55 => ?_)
            · skip
              exact absurd c_55 (by decide)
            · skip
              first
              | have d_55 := cz_eq c_55 (by omega)
              | have d_55 := cb_eq c_55
              | skip
              refine x_aload_n C D_X9_addPoint_2.2.2.2.2.2.2.2.2.1 rfl rfl (by first | exact Or.inr ⟨_, rfl⟩ | exact va_rf_or _ | exact Or.inl rfl) ?_
              refine x_callVi C (y := yX9_livingPoints) (c_X9_livingPoints l G m n ar pa hM hn (by omega) h14) (ci := 8) hM.1 (by decide) rfl rfl k_1149 k_1151 k_53 k_67 k_1152 hd_X9_livingPoints ⟨(Nat.le_of_ble_eq_true rfl), (Nat.le_of_ble_eq_true rfl)⟩ rfl (by first | exact Nat.le_of_ble_eq_true rfl | simp [x_crf, Value.category]) rfl rfl D_X9_addPoint_2.2.2.2.2.2.2.2.2.2.1 ⟨(Nat.le_of_ble_eq_true rfl), (Nat.le_of_ble_eq_true rfl)⟩ (fun r_59 S_59 h_59 => ?_)
              obtain ⟨rfl, rfl⟩ := h_59
              refine x_bipush C (v := nI 60) D_X9_addPoint_2.2.2.2.2.2.2.2.2.2.2.1 (by decide +kernel) ?_
              refine x_icmp_ne C 71 D_X9_addPoint_2.2.2.2.2.2.2.2.2.2.2.2 (by decide) (fun c_64 => ?_) (fun c_64 => ?_)
              · skip
                first
                | have d_64 := cv_ne c_64 (by omega) (by omega)
                | skip
                exfalso; omega
                --end
              · skip
                first
                | have d_64 := cv_eq c_64 (by omega) (by omega)
                | skip
                refine x_iconst C (v := nI 2) D_X9_addPoint_3.1 (by decide +kernel) ?_
                refine x_goto C 72 D_X9_addPoint_3.2.1 (by decide) ?_
                refine x_callVz C (y := yX9_can) (c_X9_can l G m _ hM.1) (ci := 8) hM.1 (by decide) rfl rfl k_978 k_980 k_37 k_67 k_981 hd_X9_can ⟨(Nat.le_of_ble_eq_true rfl), (Nat.le_of_ble_eq_true rfl)⟩ rfl (by first | exact Nat.le_of_ble_eq_true rfl | simp [x_crf, Value.category]) rfl rfl D_X9_addPoint_3.2.2.2.1 ⟨(Nat.le_of_ble_eq_true rfl), (Nat.le_of_ble_eq_true rfl)⟩ (fun r_72 S_72 h_72 => ?_)
                obtain ⟨rfl, rfl⟩ := h_72
                refine x_if_eq C 83 D_X9_addPoint_3.2.2.2.2.1 (by decide) (fun c_75 => ?_) (fun c_75 => ?_)
                · skip
                  first
                  | have d_75 := cz_eq c_75 (by omega)
                  | have d_75 := cb_eq c_75
                  | skip
                  refine x_iconst C (v := nI 0) D_X9_addPoint_3.2.2.2.2.2.2.2.1 (by decide +kernel) ?_
                  refine ret _ _ _ _ _ _ false rfl D_X9_addPoint_3.2.2.2.2.2.2.2.2.1 (Nat.le_of_ble_eq_true rfl) (Nat.le_of_ble_eq_true rfl) rfl ?_
                  exact ⟨rfl, rfl⟩
                · skip
                  exact absurd c_75 (by decide)
          · skip
            first
            | have d_46 := cv_nle c_46 (by omega) (by omega)
            | skip
            exfalso; omega
            --end
  · skip
    exact absurd c_9 (by decide)
abbrev rm_X9_addPointG : Room := { frames := 1, cells := 0, slots := 0, locals := 24 }
set_option maxHeartbeats 4000000 in
set_option maxRecDepth 100000 in
theorem c_X9_addPointG (l : Launch) (G : xG) {K N : Nat → Nat} {I : Nat → Nat → Int32} {Q : Nat → Nat → Option Nat} {J : Nat → Nat → Int64} (m n : Nat) (ar pc ps : Nat → Nat) (pa : Nat → Bool) (c k : Nat) (hM : MZ K N Q m ar) (hK : PV I m ar n pc pa ps) (hB : PB n pc ps) (hc : c < 10000) (hnd : (lastF (fun i => decide (I (ar 12) i = nI (c / 100)) && decide (I (ar 13) i = nI (c % 100))) n) = (some k)) (hal : pa k = false) (hlv : cn pa n = 60) : XM l yX9_addPoint cX9_addPoint 7 (some .boolean) rm_X9_addPointG G Rz [.ref m, .int (nI (c / 100)), .int (nI (c % 100))] (K, N, I, Q, J) (fun r S1 => r = false ∧ S1 = (K, N, x_u2 I m 18 (nI 2), Q, J)) := by
  refine x_metz (lv := [_, _, _, _, _, _, _]) (by decide +kernel) (x_cc (by first | rfl | exact x_crf _) (x_cc (by first | rfl | exact x_crf _) (x_cc (by first | rfl | exact x_crf _) x_cn))) (Nat.le_of_ble_eq_true rfl) rfl ?_
  intro pP eE sS mM aA bB hH cC Z C hini ret
  have hk9 := hM.1
  obtain ⟨hn, hn121, h12, h13, h14, h15⟩ := hK
  have h122 := hM.np 14 (by decide)
  have n1213 : x_ne (ar 12) (ar 13) := hM.ne 12 13 (by decide)
  have n1214 : x_ne (ar 12) (ar 14) := hM.ne 12 14 (by decide)
  have n1215 : x_ne (ar 12) (ar 15) := hM.ne 12 15 (by decide)
  have n1216 : x_ne (ar 12) (ar 16) := hM.ne 12 16 (by decide)
  have n1217 : x_ne (ar 12) (ar 17) := hM.ne 12 17 (by decide)
  have n1312 : x_ne (ar 13) (ar 12) := hM.ne 13 12 (by decide)
  have n1314 : x_ne (ar 13) (ar 14) := hM.ne 13 14 (by decide)
  have n1315 : x_ne (ar 13) (ar 15) := hM.ne 13 15 (by decide)
  have n1316 : x_ne (ar 13) (ar 16) := hM.ne 13 16 (by decide)
  have n1317 : x_ne (ar 13) (ar 17) := hM.ne 13 17 (by decide)
  have n1412 : x_ne (ar 14) (ar 12) := hM.ne 14 12 (by decide)
  have n1413 : x_ne (ar 14) (ar 13) := hM.ne 14 13 (by decide)
  have n1415 : x_ne (ar 14) (ar 15) := hM.ne 14 15 (by decide)
  have n1416 : x_ne (ar 14) (ar 16) := hM.ne 14 16 (by decide)
  have n1417 : x_ne (ar 14) (ar 17) := hM.ne 14 17 (by decide)
  have n1512 : x_ne (ar 15) (ar 12) := hM.ne 15 12 (by decide)
  have n1513 : x_ne (ar 15) (ar 13) := hM.ne 15 13 (by decide)
  have n1514 : x_ne (ar 15) (ar 14) := hM.ne 15 14 (by decide)
  have n1516 : x_ne (ar 15) (ar 16) := hM.ne 15 16 (by decide)
  have n1517 : x_ne (ar 15) (ar 17) := hM.ne 15 17 (by decide)
  have n1612 : x_ne (ar 16) (ar 12) := hM.ne 16 12 (by decide)
  have n1613 : x_ne (ar 16) (ar 13) := hM.ne 16 13 (by decide)
  have n1614 : x_ne (ar 16) (ar 14) := hM.ne 16 14 (by decide)
  have n1615 : x_ne (ar 16) (ar 15) := hM.ne 16 15 (by decide)
  have n1617 : x_ne (ar 16) (ar 17) := hM.ne 16 17 (by decide)
  have n1712 : x_ne (ar 17) (ar 12) := hM.ne 17 12 (by decide)
  have n1713 : x_ne (ar 17) (ar 13) := hM.ne 17 13 (by decide)
  have n1714 : x_ne (ar 17) (ar 14) := hM.ne 17 14 (by decide)
  have n1715 : x_ne (ar 17) (ar 15) := hM.ne 17 15 (by decide)
  have n1716 : x_ne (ar 17) (ar 16) := hM.ne 17 16 (by decide)
  have hm12 : x_ne (ar 12) m := hM.nm 12 (by decide)
  have hm13 : x_ne (ar 13) m := hM.nm 13 (by decide)
  have hm14 : x_ne (ar 14) m := hM.nm 14 (by decide)
  have hm15 : x_ne (ar 15) m := hM.nm 15 (by decide)
  have hm16 : x_ne (ar 16) m := hM.nm 16 (by decide)
  have hm17 : x_ne (ar 17) m := hM.nm 17 (by decide)
  have hkn := (lastF_lt hnd).1
  
  refine x_aload_n C D_X9_addPoint_0.1 rfl rfl (by first | exact Or.inr ⟨_, rfl⟩ | exact va_rf_or _ | exact Or.inl rfl) ?_
  refine x_iload_n C D_X9_addPoint_0.2.1 rfl rfl ?_
  refine x_iload_n C D_X9_addPoint_0.2.2.1 rfl rfl ?_
  refine x_callVi C (y := yX9_pointOf) (c_X9_pointOf l G m n ar (nI (c / 100)) (nI (c % 100)) hM hn (by omega)) (ci := 8) hM.1 (by decide) rfl rfl k_1145 k_1147 k_52 k_67 k_1148 hd_X9_pointOf ⟨(Nat.le_of_ble_eq_true rfl), (Nat.le_of_ble_eq_true rfl)⟩ rfl (by first | exact Nat.le_of_ble_eq_true rfl | simp [x_crf, Value.category]) rfl rfl D_X9_addPoint_0.2.2.2.1 ⟨(Nat.le_of_ble_eq_true rfl), (Nat.le_of_ble_eq_true rfl)⟩ (fun r_3 S_3 h_3 => ?_)
  obtain ⟨rfl, rfl⟩ := h_3
  refine x_eqi (oI (some k)) (by rw [hnd]) ?_
  refine x_istore_n C (lv' := [_, _, _, _, _, _, _]) D_X9_addPoint_0.2.2.2.2.1 rfl (Nat.le_of_ble_eq_true rfl) (by first | rfl | exact x_ok_q rfl) rfl ?_
  refine x_iload_n C D_X9_addPoint_0.2.2.2.2.2.1 rfl rfl ?_
  refine x_iconst C (v := (-1)) D_X9_addPoint_0.2.2.2.2.2.2.1 (by decide +kernel) ?_
  refine x_icmp_eq C 25 D_X9_addPoint_0.2.2.2.2.2.2.2.1 (by decide) (fun c_9 => ?_) (fun c_9 => ?_)
  · skip
    exact absurd c_9 (oI_nn k (by omega))
    --end
  · skip
    refine x_aload_n C D_X9_addPoint_0.2.2.2.2.2.2.2.2.1 rfl rfl (by first | exact Or.inr ⟨_, rfl⟩ | exact va_rf_or _ | exact Or.inl rfl) ?_
    refine x_getQ C (ci := 8) (k0 := 14) (by assumption) (by decide) rfl (by decide) in_X9 k_916 rfl rfl D_X9_addPoint_0.2.2.2.2.2.2.2.2.2.1 ?_
    refine x_eqr (hM.2.1 14 (by decide)).1 ?_
    refine x_iload_n C D_X9_addPoint_0.2.2.2.2.2.2.2.2.2.2.1 rfl rfl ?_
    refine x_zald C _ (by first | assumption | exact (hM.2.1 _ (by decide)).2.1) rfl (by first | omega | (rw [hM.nk _ (by decide)]; omega) | (rw [hM.np _ (by decide)]; omega)) (by first | omega | (rw [hM.nk _ (by decide)]; omega) | (rw [hM.np _ (by decide)]; omega)) D_X9_addPoint_0.2.2.2.2.2.2.2.2.2.2.2 ?_
    refine x_eqi _ (show I (ar 14) k = xb false by rw [h14 k hkn, hal]) ?_
    refine x_if_eq C 25 D_X9_addPoint_1.1 (by decide) (fun c_18 => ?_) (fun c_18 => ?_)
    · skip
      first
      | have d_18 := cz_eq c_18 (by omega)
      | have d_18 := cb_eq c_18
      | skip
      refine x_iconst C (v := nI 0) D_X9_addPoint_1.2.2.2.1 (by decide +kernel) ?_
      refine x_istore C (lv' := [_, _, _, _, _, _, _]) D_X9_addPoint_1.2.2.2.2.1 (Nat.le_of_ble_eq_true rfl) (by first | rfl | exact x_ok_q rfl) rfl ?_
      refine x_aload_n C D_X9_addPoint_1.2.2.2.2.2.1 rfl rfl (by first | exact Or.inr ⟨_, rfl⟩ | exact va_rf_or _ | exact Or.inl rfl) ?_
      refine x_iload_n C D_X9_addPoint_1.2.2.2.2.2.2.1 rfl rfl ?_
      refine x_if_lt C 49 D_X9_addPoint_1.2.2.2.2.2.2.2.1 (by decide) (fun c_30 => ?_) (fun c_30 => ?_)
      · skip
        exact absurd c_30 (nI_pos (by omega))
        --end
      · skip
        refine x_iload_n C D_X9_addPoint_1.2.2.2.2.2.2.2.2.1 rfl rfl ?_
        refine x_bipush C (v := nI 99) D_X9_addPoint_1.2.2.2.2.2.2.2.2.2.1 (by decide +kernel) ?_
        refine x_icmp_gt C 49 D_X9_addPoint_1.2.2.2.2.2.2.2.2.2.2.1 (by decide) (fun c_36 => ?_) (fun c_36 => ?_)
        · skip
          first
          | have d_36 := cv_lt c_36 (by omega) (by omega)
          | skip
          exfalso; omega
          --end
        · skip
          first
          | have d_36 := cv_nlt c_36 (by omega) (by omega)
          | skip
          refine x_iload_n C D_X9_addPoint_1.2.2.2.2.2.2.2.2.2.2.2 rfl rfl ?_
          refine x_if_lt C 49 D_X9_addPoint_2.1 (by decide) (fun c_40 => ?_) (fun c_40 => ?_)
          · skip
            exact absurd c_40 (nI_pos (by omega))
            --end
          · skip
            refine x_iload_n C D_X9_addPoint_2.2.1 rfl rfl ?_
            refine x_bipush C (v := nI 99) D_X9_addPoint_2.2.2.1 (by decide +kernel) ?_
            refine x_icmp_le C 53 D_X9_addPoint_2.2.2.2.1 (by decide) (fun c_46 => ?_) (fun c_46 => ?_)
            · skip
              first
              | have d_46 := cv_le c_46 (by omega) (by omega)
              | skip
              refine x_iload C D_X9_addPoint_2.2.2.2.2.2.2.1 rfl ?_
              refine x_if_ne C 71 D_X9_addPoint_2.2.2.2.2.2.2.2.1 (by decide) (fun c_55 => ?_) (fun c_55 => ?_)
              · skip
                exact absurd c_55 (by decide)
              · skip
                first
                | have d_55 := cz_eq c_55 (by omega)
                | have d_55 := cb_eq c_55
                | skip
                refine x_aload_n C D_X9_addPoint_2.2.2.2.2.2.2.2.2.1 rfl rfl (by first | exact Or.inr ⟨_, rfl⟩ | exact va_rf_or _ | exact Or.inl rfl) ?_
                refine x_callVi C (y := yX9_livingPoints) (c_X9_livingPoints l G m n ar pa hM hn (by omega) h14) (ci := 8) hM.1 (by decide) rfl rfl k_1149 k_1151 k_53 k_67 k_1152 hd_X9_livingPoints ⟨(Nat.le_of_ble_eq_true rfl), (Nat.le_of_ble_eq_true rfl)⟩ rfl (by first | exact Nat.le_of_ble_eq_true rfl | simp [x_crf, Value.category]) rfl rfl D_X9_addPoint_2.2.2.2.2.2.2.2.2.2.1 ⟨(Nat.le_of_ble_eq_true rfl), (Nat.le_of_ble_eq_true rfl)⟩ (fun r_59 S_59 h_59 => ?_)
                obtain ⟨rfl, rfl⟩ := h_59
                refine x_bipush C (v := nI 60) D_X9_addPoint_2.2.2.2.2.2.2.2.2.2.2.1 (by decide +kernel) ?_
                refine x_icmp_ne C 71 D_X9_addPoint_2.2.2.2.2.2.2.2.2.2.2.2 (by decide) (fun c_64 => ?_) (fun c_64 => ?_)
                · skip
                  first
                  | have d_64 := cv_ne c_64 (by omega) (by omega)
                  | skip
                  exfalso; omega
                  --end
                · skip
                  first
                  | have d_64 := cv_eq c_64 (by omega) (by omega)
                  | skip
                  refine x_iconst C (v := nI 2) D_X9_addPoint_3.1 (by decide +kernel) ?_
                  refine x_goto C 72 D_X9_addPoint_3.2.1 (by decide) ?_
                  refine x_callVz C (y := yX9_can) (c_X9_can l G m _ hM.1) (ci := 8) hM.1 (by decide) rfl rfl k_978 k_980 k_37 k_67 k_981 hd_X9_can ⟨(Nat.le_of_ble_eq_true rfl), (Nat.le_of_ble_eq_true rfl)⟩ rfl (by first | exact Nat.le_of_ble_eq_true rfl | simp [x_crf, Value.category]) rfl rfl D_X9_addPoint_3.2.2.2.1 ⟨(Nat.le_of_ble_eq_true rfl), (Nat.le_of_ble_eq_true rfl)⟩ (fun r_72 S_72 h_72 => ?_)
                  obtain ⟨rfl, rfl⟩ := h_72
                  refine x_if_eq C 83 D_X9_addPoint_3.2.2.2.2.1 (by decide) (fun c_75 => ?_) (fun c_75 => ?_)
                  · skip
                    first
                    | have d_75 := cz_eq c_75 (by omega)
                    | have d_75 := cb_eq c_75
                    | skip
                    refine x_iconst C (v := nI 0) D_X9_addPoint_3.2.2.2.2.2.2.2.1 (by decide +kernel) ?_
                    refine ret _ _ _ _ _ _ false rfl D_X9_addPoint_3.2.2.2.2.2.2.2.2.1 (Nat.le_of_ble_eq_true rfl) (Nat.le_of_ble_eq_true rfl) rfl ?_
                    exact ⟨rfl, rfl⟩
                  · skip
                    exact absurd c_75 (by decide)
            · skip
              first
              | have d_46 := cv_nle c_46 (by omega) (by omega)
              | skip
              exfalso; omega
              --end
    · skip
      exact absurd c_18 (by decide)
abbrev rm_X9_addPointD : Room := { frames := 1, cells := 0, slots := 0, locals := 24 }
set_option maxHeartbeats 4000000 in
set_option maxRecDepth 100000 in
theorem c_X9_addPointD (l : Launch) (G : xG) {K N : Nat → Nat} {I : Nat → Nat → Int32} {Q : Nat → Nat → Option Nat} {J : Nat → Nat → Int64} (m n : Nat) (ar pc ps : Nat → Nat) (pa : Nat → Bool) (c k : Nat) (hM : MZ K N Q m ar) (hK : PV I m ar n pc pa ps) (hB : PB n pc ps) (hc : c < 10000) (hnd : (lastF (fun i => decide (I (ar 12) i = nI (c / 100)) && decide (I (ar 13) i = nI (c % 100))) n) = some k) (hal : pa k = false) (hlv : cn pa n < 60) : XM l yX9_addPoint cX9_addPoint 7 (some .boolean) rm_X9_addPointD G Rz [.ref m, .int (nI (c / 100)), .int (nI (c % 100))] (K, N, I, Q, J) (fun r S1 => r = true ∧ ∃ I1, S1 = (K, N, I1, Q, J) ∧ PV I1 m ar n pc (x_up pa k true) ps ∧ PFR I I1 m ar ∧ I1 m 18 = nI 0 ∧ (∀ j, j ≠ 18 → I1 m j = I m j)) := by
  refine x_metz (lv := [_, _, _, _, _, _, _]) (by decide +kernel) (x_cc (by first | rfl | exact x_crf _) (x_cc (by first | rfl | exact x_crf _) (x_cc (by first | rfl | exact x_crf _) x_cn))) (Nat.le_of_ble_eq_true rfl) rfl ?_
  intro pP eE sS mM aA bB hH cC Z C hini ret
  have hk9 := hM.1
  obtain ⟨hn, hn121, h12, h13, h14, h15⟩ := hK
  have h122 := hM.np 14 (by decide)
  have n1213 : x_ne (ar 12) (ar 13) := hM.ne 12 13 (by decide)
  have n1214 : x_ne (ar 12) (ar 14) := hM.ne 12 14 (by decide)
  have n1215 : x_ne (ar 12) (ar 15) := hM.ne 12 15 (by decide)
  have n1216 : x_ne (ar 12) (ar 16) := hM.ne 12 16 (by decide)
  have n1217 : x_ne (ar 12) (ar 17) := hM.ne 12 17 (by decide)
  have n1312 : x_ne (ar 13) (ar 12) := hM.ne 13 12 (by decide)
  have n1314 : x_ne (ar 13) (ar 14) := hM.ne 13 14 (by decide)
  have n1315 : x_ne (ar 13) (ar 15) := hM.ne 13 15 (by decide)
  have n1316 : x_ne (ar 13) (ar 16) := hM.ne 13 16 (by decide)
  have n1317 : x_ne (ar 13) (ar 17) := hM.ne 13 17 (by decide)
  have n1412 : x_ne (ar 14) (ar 12) := hM.ne 14 12 (by decide)
  have n1413 : x_ne (ar 14) (ar 13) := hM.ne 14 13 (by decide)
  have n1415 : x_ne (ar 14) (ar 15) := hM.ne 14 15 (by decide)
  have n1416 : x_ne (ar 14) (ar 16) := hM.ne 14 16 (by decide)
  have n1417 : x_ne (ar 14) (ar 17) := hM.ne 14 17 (by decide)
  have n1512 : x_ne (ar 15) (ar 12) := hM.ne 15 12 (by decide)
  have n1513 : x_ne (ar 15) (ar 13) := hM.ne 15 13 (by decide)
  have n1514 : x_ne (ar 15) (ar 14) := hM.ne 15 14 (by decide)
  have n1516 : x_ne (ar 15) (ar 16) := hM.ne 15 16 (by decide)
  have n1517 : x_ne (ar 15) (ar 17) := hM.ne 15 17 (by decide)
  have n1612 : x_ne (ar 16) (ar 12) := hM.ne 16 12 (by decide)
  have n1613 : x_ne (ar 16) (ar 13) := hM.ne 16 13 (by decide)
  have n1614 : x_ne (ar 16) (ar 14) := hM.ne 16 14 (by decide)
  have n1615 : x_ne (ar 16) (ar 15) := hM.ne 16 15 (by decide)
  have n1617 : x_ne (ar 16) (ar 17) := hM.ne 16 17 (by decide)
  have n1712 : x_ne (ar 17) (ar 12) := hM.ne 17 12 (by decide)
  have n1713 : x_ne (ar 17) (ar 13) := hM.ne 17 13 (by decide)
  have n1714 : x_ne (ar 17) (ar 14) := hM.ne 17 14 (by decide)
  have n1715 : x_ne (ar 17) (ar 15) := hM.ne 17 15 (by decide)
  have n1716 : x_ne (ar 17) (ar 16) := hM.ne 17 16 (by decide)
  have hm12 : x_ne (ar 12) m := hM.nm 12 (by decide)
  have hm13 : x_ne (ar 13) m := hM.nm 13 (by decide)
  have hm14 : x_ne (ar 14) m := hM.nm 14 (by decide)
  have hm15 : x_ne (ar 15) m := hM.nm 15 (by decide)
  have hm16 : x_ne (ar 16) m := hM.nm 16 (by decide)
  have hm17 : x_ne (ar 17) m := hM.nm 17 (by decide)
  have hkn := (lastF_lt hnd).1
  
  refine x_aload_n C D_X9_addPoint_0.1 rfl rfl (by first | exact Or.inr ⟨_, rfl⟩ | exact va_rf_or _ | exact Or.inl rfl) ?_
  refine x_iload_n C D_X9_addPoint_0.2.1 rfl rfl ?_
  refine x_iload_n C D_X9_addPoint_0.2.2.1 rfl rfl ?_
  refine x_callVi C (y := yX9_pointOf) (c_X9_pointOf l G m n ar (nI (c / 100)) (nI (c % 100)) hM hn (by omega)) (ci := 8) hM.1 (by decide) rfl rfl k_1145 k_1147 k_52 k_67 k_1148 hd_X9_pointOf ⟨(Nat.le_of_ble_eq_true rfl), (Nat.le_of_ble_eq_true rfl)⟩ rfl (by first | exact Nat.le_of_ble_eq_true rfl | simp [x_crf, Value.category]) rfl rfl D_X9_addPoint_0.2.2.2.1 ⟨(Nat.le_of_ble_eq_true rfl), (Nat.le_of_ble_eq_true rfl)⟩ (fun r_3 S_3 h_3 => ?_)
  obtain ⟨rfl, rfl⟩ := h_3
  refine x_eqi (oI (some k)) (by rw [hnd]) ?_
  refine x_istore_n C (lv' := [_, _, _, _, _, _, _]) D_X9_addPoint_0.2.2.2.2.1 rfl (Nat.le_of_ble_eq_true rfl) (by first | rfl | exact x_ok_q rfl) rfl ?_
  refine x_iload_n C D_X9_addPoint_0.2.2.2.2.2.1 rfl rfl ?_
  refine x_iconst C (v := (-1)) D_X9_addPoint_0.2.2.2.2.2.2.1 (by decide +kernel) ?_
  refine x_icmp_eq C 25 D_X9_addPoint_0.2.2.2.2.2.2.2.1 (by decide) (fun c_9 => ?_) (fun c_9 => ?_)
  · skip
    exact absurd c_9 (oI_nn k (by omega))
    --end
  · skip
    refine x_aload_n C D_X9_addPoint_0.2.2.2.2.2.2.2.2.1 rfl rfl (by first | exact Or.inr ⟨_, rfl⟩ | exact va_rf_or _ | exact Or.inl rfl) ?_
    refine x_getQ C (ci := 8) (k0 := 14) (by assumption) (by decide) rfl (by decide) in_X9 k_916 rfl rfl D_X9_addPoint_0.2.2.2.2.2.2.2.2.2.1 ?_
    refine x_eqr (hM.2.1 14 (by decide)).1 ?_
    refine x_iload_n C D_X9_addPoint_0.2.2.2.2.2.2.2.2.2.2.1 rfl rfl ?_
    refine x_zald C _ (by first | assumption | exact (hM.2.1 _ (by decide)).2.1) rfl (by first | omega | (rw [hM.nk _ (by decide)]; omega) | (rw [hM.np _ (by decide)]; omega)) (by first | omega | (rw [hM.nk _ (by decide)]; omega) | (rw [hM.np _ (by decide)]; omega)) D_X9_addPoint_0.2.2.2.2.2.2.2.2.2.2.2 ?_
    refine x_eqi _ (show I (ar 14) k = xb false by rw [h14 k hkn, hal]) ?_
    refine x_if_eq C 25 D_X9_addPoint_1.1 (by decide) (fun c_18 => ?_) (fun c_18 => ?_)
    · skip
      first
      | have d_18 := cz_eq c_18 (by omega)
      | have d_18 := cb_eq c_18
      | skip
      refine x_iconst C (v := nI 0) D_X9_addPoint_1.2.2.2.1 (by decide +kernel) ?_
      refine x_istore C (lv' := [_, _, _, _, _, _, _]) D_X9_addPoint_1.2.2.2.2.1 (Nat.le_of_ble_eq_true rfl) (by first | rfl | exact x_ok_q rfl) rfl ?_
      refine x_aload_n C D_X9_addPoint_1.2.2.2.2.2.1 rfl rfl (by first | exact Or.inr ⟨_, rfl⟩ | exact va_rf_or _ | exact Or.inl rfl) ?_
      refine x_iload_n C D_X9_addPoint_1.2.2.2.2.2.2.1 rfl rfl ?_
      refine x_if_lt C 49 D_X9_addPoint_1.2.2.2.2.2.2.2.1 (by decide) (fun c_30 => ?_) (fun c_30 => ?_)
      · skip
        exact absurd c_30 (nI_pos (by omega))
        --end
      · skip
        refine x_iload_n C D_X9_addPoint_1.2.2.2.2.2.2.2.2.1 rfl rfl ?_
        refine x_bipush C (v := nI 99) D_X9_addPoint_1.2.2.2.2.2.2.2.2.2.1 (by decide +kernel) ?_
        refine x_icmp_gt C 49 D_X9_addPoint_1.2.2.2.2.2.2.2.2.2.2.1 (by decide) (fun c_36 => ?_) (fun c_36 => ?_)
        · skip
          first
          | have d_36 := cv_lt c_36 (by omega) (by omega)
          | skip
          exfalso; omega
          --end
        · skip
          first
          | have d_36 := cv_nlt c_36 (by omega) (by omega)
          | skip
          refine x_iload_n C D_X9_addPoint_1.2.2.2.2.2.2.2.2.2.2.2 rfl rfl ?_
          refine x_if_lt C 49 D_X9_addPoint_2.1 (by decide) (fun c_40 => ?_) (fun c_40 => ?_)
          · skip
            exact absurd c_40 (nI_pos (by omega))
            --end
          · skip
            refine x_iload_n C D_X9_addPoint_2.2.1 rfl rfl ?_
            refine x_bipush C (v := nI 99) D_X9_addPoint_2.2.2.1 (by decide +kernel) ?_
            refine x_icmp_le C 53 D_X9_addPoint_2.2.2.2.1 (by decide) (fun c_46 => ?_) (fun c_46 => ?_)
            · skip
              first
              | have d_46 := cv_le c_46 (by omega) (by omega)
              | skip
              refine x_iload C D_X9_addPoint_2.2.2.2.2.2.2.1 rfl ?_
              refine x_if_ne C 71 D_X9_addPoint_2.2.2.2.2.2.2.2.1 (by decide) (fun c_55 => ?_) (fun c_55 => ?_)
              · skip
                exact absurd c_55 (by decide)
              · skip
                first
                | have d_55 := cz_eq c_55 (by omega)
                | have d_55 := cb_eq c_55
                | skip
                refine x_aload_n C D_X9_addPoint_2.2.2.2.2.2.2.2.2.1 rfl rfl (by first | exact Or.inr ⟨_, rfl⟩ | exact va_rf_or _ | exact Or.inl rfl) ?_
                refine x_callVi C (y := yX9_livingPoints) (c_X9_livingPoints l G m n ar pa hM hn (by omega) h14) (ci := 8) hM.1 (by decide) rfl rfl k_1149 k_1151 k_53 k_67 k_1152 hd_X9_livingPoints ⟨(Nat.le_of_ble_eq_true rfl), (Nat.le_of_ble_eq_true rfl)⟩ rfl (by first | exact Nat.le_of_ble_eq_true rfl | simp [x_crf, Value.category]) rfl rfl D_X9_addPoint_2.2.2.2.2.2.2.2.2.2.1 ⟨(Nat.le_of_ble_eq_true rfl), (Nat.le_of_ble_eq_true rfl)⟩ (fun r_59 S_59 h_59 => ?_)
                obtain ⟨rfl, rfl⟩ := h_59
                refine x_bipush C (v := nI 60) D_X9_addPoint_2.2.2.2.2.2.2.2.2.2.2.1 (by decide +kernel) ?_
                have hcl9 := cn_le pa n
                refine x_icmp_ne C 71 D_X9_addPoint_2.2.2.2.2.2.2.2.2.2.2.2 (by decide) (fun c_64 => ?_) (fun c_64 => ?_)
                · skip
                  first
                  | have d_64 := cv_ne c_64 (by omega) (by omega)
                  | skip
                  refine x_iconst C (v := nI 0) D_X9_addPoint_3.2.2.1 (by decide +kernel) ?_
                  refine x_callVz C (y := yX9_can) (c_X9_can l G m _ hM.1) (ci := 8) hM.1 (by decide) rfl rfl k_978 k_980 k_37 k_67 k_981 hd_X9_can ⟨(Nat.le_of_ble_eq_true rfl), (Nat.le_of_ble_eq_true rfl)⟩ rfl (by first | exact Nat.le_of_ble_eq_true rfl | simp [x_crf, Value.category]) rfl rfl D_X9_addPoint_3.2.2.2.1 ⟨(Nat.le_of_ble_eq_true rfl), (Nat.le_of_ble_eq_true rfl)⟩ (fun r_72 S_72 h_72 => ?_)
                  obtain ⟨rfl, rfl⟩ := h_72
                  obtain ⟨I2, eI2⟩ : ∃ I2, I2 = x_u2 I m 18 (nI 0) := ⟨_, rfl⟩
                  rw [← eI2]
                  have i2 : ∀ a, x_ne a m → I2 a = I a := fun a ha => by rw [eI2, x_u2_a _ _ ha]
                  have i2m : ∀ j, j ≠ 18 → I2 m j = I m j := fun j hj => by rw [eI2, x_u2_j _ _ hj]
                  have i2n : I2 m 10 = nI n := by rw [i2m 10 (by omega)]; exact hn
                  refine x_if_eq C 83 D_X9_addPoint_3.2.2.2.2.1 (by decide) (fun c_75 => ?_) (fun c_75 => ?_)
                  · skip
                    exact absurd c_75 (by decide)
                  · skip
                    first
                    | have d_75 := cz_ne c_75 (by omega)
                    | have d_75 := cb_ne c_75
                    | skip
                    refine x_iload C D_X9_addPoint_3.2.2.2.2.2.1 rfl ?_
                    refine x_if_eq C 85 D_X9_addPoint_3.2.2.2.2.2.2.1 (by decide) (fun c_80 => ?_) (fun c_80 => ?_)
                    · skip
                      first
                      | have d_80 := cz_eq c_80 (by omega)
                      | have d_80 := cb_eq c_80
                      | skip
                      refine x_iload_n C D_X9_addPoint_3.2.2.2.2.2.2.2.2.2.1 rfl rfl ?_
                      refine x_iconst C (v := (-1)) D_X9_addPoint_3.2.2.2.2.2.2.2.2.2.2.1 (by decide +kernel) ?_
                      refine x_icmp_eq C 99 D_X9_addPoint_3.2.2.2.2.2.2.2.2.2.2.2 (by decide) (fun c_87 => ?_) (fun c_87 => ?_)
                      · skip
                        exact absurd c_87 (oI_nn k (by omega))
                        --end
                      · skip
                        refine x_aload_n C D_X9_addPoint_4.1 rfl rfl (by first | exact Or.inr ⟨_, rfl⟩ | exact va_rf_or _ | exact Or.inl rfl) ?_
                        refine x_getQ C (ci := 8) (k0 := 14) (by assumption) (by decide) rfl (by decide) in_X9 k_916 rfl rfl D_X9_addPoint_4.2.1 ?_
                        refine x_eqr (hM.2.1 14 (by decide)).1 ?_
                        refine x_iload_n C D_X9_addPoint_4.2.2.1 rfl rfl ?_
                        refine x_iconst C (v := nI 1) D_X9_addPoint_4.2.2.2.1 (by decide +kernel) ?_
                        refine x_zast C _ true rfl (by first | assumption | exact (hM.2.1 _ (by decide)).2.1) rfl (by first | omega | (rw [hM.nk _ (by decide)]; omega) | (rw [hM.np _ (by decide)]; omega)) (by first | omega | (rw [hM.nk _ (by decide)]; omega) | (rw [hM.np _ (by decide)]; omega)) D_X9_addPoint_4.2.2.2.2.1 (fun I3 eI3 => ?_)
                        refine x_iconst C (v := nI 1) D_X9_addPoint_4.2.2.2.2.2.1 (by decide +kernel) ?_
                        refine ret _ _ _ _ _ _ true rfl D_X9_addPoint_4.2.2.2.2.2.2.1 (Nat.le_of_ble_eq_true rfl) (Nat.le_of_ble_eq_true rfl) rfl ?_
                        have i3 : ∀ a, x_ne a m → x_ne a (ar 14) → I3 a = I a := fun a h1 h2 => by rw [eI3, x_u2_a _ _ h2, i2 a h1]
                        have i3m : I3 m = I2 m := by rw [eI3, x_u2_a _ _ hm14.symm]
                        refine ⟨rfl, I3, rfl, ⟨?_, hn121, fun i hi => ?_, fun i hi => ?_, fun i hi => ?_, fun i hi => ?_⟩, fun a h1 g12 g13 g14 g15 g16 g17 => i3 a h1 g14, ?_, fun j hj => ?_⟩
                        · rw [i3m]; exact i2n
                        · rw [i3 _ hm12 n1214]; exact h12 i hi
                        · rw [i3 _ hm13 n1314]; exact h13 i hi
                        · rw [eI3]
                          by_cases e : i = k
                          · subst e; rw [x_u2_s, x_up_s]; rfl
                          · rw [x_u2_j _ _ e, x_up_n _ _ e, i2 _ hm14]; exact h14 i hi
                        · rw [i3 _ hm15 n1514]; exact h15 i hi
                        · rw [i3m, eI2, x_u2_s]
                        · rw [i3m]; exact i2m j hj
                    · skip
                      exact absurd c_80 (by decide)
                · skip
                  first
                  | have d_64 := cv_eq c_64 (by omega) (by omega)
                  | skip
                  exfalso; omega
                  --end
            · skip
              first
              | have d_46 := cv_nle c_46 (by omega) (by omega)
              | skip
              exfalso; omega
              --end
    · skip
      exact absurd c_18 (by decide)
abbrev rm_X9_addPointN : Room := { frames := 5, cells := 0, slots := 0, locals := 113 }
theorem hd_X9_growPoints : yX9_growPoints.cls ≠ "java/lang/invoke/MethodHandle" ∧ yX9_growPoints.cls ≠ "java/lang/invoke/VarHandle" ∧ (parseMethodDescriptor yX9_growPoints.desc).map (fun d => d.parameters.length) = some 1 := by decide +kernel
set_option maxHeartbeats 4000000 in
set_option maxRecDepth 100000 in
theorem c_X9_addPointN (l : Launch) (G : xG) {K N : Nat → Nat} {I : Nat → Nat → Int32} {Q : Nat → Nat → Option Nat} {J : Nat → Nat → Int64} (m n : Nat) (ar pc ps : Nat → Nat) (pa : Nat → Bool) (c pl R : Nat) (OP : Nat → Nat → Bool) (PS : Nat → Nat → Nat) (hM : MZ K N Q m ar) (hK : PV I m ar n pc pa ps) (hB : PB n pc ps) (hn120 : n ≤ 120) (hc : c < 10000) (hnd : (lastF (fun i => decide (I (ar 12) i = nI (c / 100)) && decide (I (ar 13) i = nI (c % 100))) n) = none) (hlv : cn pa n < 60) (hlf : leafX (fun p => lastF (fun i => decide (ps i = p)) n) (fun p k => decide (od5 (dep p) c < od5 (dep p) (pc k))) 28 1 = some pl) (hpl : 0 < pl ∧ pl < 2 ^ 20) (hL : 0 < (topF (hvF (n + 1) (x_up ps n pl)) 26 (pl / 2) 0) → (∀ i, i < n + 1 → OP 0 i = bel (x_up ps n pl i) (topF (hvF (n + 1) (x_up ps n pl)) 26 (pl / 2) 0)) ∧ (∀ i, i < n + 1 → PS 0 i = if OP 0 i = true then (topF (hvF (n + 1) (x_up ps n pl)) 26 (pl / 2) 0) else x_up ps n pl i) ∧ LOR (n + 1) (x_up pc n c) OP PS R) : XM l yX9_addPoint cX9_addPoint 7 (some .boolean) rm_X9_addPointN G Rz [.ref m, .int (nI (c / 100)), .int (nI (c % 100))] (K, N, I, Q, J) (fun r S1 => r = true ∧ ∃ I1, S1 = (K, N, I1, Q, J) ∧ PV I1 m ar (n + 1) (x_up pc n c) (x_up pa n true) (fun i => if 0 < (topF (hvF (n + 1) (x_up ps n pl)) 26 (pl / 2) 0) then PS R i else x_up ps n pl i) ∧ PFR I I1 m ar ∧ I1 m 18 = nI 0 ∧ I1 m 11 = I m 11 + nI (if 0 < (topF (hvF (n + 1) (x_up ps n pl)) 26 (pl / 2) 0) then cnW (n + 1) (x_up ps n pl) (topF (hvF (n + 1) (x_up ps n pl)) 26 (pl / 2) 0) else 0) ∧ (∀ j, j ≠ 18 → j ≠ 10 → j ≠ 11 → I1 m j = I m j)) := by
  refine x_metz (lv := [_, _, _, _, _, _, _]) (by decide +kernel) (x_cc (by first | rfl | exact x_crf _) (x_cc (by first | rfl | exact x_crf _) (x_cc (by first | rfl | exact x_crf _) x_cn))) (Nat.le_of_ble_eq_true rfl) rfl ?_
  intro pP eE sS mM aA bB hH cC Z C hini ret
  have hk9 := hM.1
  obtain ⟨hn, hn121, h12, h13, h14, h15⟩ := hK
  have h122 := hM.np 14 (by decide)
  have n1213 : x_ne (ar 12) (ar 13) := hM.ne 12 13 (by decide)
  have n1214 : x_ne (ar 12) (ar 14) := hM.ne 12 14 (by decide)
  have n1215 : x_ne (ar 12) (ar 15) := hM.ne 12 15 (by decide)
  have n1216 : x_ne (ar 12) (ar 16) := hM.ne 12 16 (by decide)
  have n1217 : x_ne (ar 12) (ar 17) := hM.ne 12 17 (by decide)
  have n1312 : x_ne (ar 13) (ar 12) := hM.ne 13 12 (by decide)
  have n1314 : x_ne (ar 13) (ar 14) := hM.ne 13 14 (by decide)
  have n1315 : x_ne (ar 13) (ar 15) := hM.ne 13 15 (by decide)
  have n1316 : x_ne (ar 13) (ar 16) := hM.ne 13 16 (by decide)
  have n1317 : x_ne (ar 13) (ar 17) := hM.ne 13 17 (by decide)
  have n1412 : x_ne (ar 14) (ar 12) := hM.ne 14 12 (by decide)
  have n1413 : x_ne (ar 14) (ar 13) := hM.ne 14 13 (by decide)
  have n1415 : x_ne (ar 14) (ar 15) := hM.ne 14 15 (by decide)
  have n1416 : x_ne (ar 14) (ar 16) := hM.ne 14 16 (by decide)
  have n1417 : x_ne (ar 14) (ar 17) := hM.ne 14 17 (by decide)
  have n1512 : x_ne (ar 15) (ar 12) := hM.ne 15 12 (by decide)
  have n1513 : x_ne (ar 15) (ar 13) := hM.ne 15 13 (by decide)
  have n1514 : x_ne (ar 15) (ar 14) := hM.ne 15 14 (by decide)
  have n1516 : x_ne (ar 15) (ar 16) := hM.ne 15 16 (by decide)
  have n1517 : x_ne (ar 15) (ar 17) := hM.ne 15 17 (by decide)
  have n1612 : x_ne (ar 16) (ar 12) := hM.ne 16 12 (by decide)
  have n1613 : x_ne (ar 16) (ar 13) := hM.ne 16 13 (by decide)
  have n1614 : x_ne (ar 16) (ar 14) := hM.ne 16 14 (by decide)
  have n1615 : x_ne (ar 16) (ar 15) := hM.ne 16 15 (by decide)
  have n1617 : x_ne (ar 16) (ar 17) := hM.ne 16 17 (by decide)
  have n1712 : x_ne (ar 17) (ar 12) := hM.ne 17 12 (by decide)
  have n1713 : x_ne (ar 17) (ar 13) := hM.ne 17 13 (by decide)
  have n1714 : x_ne (ar 17) (ar 14) := hM.ne 17 14 (by decide)
  have n1715 : x_ne (ar 17) (ar 15) := hM.ne 17 15 (by decide)
  have n1716 : x_ne (ar 17) (ar 16) := hM.ne 17 16 (by decide)
  have hm12 : x_ne (ar 12) m := hM.nm 12 (by decide)
  have hm13 : x_ne (ar 13) m := hM.nm 13 (by decide)
  have hm14 : x_ne (ar 14) m := hM.nm 14 (by decide)
  have hm15 : x_ne (ar 15) m := hM.nm 15 (by decide)
  have hm16 : x_ne (ar 16) m := hM.nm 16 (by decide)
  have hm17 : x_ne (ar 17) m := hM.nm 17 (by decide)
  
  refine x_aload_n C D_X9_addPoint_0.1 rfl rfl (by first | exact Or.inr ⟨_, rfl⟩ | exact va_rf_or _ | exact Or.inl rfl) ?_
  refine x_iload_n C D_X9_addPoint_0.2.1 rfl rfl ?_
  refine x_iload_n C D_X9_addPoint_0.2.2.1 rfl rfl ?_
  refine x_callVi C (y := yX9_pointOf) (c_X9_pointOf l G m n ar (nI (c / 100)) (nI (c % 100)) hM hn (by omega)) (ci := 8) hM.1 (by decide) rfl rfl k_1145 k_1147 k_52 k_67 k_1148 hd_X9_pointOf ⟨(Nat.le_of_ble_eq_true rfl), (Nat.le_of_ble_eq_true rfl)⟩ rfl (by first | exact Nat.le_of_ble_eq_true rfl | simp [x_crf, Value.category]) rfl rfl D_X9_addPoint_0.2.2.2.1 ⟨(Nat.le_of_ble_eq_true rfl), (Nat.le_of_ble_eq_true rfl)⟩ (fun r_3 S_3 h_3 => ?_)
  obtain ⟨rfl, rfl⟩ := h_3
  refine x_eqi (oI none) (by rw [hnd]) ?_
  refine x_istore_n C (lv' := [_, _, _, _, _, _, _]) D_X9_addPoint_0.2.2.2.2.1 rfl (Nat.le_of_ble_eq_true rfl) (by first | rfl | exact x_ok_q rfl) rfl ?_
  refine x_iload_n C D_X9_addPoint_0.2.2.2.2.2.1 rfl rfl ?_
  refine x_iconst C (v := (-1)) D_X9_addPoint_0.2.2.2.2.2.2.1 (by decide +kernel) ?_
  refine x_icmp_eq C 25 D_X9_addPoint_0.2.2.2.2.2.2.2.1 (by decide) (fun c_9 => ?_) (fun c_9 => ?_)
  · skip
    first
    | have d_9 := cv_eq c_9 (by omega) (by omega)
    | skip
    refine x_iconst C (v := nI 0) D_X9_addPoint_1.2.2.2.1 (by decide +kernel) ?_
    refine x_istore C (lv' := [_, _, _, _, _, _, _]) D_X9_addPoint_1.2.2.2.2.1 (Nat.le_of_ble_eq_true rfl) (by first | rfl | exact x_ok_q rfl) rfl ?_
    refine x_aload_n C D_X9_addPoint_1.2.2.2.2.2.1 rfl rfl (by first | exact Or.inr ⟨_, rfl⟩ | exact va_rf_or _ | exact Or.inl rfl) ?_
    refine x_iload_n C D_X9_addPoint_1.2.2.2.2.2.2.1 rfl rfl ?_
    refine x_if_lt C 49 D_X9_addPoint_1.2.2.2.2.2.2.2.1 (by decide) (fun c_30 => ?_) (fun c_30 => ?_)
    · skip
      exact absurd c_30 (nI_pos (by omega))
      --end
    · skip
      refine x_iload_n C D_X9_addPoint_1.2.2.2.2.2.2.2.2.1 rfl rfl ?_
      refine x_bipush C (v := nI 99) D_X9_addPoint_1.2.2.2.2.2.2.2.2.2.1 (by decide +kernel) ?_
      refine x_icmp_gt C 49 D_X9_addPoint_1.2.2.2.2.2.2.2.2.2.2.1 (by decide) (fun c_36 => ?_) (fun c_36 => ?_)
      · skip
        first
        | have d_36 := cv_lt c_36 (by omega) (by omega)
        | skip
        exfalso; omega
        --end
      · skip
        first
        | have d_36 := cv_nlt c_36 (by omega) (by omega)
        | skip
        refine x_iload_n C D_X9_addPoint_1.2.2.2.2.2.2.2.2.2.2.2 rfl rfl ?_
        refine x_if_lt C 49 D_X9_addPoint_2.1 (by decide) (fun c_40 => ?_) (fun c_40 => ?_)
        · skip
          exact absurd c_40 (nI_pos (by omega))
          --end
        · skip
          refine x_iload_n C D_X9_addPoint_2.2.1 rfl rfl ?_
          refine x_bipush C (v := nI 99) D_X9_addPoint_2.2.2.1 (by decide +kernel) ?_
          refine x_icmp_le C 53 D_X9_addPoint_2.2.2.2.1 (by decide) (fun c_46 => ?_) (fun c_46 => ?_)
          · skip
            first
            | have d_46 := cv_le c_46 (by omega) (by omega)
            | skip
            refine x_iload C D_X9_addPoint_2.2.2.2.2.2.2.1 rfl ?_
            refine x_if_ne C 71 D_X9_addPoint_2.2.2.2.2.2.2.2.1 (by decide) (fun c_55 => ?_) (fun c_55 => ?_)
            · skip
              exact absurd c_55 (by decide)
            · skip
              first
              | have d_55 := cz_eq c_55 (by omega)
              | have d_55 := cb_eq c_55
              | skip
              refine x_aload_n C D_X9_addPoint_2.2.2.2.2.2.2.2.2.1 rfl rfl (by first | exact Or.inr ⟨_, rfl⟩ | exact va_rf_or _ | exact Or.inl rfl) ?_
              refine x_callVi C (y := yX9_livingPoints) (c_X9_livingPoints l G m n ar pa hM hn (by omega) h14) (ci := 8) hM.1 (by decide) rfl rfl k_1149 k_1151 k_53 k_67 k_1152 hd_X9_livingPoints ⟨(Nat.le_of_ble_eq_true rfl), (Nat.le_of_ble_eq_true rfl)⟩ rfl (by first | exact Nat.le_of_ble_eq_true rfl | simp [x_crf, Value.category]) rfl rfl D_X9_addPoint_2.2.2.2.2.2.2.2.2.2.1 ⟨(Nat.le_of_ble_eq_true rfl), (Nat.le_of_ble_eq_true rfl)⟩ (fun r_59 S_59 h_59 => ?_)
              obtain ⟨rfl, rfl⟩ := h_59
              refine x_bipush C (v := nI 60) D_X9_addPoint_2.2.2.2.2.2.2.2.2.2.2.1 (by decide +kernel) ?_
              have hcl9 := cn_le pa n
              refine x_icmp_ne C 71 D_X9_addPoint_2.2.2.2.2.2.2.2.2.2.2.2 (by decide) (fun c_64 => ?_) (fun c_64 => ?_)
              · skip
                first
                | have d_64 := cv_ne c_64 (by omega) (by omega)
                | skip
                refine x_iconst C (v := nI 0) D_X9_addPoint_3.2.2.1 (by decide +kernel) ?_
                refine x_callVz C (y := yX9_can) (c_X9_can l G m _ hM.1) (ci := 8) hM.1 (by decide) rfl rfl k_978 k_980 k_37 k_67 k_981 hd_X9_can ⟨(Nat.le_of_ble_eq_true rfl), (Nat.le_of_ble_eq_true rfl)⟩ rfl (by first | exact Nat.le_of_ble_eq_true rfl | simp [x_crf, Value.category]) rfl rfl D_X9_addPoint_3.2.2.2.1 ⟨(Nat.le_of_ble_eq_true rfl), (Nat.le_of_ble_eq_true rfl)⟩ (fun r_72 S_72 h_72 => ?_)
                obtain ⟨rfl, rfl⟩ := h_72
                obtain ⟨I2, eI2⟩ : ∃ I2, I2 = x_u2 I m 18 (nI 0) := ⟨_, rfl⟩
                rw [← eI2]
                have i2 : ∀ a, x_ne a m → I2 a = I a := fun a ha => by rw [eI2, x_u2_a _ _ ha]
                have i2m : ∀ j, j ≠ 18 → I2 m j = I m j := fun j hj => by rw [eI2, x_u2_j _ _ hj]
                have i2n : I2 m 10 = nI n := by rw [i2m 10 (by omega)]; exact hn
                refine x_if_eq C 83 D_X9_addPoint_3.2.2.2.2.1 (by decide) (fun c_75 => ?_) (fun c_75 => ?_)
                · skip
                  exact absurd c_75 (by decide)
                · skip
                  first
                  | have d_75 := cz_ne c_75 (by omega)
                  | have d_75 := cb_ne c_75
                  | skip
                  refine x_iload C D_X9_addPoint_3.2.2.2.2.2.1 rfl ?_
                  refine x_if_eq C 85 D_X9_addPoint_3.2.2.2.2.2.2.1 (by decide) (fun c_80 => ?_) (fun c_80 => ?_)
                  · skip
                    first
                    | have d_80 := cz_eq c_80 (by omega)
                    | have d_80 := cb_eq c_80
                    | skip
                    refine x_iload_n C D_X9_addPoint_3.2.2.2.2.2.2.2.2.2.1 rfl rfl ?_
                    refine x_iconst C (v := (-1)) D_X9_addPoint_3.2.2.2.2.2.2.2.2.2.2.1 (by decide +kernel) ?_
                    refine x_icmp_eq C 99 D_X9_addPoint_3.2.2.2.2.2.2.2.2.2.2.2 (by decide) (fun c_87 => ?_) (fun c_87 => ?_)
                    · skip
                      first
                      | have d_87 := cv_eq c_87 (by omega) (by omega)
                      | skip
                      refine x_iconst C (v := nI 1) D_X9_addPoint_4.2.2.2.2.2.2.2.1 (by decide +kernel) ?_
                      refine x_istore C (lv' := [_, _, _, _, _, _, _]) D_X9_addPoint_4.2.2.2.2.2.2.2.2.1 (Nat.le_of_ble_eq_true rfl) (by first | rfl | exact x_ok_q rfl) rfl ?_
                      refine x_aload_n C D_X9_addPoint_4.2.2.2.2.2.2.2.2.2.1 rfl rfl (by first | exact Or.inr ⟨_, rfl⟩ | exact va_rf_or _ | exact Or.inl rfl) ?_
                      refine x_getQ C (ci := 8) (k0 := 15) (by assumption) (by decide) rfl (by decide) in_X9 k_917 rfl rfl D_X9_addPoint_4.2.2.2.2.2.2.2.2.2.2.1 ?_
                      refine x_eqr (hM.2.1 15 (by decide)).1 ?_
                      refine x_aload_n C D_X9_addPoint_4.2.2.2.2.2.2.2.2.2.2.2 rfl rfl (by first | exact Or.inr ⟨_, rfl⟩ | exact va_rf_or _ | exact Or.inl rfl) ?_
                      refine x_getI C (ci := 8) (k0 := 10) (by assumption) (by decide) rfl (by decide) in_X9 k_912 rfl rfl D_X9_addPoint_5.1 ?_
                      first
                      | refine x_eqi _ (i2n) ?_
                      | skip
                      refine x_iload C D_X9_addPoint_5.2.1 rfl ?_
                      refine x_callSi C (y := yX9_nodeAt) (c_X9_nodeAt l G (ar 15) n (1) ps (hM.2.1 15 (by decide)).2.1 (by have := hM.np 15 (by decide); omega) (by have := hM.np 15 (by decide); omega) (by omega) (by omega) (fun i hi => ⟨by rw [i2 _ hm15]; exact h15 i hi, by have := hB i hi; omega⟩)) k_990 k_991 k_67 k_992 hd_X9_nodeAt ⟨(Nat.le_of_ble_eq_true rfl), (Nat.le_of_ble_eq_true rfl)⟩ rfl (by first | exact Nat.le_of_ble_eq_true rfl | simp [x_crf, Value.category]) rfl rfl D_X9_addPoint_5.2.2.1 ⟨(Nat.le_of_ble_eq_true rfl), (Nat.le_of_ble_eq_true rfl)⟩ (fun r_112 S_112 h_112 => ?_)
                      obtain ⟨rfl, rfl⟩ := h_112
                      refine x_istore C (lv' := [_, _, _, _, _, _, _]) D_X9_addPoint_5.2.2.2.1 (Nat.le_of_ble_eq_true rfl) (by first | rfl | exact x_ok_q rfl) rfl ?_
                      have L_117 : ∀ (w_117 : Nat) (fu p0 : Nat), fu < w_117 → ((p0 + 1) * 2 ^ fu ≤ 2 ^ 29) → (leafX (fun p => lastF (fun i => decide (ps i = p)) n) (fun p k => decide (od5 (dep p) c < od5 (dep p) (pc k))) (fu + 1) p0 = some pl) → XW pP l eE rm_X9_addPointN sS mM aA bB hH cC G Z 0 0 (K, N, I2, Q, J) 117 [some (.ref m), some (.int (nI (c / 100))), some (.int (nI (c % 100))), some (.int (oI none)), some (.int (nI 0)), some (.int (nI p0)), some (.int (oI ((fun p => lastF (fun i => decide (ps i = p)) n) p0)))] [] := by
                        intro w_117
                        induction w_117 with
                        | zero =>
                          intro fu p0 hw_117
                          exact absurd hw_117 (Nat.not_lt_zero _)
                        | succ w_117 ih_117 =>
                          intro fu p0 hw_117 hb hW
                          have hp29 := pb_lt hb
                          refine x_iload C D_X9_addPoint_5.2.2.2.2.1 rfl ?_
                          refine x_iconst C (v := (-1)) D_X9_addPoint_5.2.2.2.2.2.1 (by decide +kernel) ?_
                          refine x_icmp_eq C 180 D_X9_addPoint_5.2.2.2.2.2.2.1 (by decide) (fun c_120 => ?_) (fun c_120 => ?_)
                          · skip
                            have d1 : (fun p => lastF (fun i => decide (ps i = p)) n) p0 = none := oI_none c_120 (fun k hk => by have := (lastF_lt hk).1; omega)
                            rw [leafX_none (nd := (fun p => lastF (fun i => decide (ps i = p)) n)) (p := p0) d1] at hW
                            obtain rfl : p0 = pl := Option.some.inj hW
                            refine x_aload_n C D_X9_addPoint_8.2.1 rfl rfl (by first | exact Or.inr ⟨_, rfl⟩ | exact va_rf_or _ | exact Or.inl rfl) ?_
                            refine x_getQ C (ci := 8) (k0 := 12) (by assumption) (by decide) rfl (by decide) in_X9 k_914 rfl rfl D_X9_addPoint_8.2.2.1 ?_
                            refine x_eqr (hM.2.1 12 (by decide)).1 ?_
                            refine x_aload_n C D_X9_addPoint_8.2.2.2.1 rfl rfl (by first | exact Or.inr ⟨_, rfl⟩ | exact va_rf_or _ | exact Or.inl rfl) ?_
                            refine x_getI C (ci := 8) (k0 := 10) (by assumption) (by decide) rfl (by decide) in_X9 k_912 rfl rfl D_X9_addPoint_8.2.2.2.2.1 ?_
                            first
                            | refine x_eqi _ (i2n) ?_
                            | skip
                            refine x_iload_n C D_X9_addPoint_8.2.2.2.2.2.1 rfl rfl ?_
                            refine x_iast C _ (by first | assumption | exact (hM.2.1 _ (by decide)).2.1) rfl (by first | omega | (rw [hM.nk _ (by decide)]; omega) | (rw [hM.np _ (by decide)]; omega)) (by first | omega | (rw [hM.nk _ (by decide)]; omega) | (rw [hM.np _ (by decide)]; omega)) D_X9_addPoint_8.2.2.2.2.2.2.1 (fun I3 eI3 => ?_)
                            have i3n : I3 m 10 = nI n := by rw [eI3, x_u2_a _ _ hm12.symm]; exact i2n
                            refine x_aload_n C D_X9_addPoint_8.2.2.2.2.2.2.2.1 rfl rfl (by first | exact Or.inr ⟨_, rfl⟩ | exact va_rf_or _ | exact Or.inl rfl) ?_
                            refine x_getQ C (ci := 8) (k0 := 13) (by assumption) (by decide) rfl (by decide) in_X9 k_915 rfl rfl D_X9_addPoint_8.2.2.2.2.2.2.2.2.1 ?_
                            refine x_eqr (hM.2.1 13 (by decide)).1 ?_
                            refine x_aload_n C D_X9_addPoint_8.2.2.2.2.2.2.2.2.2.1 rfl rfl (by first | exact Or.inr ⟨_, rfl⟩ | exact va_rf_or _ | exact Or.inl rfl) ?_
                            refine x_getI C (ci := 8) (k0 := 10) (by assumption) (by decide) rfl (by decide) in_X9 k_912 rfl rfl D_X9_addPoint_8.2.2.2.2.2.2.2.2.2.2.1 ?_
                            refine x_eqi _ i3n ?_
                            refine x_iload_n C D_X9_addPoint_8.2.2.2.2.2.2.2.2.2.2.2 rfl rfl ?_
                            refine x_iast C _ (by first | assumption | exact (hM.2.1 _ (by decide)).2.1) rfl (by first | omega | (rw [hM.nk _ (by decide)]; omega) | (rw [hM.np _ (by decide)]; omega)) (by first | omega | (rw [hM.nk _ (by decide)]; omega) | (rw [hM.np _ (by decide)]; omega)) D_X9_addPoint_9.1 (fun I4 eI4 => ?_)
                            have i4n : I4 m 10 = nI n := by rw [eI4, x_u2_a _ _ hm13.symm]; exact i3n
                            refine x_aload_n C D_X9_addPoint_9.2.1 rfl rfl (by first | exact Or.inr ⟨_, rfl⟩ | exact va_rf_or _ | exact Or.inl rfl) ?_
                            refine x_getQ C (ci := 8) (k0 := 14) (by assumption) (by decide) rfl (by decide) in_X9 k_916 rfl rfl D_X9_addPoint_9.2.2.1 ?_
                            refine x_eqr (hM.2.1 14 (by decide)).1 ?_
                            refine x_aload_n C D_X9_addPoint_9.2.2.2.1 rfl rfl (by first | exact Or.inr ⟨_, rfl⟩ | exact va_rf_or _ | exact Or.inl rfl) ?_
                            refine x_getI C (ci := 8) (k0 := 10) (by assumption) (by decide) rfl (by decide) in_X9 k_912 rfl rfl D_X9_addPoint_9.2.2.2.2.1 ?_
                            refine x_eqi _ i4n ?_
                            refine x_iconst C (v := nI 1) D_X9_addPoint_9.2.2.2.2.2.1 (by decide +kernel) ?_
                            refine x_zast C _ true rfl (by first | assumption | exact (hM.2.1 _ (by decide)).2.1) rfl (by first | omega | (rw [hM.nk _ (by decide)]; omega) | (rw [hM.np _ (by decide)]; omega)) (by first | omega | (rw [hM.nk _ (by decide)]; omega) | (rw [hM.np _ (by decide)]; omega)) D_X9_addPoint_9.2.2.2.2.2.2.1 (fun I5 eI5 => ?_)
                            have i5n : I5 m 10 = nI n := by rw [eI5, x_u2_a _ _ hm14.symm]; exact i4n
                            refine x_aload_n C D_X9_addPoint_9.2.2.2.2.2.2.2.1 rfl rfl (by first | exact Or.inr ⟨_, rfl⟩ | exact va_rf_or _ | exact Or.inl rfl) ?_
                            refine x_getQ C (ci := 8) (k0 := 15) (by assumption) (by decide) rfl (by decide) in_X9 k_917 rfl rfl D_X9_addPoint_9.2.2.2.2.2.2.2.2.1 ?_
                            refine x_eqr (hM.2.1 15 (by decide)).1 ?_
                            refine x_aload_n C D_X9_addPoint_9.2.2.2.2.2.2.2.2.2.1 rfl rfl (by first | exact Or.inr ⟨_, rfl⟩ | exact va_rf_or _ | exact Or.inl rfl) ?_
                            refine x_getI C (ci := 8) (k0 := 10) (by assumption) (by decide) rfl (by decide) in_X9 k_912 rfl rfl D_X9_addPoint_9.2.2.2.2.2.2.2.2.2.2.1 ?_
                            refine x_eqi _ i5n ?_
                            refine x_iload C D_X9_addPoint_9.2.2.2.2.2.2.2.2.2.2.2 rfl ?_
                            refine x_iast C _ (by first | assumption | exact (hM.2.1 _ (by decide)).2.1) rfl (by first | omega | (rw [hM.nk _ (by decide)]; omega) | (rw [hM.np _ (by decide)]; omega)) (by first | omega | (rw [hM.nk _ (by decide)]; omega) | (rw [hM.np _ (by decide)]; omega)) D_X9_addPoint_10.1 (fun I6 eI6 => ?_)
                            have i6n : I6 m 10 = nI n := by rw [eI6, x_u2_a _ _ hm15.symm]; exact i5n
                            refine x_aload_n C D_X9_addPoint_10.2.1 rfl rfl (by first | exact Or.inr ⟨_, rfl⟩ | exact va_rf_or _ | exact Or.inl rfl) ?_
                            refine x_dup C D_X9_addPoint_10.2.2.1 (by first | rfl | exact x_crf _) ?_
                            refine x_getI C (ci := 8) (k0 := 10) (by assumption) (by decide) rfl (by decide) in_X9 k_912 rfl rfl D_X9_addPoint_10.2.2.2.1 ?_
                            refine x_eqi _ i6n ?_
                            refine x_iconst C (v := nI 1) D_X9_addPoint_10.2.2.2.2.1 (by decide +kernel) ?_
                            refine x_iadd C D_X9_addPoint_10.2.2.2.2.2.1 ?_
                            first
                            | refine x_eqi _ (nI_add _ _) ?_
                            | skip
                            refine x_putI C (ci := 8) (k0 := 10) (by assumption) (by decide) rfl (by decide) in_X9 k_912 rfl tyX9 tyX9_ok nmX9 rfl (by rfl) rfl rfl rfl D_X9_addPoint_10.2.2.2.2.2.2.1 (fun I7 eI7 => ?_)
                            have g12 : ∀ i, i < n + 1 → I7 (ar 12) i = nI (x_up pc n c i / 100) := fun i hi => by
                              rw [eI7, x_u2_a _ _ hm12, eI6, x_u2_a _ _ n1215, eI5, x_u2_a _ _ n1214, eI4, x_u2_a _ _ n1213, eI3]
                              exact up_arr (g := fun c => nI (c / 100)) (fun i hi => by rw [i2 _ hm12]; exact h12 i hi) i hi
                            have g13 : ∀ i, i < n + 1 → I7 (ar 13) i = nI (x_up pc n c i % 100) := fun i hi => by
                              rw [eI7, x_u2_a _ _ hm13, eI6, x_u2_a _ _ n1315, eI5, x_u2_a _ _ n1314, eI4]
                              exact up_arr (g := fun c => nI (c % 100)) (fun i hi => by rw [eI3, x_u2_a _ _ n1312, i2 _ hm13]; exact h13 i hi) i hi
                            have g14 : ∀ i, i < n + 1 → I7 (ar 14) i = xb (x_up pa n true i) := fun i hi => by
                              rw [eI7, x_u2_a _ _ hm14, eI6, x_u2_a _ _ n1415, eI5]
                              exact up_arr (g := xb) (v := true) (fun i hi => by rw [eI4, x_u2_a _ _ n1413, eI3, x_u2_a _ _ n1412, i2 _ hm14]; exact h14 i hi) i hi
                            have g15 : ∀ i, i < n + 1 → I7 (ar 15) i = nI (x_up ps n p0 i) := fun i hi => by
                              rw [eI7, x_u2_a _ _ hm15, eI6]
                              exact up_arr (g := nI) (fun i hi => by rw [eI5, x_u2_a _ _ n1514, eI4, x_u2_a _ _ n1513, eI3, x_u2_a _ _ n1512, i2 _ hm15]; exact h15 i hi) i hi
                            have g10 : I7 m 10 = nI (n + 1) := by rw [eI7, x_u2_s]
                            have gm : ∀ j, j ≠ 10 → I7 m j = I2 m j := fun j hj => by rw [eI7, x_u2_j _ _ hj, eI6, x_u2_a _ _ hm15.symm, eI5, x_u2_a _ _ hm14.symm, eI4, x_u2_a _ _ hm13.symm, eI3, x_u2_a _ _ hm12.symm]
                            have gpc : ∀ i, i < n + 1 → x_up pc n c i < 10000 := fun i hi => by
                              by_cases e : i = n
                              · rw [e, x_up_s]; exact hc
                              · rw [x_up_n _ _ e]; exact (hB i (by omega)).1
                            have gps : ∀ i, i < n + 1 → x_up ps n p0 i < 2 ^ 20 := fun i hi => by
                              by_cases e : i = n
                              · rw [e, x_up_s]; exact hpl.2
                              · rw [x_up_n _ _ e]; exact (hB i (by omega)).2.2
                            refine x_aload_n C D_X9_addPoint_10.2.2.2.2.2.2.2.1 rfl rfl (by first | exact Or.inr ⟨_, rfl⟩ | exact va_rf_or _ | exact Or.inl rfl) ?_
                            refine x_iload C D_X9_addPoint_10.2.2.2.2.2.2.2.2.1 rfl ?_
                            refine x_callVv C (y := yX9_growPoints) (c_X9_growPoints l G m (n + 1) p0 R ar (x_up pc n c) (x_up ps n p0) OP PS hM g10 (by omega) g12 g13 gpc (fun i hi => ⟨g15 i hi, by have := gps i hi; omega⟩) (by omega) hL) (ci := 8) hM.1 (by decide) rfl rfl k_1156 k_1158 k_54 k_67 k_1159 hd_X9_growPoints ⟨(Nat.le_of_ble_eq_true rfl), (Nat.le_of_ble_eq_true rfl)⟩ rfl (by first | exact Nat.le_of_ble_eq_true rfl | simp [x_crf, Value.category]) rfl rfl D_X9_addPoint_10.2.2.2.2.2.2.2.2.2.1 ⟨(Nat.le_of_ble_eq_true rfl), (Nat.le_of_ble_eq_true rfl)⟩ (fun _ S_234 h_234 => ?_)
                            obtain ⟨I8, rfl, e1, e2, e3⟩ := h_234
                            have q8 : ∀ a, x_ne a m → x_ne a (ar 15) → x_ne a (ar 16) → x_ne a (ar 17) → I8 a = I7 a := fun a h1 h2 h3 h4 => by funext j; exact e3 a j h2 h3 h4 (fun z => h1 z.1)
                            have q8m : ∀ j, j ≠ 11 → I8 m j = I7 m j := fun j hj => e3 m j hm15.symm hm16.symm hm17.symm (fun z => hj z.2)
                            refine x_iconst C (v := nI 1) D_X9_addPoint_10.2.2.2.2.2.2.2.2.2.2.1 (by decide +kernel) ?_
                            refine ret _ _ _ _ _ _ true rfl D_X9_addPoint_10.2.2.2.2.2.2.2.2.2.2.2 (Nat.le_of_ble_eq_true rfl) (Nat.le_of_ble_eq_true rfl) rfl ?_
                            refine ⟨rfl, I8, rfl, ⟨?_, by omega, fun i hi => ?_, fun i hi => ?_, fun i hi => ?_, e1⟩, fun a h1 f12 f13 f14 f15 f16 f17 => ?_, ?_, ?_, fun j h1 h2 h3 => ?_⟩
                            · rw [q8m 10 (by omega)]; exact g10
                            · rw [q8 _ hm12 n1215 n1216 n1217]; exact g12 i hi
                            · rw [q8 _ hm13 n1315 n1316 n1317]; exact g13 i hi
                            · rw [q8 _ hm14 n1415 n1416 n1417]; exact g14 i hi
                            · rw [q8 a h1 f15 f16 f17, eI7, x_u2_a _ _ h1, eI6, x_u2_a _ _ f15, eI5, x_u2_a _ _ f14, eI4, x_u2_a _ _ f13, eI3, x_u2_a _ _ f12, i2 a h1]
                            · rw [q8m 18 (by omega), gm 18 (by omega), eI2, x_u2_s]
                            · rw [e2, gm 11 (by omega), i2m 11 (by omega)]
                            · rw [q8m j h3, gm j h2, i2m j h1]
                          · skip
                            obtain ⟨k1, d1⟩ := oI_some c_120
                            have hk1 := (lastF_lt d1).1
                            rw [leafX_some (nd := (fun p => lastF (fun i => decide (ps i = p)) n)) (p := p0) d1] at hW
                            obtain ⟨fv, rfl⟩ := leafX_pos hW
                            rw [d1]
                            have hdp := dep_lt30 (show p0 < 2 ^ 30 by omega)
                            refine x_iconst C (v := nI 2) D_X9_addPoint_5.2.2.2.2.2.2.2.1 (by decide +kernel) ?_
                            refine x_iload C D_X9_addPoint_5.2.2.2.2.2.2.2.2.1 rfl ?_
                            refine x_imul C D_X9_addPoint_5.2.2.2.2.2.2.2.2.2.1 ?_
                            first
                            | refine x_eqi _ (pk_mul _ _) ?_
                            | skip
                            refine x_iload_n C D_X9_addPoint_5.2.2.2.2.2.2.2.2.2.2.1 rfl rfl ?_
                            refine x_iload_n C D_X9_addPoint_5.2.2.2.2.2.2.2.2.2.2.2 rfl rfl ?_
                            refine x_aload_n C D_X9_addPoint_6.1 rfl rfl (by first | exact Or.inr ⟨_, rfl⟩ | exact va_rf_or _ | exact Or.inl rfl) ?_
                            refine x_getQ C (ci := 8) (k0 := 12) (by assumption) (by decide) rfl (by decide) in_X9 k_914 rfl rfl D_X9_addPoint_6.2.1 ?_
                            refine x_eqr (hM.2.1 12 (by decide)).1 ?_
                            refine x_iload C D_X9_addPoint_6.2.2.1 rfl ?_
                            refine x_iald C _ (by first | assumption | exact (hM.2.1 _ (by decide)).2.1) rfl (by first | omega | (rw [hM.nk _ (by decide)]; omega) | (rw [hM.np _ (by decide)]; omega)) (by first | omega | (rw [hM.nk _ (by decide)]; omega) | (rw [hM.np _ (by decide)]; omega)) D_X9_addPoint_6.2.2.2.1 ?_
                            refine x_eqi _ (show I2 (ar 12) k1 = nI (pc k1 / 100) by rw [i2 _ hm12]; exact h12 k1 hk1) ?_
                            refine x_aload_n C D_X9_addPoint_6.2.2.2.2.1 rfl rfl (by first | exact Or.inr ⟨_, rfl⟩ | exact va_rf_or _ | exact Or.inl rfl) ?_
                            refine x_getQ C (ci := 8) (k0 := 13) (by assumption) (by decide) rfl (by decide) in_X9 k_915 rfl rfl D_X9_addPoint_6.2.2.2.2.2.1 ?_
                            refine x_eqr (hM.2.1 13 (by decide)).1 ?_
                            refine x_iload C D_X9_addPoint_6.2.2.2.2.2.2.1 rfl ?_
                            refine x_iald C _ (by first | assumption | exact (hM.2.1 _ (by decide)).2.1) rfl (by first | omega | (rw [hM.nk _ (by decide)]; omega) | (rw [hM.np _ (by decide)]; omega)) (by first | omega | (rw [hM.nk _ (by decide)]; omega) | (rw [hM.np _ (by decide)]; omega)) D_X9_addPoint_6.2.2.2.2.2.2.2.1 ?_
                            refine x_eqi _ (show I2 (ar 13) k1 = nI (pc k1 % 100) by rw [i2 _ hm13]; exact h13 k1 hk1) ?_
                            refine x_iload C D_X9_addPoint_6.2.2.2.2.2.2.2.2.1 rfl ?_
                            refine x_callSi C (y := yX9_depthOf) (c_X9_depthOf l G p0 (by omega)) k_1011 k_1012 k_67 k_1013 hd_X9_depthOf ⟨(Nat.le_of_ble_eq_true rfl), (Nat.le_of_ble_eq_true rfl)⟩ rfl (by first | exact Nat.le_of_ble_eq_true rfl | simp [x_crf, Value.category]) rfl rfl D_X9_addPoint_6.2.2.2.2.2.2.2.2.2.1 ⟨(Nat.le_of_ble_eq_true rfl), (Nat.le_of_ble_eq_true rfl)⟩ (fun r_145 S_145 h_145 => ?_)
                            obtain ⟨rfl, rfl⟩ := h_145
                            refine x_callSz C (y := yX9_isLess) (c_X9_isLess l G c (pc k1) (dep p0) hc (hB k1 hk1).1 (by omega)) k_1153 k_1154 k_67 k_1155 hd_X9_isLess ⟨(Nat.le_of_ble_eq_true rfl), (Nat.le_of_ble_eq_true rfl)⟩ rfl (by first | exact Nat.le_of_ble_eq_true rfl | simp [x_crf, Value.category]) rfl rfl D_X9_addPoint_6.2.2.2.2.2.2.2.2.2.2.1 ⟨(Nat.le_of_ble_eq_true rfl), (Nat.le_of_ble_eq_true rfl)⟩ (fun r_148 S_148 h_148 => ?_)
                            obtain ⟨rfl, rfl⟩ := h_148
                            refine x_if_eq C 158 D_X9_addPoint_6.2.2.2.2.2.2.2.2.2.2.2 (by decide) (fun c_151 => ?_) (fun c_151 => ?_)
                            · skip
                              first
                              | have d_151 := cz_eq c_151 (by omega)
                              | have d_151 := cb_eq c_151
                              | skip
                              simp only [d_151, Bool.false_eq_true, if_false] at hW
                              refine x_iconst C (v := nI 1) D_X9_addPoint_7.2.2.1 (by decide +kernel) ?_
                              refine x_iadd C D_X9_addPoint_7.2.2.2.1 ?_
                              first
                              | refine x_eqi _ (nI_add _ _) ?_
                              | skip
                              refine x_istore C (lv' := [_, _, _, _, _, _, _]) D_X9_addPoint_7.2.2.2.2.1 (Nat.le_of_ble_eq_true rfl) (by first | rfl | exact x_ok_q rfl) rfl ?_
                              refine x_aload_n C D_X9_addPoint_7.2.2.2.2.2.1 rfl rfl (by first | exact Or.inr ⟨_, rfl⟩ | exact va_rf_or _ | exact Or.inl rfl) ?_
                              refine x_getQ C (ci := 8) (k0 := 15) (by assumption) (by decide) rfl (by decide) in_X9 k_917 rfl rfl D_X9_addPoint_7.2.2.2.2.2.2.1 ?_
                              refine x_eqr (hM.2.1 15 (by decide)).1 ?_
                              refine x_aload_n C D_X9_addPoint_7.2.2.2.2.2.2.2.1 rfl rfl (by first | exact Or.inr ⟨_, rfl⟩ | exact va_rf_or _ | exact Or.inl rfl) ?_
                              refine x_getI C (ci := 8) (k0 := 10) (by assumption) (by decide) rfl (by decide) in_X9 k_912 rfl rfl D_X9_addPoint_7.2.2.2.2.2.2.2.2.1 ?_
                              first
                              | refine x_eqi _ (i2n) ?_
                              | skip
                              refine x_iload C D_X9_addPoint_7.2.2.2.2.2.2.2.2.2.1 rfl ?_
                              refine x_callSi C (y := yX9_nodeAt) (c_X9_nodeAt l G (ar 15) n (2 * p0 + 1) ps (hM.2.1 15 (by decide)).2.1 (by have := hM.np 15 (by decide); omega) (by have := hM.np 15 (by decide); omega) (by omega) (by omega) (fun i hi => ⟨by rw [i2 _ hm15]; exact h15 i hi, by have := hB i hi; omega⟩)) k_990 k_991 k_67 k_992 hd_X9_nodeAt ⟨(Nat.le_of_ble_eq_true rfl), (Nat.le_of_ble_eq_true rfl)⟩ rfl (by first | exact Nat.le_of_ble_eq_true rfl | simp [x_crf, Value.category]) rfl rfl D_X9_addPoint_7.2.2.2.2.2.2.2.2.2.2.1 ⟨(Nat.le_of_ble_eq_true rfl), (Nat.le_of_ble_eq_true rfl)⟩ (fun r_172 S_172 h_172 => ?_)
                              obtain ⟨rfl, rfl⟩ := h_172
                              refine x_istore C (lv' := [_, _, _, _, _, _, _]) D_X9_addPoint_7.2.2.2.2.2.2.2.2.2.2.2 (Nat.le_of_ble_eq_true rfl) (by first | rfl | exact x_ok_q rfl) rfl ?_
                              refine x_goto C 117 D_X9_addPoint_8.1 (by decide) ?_
                              exact ih_117 fv (2 * p0 + 1) (by omega) (pb_dn hb (by omega)) hW
                            · skip
                              first
                              | have d_151 := cz_ne c_151 (by omega)
                              | have d_151 := cb_ne c_151
                              | skip
                              simp only [d_151, if_true] at hW
                              refine x_iconst C (v := nI 0) D_X9_addPoint_7.1 (by decide +kernel) ?_
                              refine x_goto C 159 D_X9_addPoint_7.2.1 (by decide) ?_
                              refine x_iadd C D_X9_addPoint_7.2.2.2.1 ?_
                              first
                              | refine x_eqi _ (nI_add _ _) ?_
                              | skip
                              refine x_istore C (lv' := [_, _, _, _, _, _, _]) D_X9_addPoint_7.2.2.2.2.1 (Nat.le_of_ble_eq_true rfl) (by first | rfl | exact x_ok_q rfl) rfl ?_
                              refine x_aload_n C D_X9_addPoint_7.2.2.2.2.2.1 rfl rfl (by first | exact Or.inr ⟨_, rfl⟩ | exact va_rf_or _ | exact Or.inl rfl) ?_
                              refine x_getQ C (ci := 8) (k0 := 15) (by assumption) (by decide) rfl (by decide) in_X9 k_917 rfl rfl D_X9_addPoint_7.2.2.2.2.2.2.1 ?_
                              refine x_eqr (hM.2.1 15 (by decide)).1 ?_
                              refine x_aload_n C D_X9_addPoint_7.2.2.2.2.2.2.2.1 rfl rfl (by first | exact Or.inr ⟨_, rfl⟩ | exact va_rf_or _ | exact Or.inl rfl) ?_
                              refine x_getI C (ci := 8) (k0 := 10) (by assumption) (by decide) rfl (by decide) in_X9 k_912 rfl rfl D_X9_addPoint_7.2.2.2.2.2.2.2.2.1 ?_
                              first
                              | refine x_eqi _ (i2n) ?_
                              | skip
                              refine x_iload C D_X9_addPoint_7.2.2.2.2.2.2.2.2.2.1 rfl ?_
                              refine x_callSi C (y := yX9_nodeAt) (c_X9_nodeAt l G (ar 15) n (2 * p0 + 0) ps (hM.2.1 15 (by decide)).2.1 (by have := hM.np 15 (by decide); omega) (by have := hM.np 15 (by decide); omega) (by omega) (by omega) (fun i hi => ⟨by rw [i2 _ hm15]; exact h15 i hi, by have := hB i hi; omega⟩)) k_990 k_991 k_67 k_992 hd_X9_nodeAt ⟨(Nat.le_of_ble_eq_true rfl), (Nat.le_of_ble_eq_true rfl)⟩ rfl (by first | exact Nat.le_of_ble_eq_true rfl | simp [x_crf, Value.category]) rfl rfl D_X9_addPoint_7.2.2.2.2.2.2.2.2.2.2.1 ⟨(Nat.le_of_ble_eq_true rfl), (Nat.le_of_ble_eq_true rfl)⟩ (fun r_172 S_172 h_172 => ?_)
                              obtain ⟨rfl, rfl⟩ := h_172
                              refine x_istore C (lv' := [_, _, _, _, _, _, _]) D_X9_addPoint_7.2.2.2.2.2.2.2.2.2.2.2 (Nat.le_of_ble_eq_true rfl) (by first | rfl | exact x_ok_q rfl) rfl ?_
                              refine x_goto C 117 D_X9_addPoint_8.1 (by decide) ?_
                              exact ih_117 fv (2 * p0 + 0) (by omega) (pb_dn (e := 0) hb (by omega)) hW
                      exact L_117 _ 27 1 (Nat.lt_succ_self _) (by decide) hlf
                    · skip
                      exact absurd c_87 (by decide)
                  · skip
                    exact absurd c_80 (by decide)
              · skip
                first
                | have d_64 := cv_eq c_64 (by omega) (by omega)
                | skip
                exfalso; omega
                --end
          · skip
            first
            | have d_46 := cv_nle c_46 (by omega) (by omega)
            | skip
            exfalso; omega
            --end
  · skip
    exact absurd c_9 (by decide)
abbrev rm_X9_removePointN : Room := { frames := 1, cells := 0, slots := 0, locals := 24 }
set_option maxHeartbeats 4000000 in
set_option maxRecDepth 100000 in
theorem c_X9_removePointN (l : Launch) (G : xG) {K N : Nat → Nat} {I : Nat → Nat → Int32} {Q : Nat → Nat → Option Nat} {J : Nat → Nat → Int64} (m n : Nat) (ar pc ps : Nat → Nat) (pa : Nat → Bool) (x y : Int32) (hM : MZ K N Q m ar) (hK : PV I m ar n pc pa ps) (hnd : (lastF (fun i => decide (I (ar 12) i = x) && decide (I (ar 13) i = y)) n) = none) : XM l yX9_removePoint cX9_removePoint 6 (some .boolean) rm_X9_removePointN G Rz [.ref m, .int x, .int y] (K, N, I, Q, J) (fun r S1 => r = false ∧ S1 = (K, N, x_u2 I m 18 (nI 0), Q, J)) := by
  refine x_metz (lv := [_, _, _, _, _, _]) (by decide +kernel) (x_cc (by first | rfl | exact x_crf _) (x_cc (by first | rfl | exact x_crf _) (x_cc (by first | rfl | exact x_crf _) x_cn))) (Nat.le_of_ble_eq_true rfl) rfl ?_
  intro pP eE sS mM aA bB hH cC Z C hini ret
  have hk9 := hM.1
  obtain ⟨hn, hn121, h12, h13, h14, h15⟩ := hK
  have h122 := hM.np 14 (by decide)
  have n1213 : x_ne (ar 12) (ar 13) := hM.ne 12 13 (by decide)
  have n1214 : x_ne (ar 12) (ar 14) := hM.ne 12 14 (by decide)
  have n1215 : x_ne (ar 12) (ar 15) := hM.ne 12 15 (by decide)
  have n1216 : x_ne (ar 12) (ar 16) := hM.ne 12 16 (by decide)
  have n1217 : x_ne (ar 12) (ar 17) := hM.ne 12 17 (by decide)
  have n1312 : x_ne (ar 13) (ar 12) := hM.ne 13 12 (by decide)
  have n1314 : x_ne (ar 13) (ar 14) := hM.ne 13 14 (by decide)
  have n1315 : x_ne (ar 13) (ar 15) := hM.ne 13 15 (by decide)
  have n1316 : x_ne (ar 13) (ar 16) := hM.ne 13 16 (by decide)
  have n1317 : x_ne (ar 13) (ar 17) := hM.ne 13 17 (by decide)
  have n1412 : x_ne (ar 14) (ar 12) := hM.ne 14 12 (by decide)
  have n1413 : x_ne (ar 14) (ar 13) := hM.ne 14 13 (by decide)
  have n1415 : x_ne (ar 14) (ar 15) := hM.ne 14 15 (by decide)
  have n1416 : x_ne (ar 14) (ar 16) := hM.ne 14 16 (by decide)
  have n1417 : x_ne (ar 14) (ar 17) := hM.ne 14 17 (by decide)
  have n1512 : x_ne (ar 15) (ar 12) := hM.ne 15 12 (by decide)
  have n1513 : x_ne (ar 15) (ar 13) := hM.ne 15 13 (by decide)
  have n1514 : x_ne (ar 15) (ar 14) := hM.ne 15 14 (by decide)
  have n1516 : x_ne (ar 15) (ar 16) := hM.ne 15 16 (by decide)
  have n1517 : x_ne (ar 15) (ar 17) := hM.ne 15 17 (by decide)
  have n1612 : x_ne (ar 16) (ar 12) := hM.ne 16 12 (by decide)
  have n1613 : x_ne (ar 16) (ar 13) := hM.ne 16 13 (by decide)
  have n1614 : x_ne (ar 16) (ar 14) := hM.ne 16 14 (by decide)
  have n1615 : x_ne (ar 16) (ar 15) := hM.ne 16 15 (by decide)
  have n1617 : x_ne (ar 16) (ar 17) := hM.ne 16 17 (by decide)
  have n1712 : x_ne (ar 17) (ar 12) := hM.ne 17 12 (by decide)
  have n1713 : x_ne (ar 17) (ar 13) := hM.ne 17 13 (by decide)
  have n1714 : x_ne (ar 17) (ar 14) := hM.ne 17 14 (by decide)
  have n1715 : x_ne (ar 17) (ar 15) := hM.ne 17 15 (by decide)
  have n1716 : x_ne (ar 17) (ar 16) := hM.ne 17 16 (by decide)
  have hm12 : x_ne (ar 12) m := hM.nm 12 (by decide)
  have hm13 : x_ne (ar 13) m := hM.nm 13 (by decide)
  have hm14 : x_ne (ar 14) m := hM.nm 14 (by decide)
  have hm15 : x_ne (ar 15) m := hM.nm 15 (by decide)
  have hm16 : x_ne (ar 16) m := hM.nm 16 (by decide)
  have hm17 : x_ne (ar 17) m := hM.nm 17 (by decide)
  
  refine x_aload_n C D_X9_removePoint_0.1 rfl rfl (by first | exact Or.inr ⟨_, rfl⟩ | exact va_rf_or _ | exact Or.inl rfl) ?_
  refine x_iconst C (v := nI 0) D_X9_removePoint_0.2.1 (by decide +kernel) ?_
  refine x_putI C (ci := 8) (k0 := 18) (by assumption) (by decide) rfl (by decide) in_X9 k_920 rfl tyX9 tyX9_ok nmX9 rfl (by rfl) rfl rfl rfl D_X9_removePoint_0.2.2.1 (fun I2 eI2 => ?_)
  have i2 : ∀ a, x_ne a m → I2 a = I a := fun a ha => by rw [eI2, x_u2_a _ _ ha]
  have i2n : I2 m 10 = nI n := by rw [eI2, x_u2_j _ _ (by omega)]; exact hn
  refine x_aload_n C D_X9_removePoint_0.2.2.2.1 rfl rfl (by first | exact Or.inr ⟨_, rfl⟩ | exact va_rf_or _ | exact Or.inl rfl) ?_
  refine x_iload_n C D_X9_removePoint_0.2.2.2.2.1 rfl rfl ?_
  refine x_iload_n C D_X9_removePoint_0.2.2.2.2.2.1 rfl rfl ?_
  refine x_callVi C (y := yX9_pointOf) (c_X9_pointOf l G m n ar (x) (y) hM i2n (by omega)) (ci := 8) hM.1 (by decide) rfl rfl k_1145 k_1147 k_52 k_67 k_1148 hd_X9_pointOf ⟨(Nat.le_of_ble_eq_true rfl), (Nat.le_of_ble_eq_true rfl)⟩ rfl (by first | exact Nat.le_of_ble_eq_true rfl | simp [x_crf, Value.category]) rfl rfl D_X9_removePoint_0.2.2.2.2.2.2.1 ⟨(Nat.le_of_ble_eq_true rfl), (Nat.le_of_ble_eq_true rfl)⟩ (fun r_8 S_8 h_8 => ?_)
  obtain ⟨rfl, rfl⟩ := h_8
  refine x_eqi (oI none) (by rw [i2 _ hm12, i2 _ hm13, hnd]) ?_
  refine x_istore_n C (lv' := [_, _, _, _, _, _]) D_X9_removePoint_0.2.2.2.2.2.2.2.1 rfl (Nat.le_of_ble_eq_true rfl) (by first | rfl | exact x_ok_q rfl) rfl ?_
  refine x_iload_n C D_X9_removePoint_0.2.2.2.2.2.2.2.2.1 rfl rfl ?_
  refine x_iconst C (v := (-1)) D_X9_removePoint_0.2.2.2.2.2.2.2.2.2.1 (by decide +kernel) ?_
  refine x_icmp_eq C 26 D_X9_removePoint_0.2.2.2.2.2.2.2.2.2.2.1 (by decide) (fun c_14 => ?_) (fun c_14 => ?_)
  · skip
    first
    | have d_14 := cv_eq c_14 (by omega) (by omega)
    | skip
    refine x_iconst C (v := nI 0) D_X9_removePoint_1.2.2.2.2.1 (by decide +kernel) ?_
    refine ret _ _ _ _ _ _ false rfl D_X9_removePoint_1.2.2.2.2.2.1 (Nat.le_of_ble_eq_true rfl) (Nat.le_of_ble_eq_true rfl) rfl ?_
    exact ⟨rfl, by rw [eI2]⟩
  · skip
    exact absurd c_14 (by decide)
abbrev rm_X9_removePointG : Room := { frames := 1, cells := 0, slots := 0, locals := 24 }
set_option maxHeartbeats 4000000 in
set_option maxRecDepth 100000 in
theorem c_X9_removePointG (l : Launch) (G : xG) {K N : Nat → Nat} {I : Nat → Nat → Int32} {Q : Nat → Nat → Option Nat} {J : Nat → Nat → Int64} (m n : Nat) (ar pc ps : Nat → Nat) (pa : Nat → Bool) (x y : Int32) (k : Nat) (hM : MZ K N Q m ar) (hK : PV I m ar n pc pa ps) (hnd : (lastF (fun i => decide (I (ar 12) i = x) && decide (I (ar 13) i = y)) n) = some k) (hal : pa k = false) : XM l yX9_removePoint cX9_removePoint 6 (some .boolean) rm_X9_removePointG G Rz [.ref m, .int x, .int y] (K, N, I, Q, J) (fun r S1 => r = false ∧ S1 = (K, N, x_u2 I m 18 (nI 0), Q, J)) := by
  refine x_metz (lv := [_, _, _, _, _, _]) (by decide +kernel) (x_cc (by first | rfl | exact x_crf _) (x_cc (by first | rfl | exact x_crf _) (x_cc (by first | rfl | exact x_crf _) x_cn))) (Nat.le_of_ble_eq_true rfl) rfl ?_
  intro pP eE sS mM aA bB hH cC Z C hini ret
  have hk9 := hM.1
  obtain ⟨hn, hn121, h12, h13, h14, h15⟩ := hK
  have h122 := hM.np 14 (by decide)
  have n1213 : x_ne (ar 12) (ar 13) := hM.ne 12 13 (by decide)
  have n1214 : x_ne (ar 12) (ar 14) := hM.ne 12 14 (by decide)
  have n1215 : x_ne (ar 12) (ar 15) := hM.ne 12 15 (by decide)
  have n1216 : x_ne (ar 12) (ar 16) := hM.ne 12 16 (by decide)
  have n1217 : x_ne (ar 12) (ar 17) := hM.ne 12 17 (by decide)
  have n1312 : x_ne (ar 13) (ar 12) := hM.ne 13 12 (by decide)
  have n1314 : x_ne (ar 13) (ar 14) := hM.ne 13 14 (by decide)
  have n1315 : x_ne (ar 13) (ar 15) := hM.ne 13 15 (by decide)
  have n1316 : x_ne (ar 13) (ar 16) := hM.ne 13 16 (by decide)
  have n1317 : x_ne (ar 13) (ar 17) := hM.ne 13 17 (by decide)
  have n1412 : x_ne (ar 14) (ar 12) := hM.ne 14 12 (by decide)
  have n1413 : x_ne (ar 14) (ar 13) := hM.ne 14 13 (by decide)
  have n1415 : x_ne (ar 14) (ar 15) := hM.ne 14 15 (by decide)
  have n1416 : x_ne (ar 14) (ar 16) := hM.ne 14 16 (by decide)
  have n1417 : x_ne (ar 14) (ar 17) := hM.ne 14 17 (by decide)
  have n1512 : x_ne (ar 15) (ar 12) := hM.ne 15 12 (by decide)
  have n1513 : x_ne (ar 15) (ar 13) := hM.ne 15 13 (by decide)
  have n1514 : x_ne (ar 15) (ar 14) := hM.ne 15 14 (by decide)
  have n1516 : x_ne (ar 15) (ar 16) := hM.ne 15 16 (by decide)
  have n1517 : x_ne (ar 15) (ar 17) := hM.ne 15 17 (by decide)
  have n1612 : x_ne (ar 16) (ar 12) := hM.ne 16 12 (by decide)
  have n1613 : x_ne (ar 16) (ar 13) := hM.ne 16 13 (by decide)
  have n1614 : x_ne (ar 16) (ar 14) := hM.ne 16 14 (by decide)
  have n1615 : x_ne (ar 16) (ar 15) := hM.ne 16 15 (by decide)
  have n1617 : x_ne (ar 16) (ar 17) := hM.ne 16 17 (by decide)
  have n1712 : x_ne (ar 17) (ar 12) := hM.ne 17 12 (by decide)
  have n1713 : x_ne (ar 17) (ar 13) := hM.ne 17 13 (by decide)
  have n1714 : x_ne (ar 17) (ar 14) := hM.ne 17 14 (by decide)
  have n1715 : x_ne (ar 17) (ar 15) := hM.ne 17 15 (by decide)
  have n1716 : x_ne (ar 17) (ar 16) := hM.ne 17 16 (by decide)
  have hm12 : x_ne (ar 12) m := hM.nm 12 (by decide)
  have hm13 : x_ne (ar 13) m := hM.nm 13 (by decide)
  have hm14 : x_ne (ar 14) m := hM.nm 14 (by decide)
  have hm15 : x_ne (ar 15) m := hM.nm 15 (by decide)
  have hm16 : x_ne (ar 16) m := hM.nm 16 (by decide)
  have hm17 : x_ne (ar 17) m := hM.nm 17 (by decide)
  have hkn := (lastF_lt hnd).1
  
  refine x_aload_n C D_X9_removePoint_0.1 rfl rfl (by first | exact Or.inr ⟨_, rfl⟩ | exact va_rf_or _ | exact Or.inl rfl) ?_
  refine x_iconst C (v := nI 0) D_X9_removePoint_0.2.1 (by decide +kernel) ?_
  refine x_putI C (ci := 8) (k0 := 18) (by assumption) (by decide) rfl (by decide) in_X9 k_920 rfl tyX9 tyX9_ok nmX9 rfl (by rfl) rfl rfl rfl D_X9_removePoint_0.2.2.1 (fun I2 eI2 => ?_)
  have i2 : ∀ a, x_ne a m → I2 a = I a := fun a ha => by rw [eI2, x_u2_a _ _ ha]
  have i2n : I2 m 10 = nI n := by rw [eI2, x_u2_j _ _ (by omega)]; exact hn
  refine x_aload_n C D_X9_removePoint_0.2.2.2.1 rfl rfl (by first | exact Or.inr ⟨_, rfl⟩ | exact va_rf_or _ | exact Or.inl rfl) ?_
  refine x_iload_n C D_X9_removePoint_0.2.2.2.2.1 rfl rfl ?_
  refine x_iload_n C D_X9_removePoint_0.2.2.2.2.2.1 rfl rfl ?_
  refine x_callVi C (y := yX9_pointOf) (c_X9_pointOf l G m n ar (x) (y) hM i2n (by omega)) (ci := 8) hM.1 (by decide) rfl rfl k_1145 k_1147 k_52 k_67 k_1148 hd_X9_pointOf ⟨(Nat.le_of_ble_eq_true rfl), (Nat.le_of_ble_eq_true rfl)⟩ rfl (by first | exact Nat.le_of_ble_eq_true rfl | simp [x_crf, Value.category]) rfl rfl D_X9_removePoint_0.2.2.2.2.2.2.1 ⟨(Nat.le_of_ble_eq_true rfl), (Nat.le_of_ble_eq_true rfl)⟩ (fun r_8 S_8 h_8 => ?_)
  obtain ⟨rfl, rfl⟩ := h_8
  refine x_eqi (oI (some k)) (by rw [i2 _ hm12, i2 _ hm13, hnd]) ?_
  refine x_istore_n C (lv' := [_, _, _, _, _, _]) D_X9_removePoint_0.2.2.2.2.2.2.2.1 rfl (Nat.le_of_ble_eq_true rfl) (by first | rfl | exact x_ok_q rfl) rfl ?_
  refine x_iload_n C D_X9_removePoint_0.2.2.2.2.2.2.2.2.1 rfl rfl ?_
  refine x_iconst C (v := (-1)) D_X9_removePoint_0.2.2.2.2.2.2.2.2.2.1 (by decide +kernel) ?_
  refine x_icmp_eq C 26 D_X9_removePoint_0.2.2.2.2.2.2.2.2.2.2.1 (by decide) (fun c_14 => ?_) (fun c_14 => ?_)
  · skip
    exact absurd c_14 (oI_nn k (by omega))
    --end
  · skip
    refine x_aload_n C D_X9_removePoint_0.2.2.2.2.2.2.2.2.2.2.2 rfl rfl (by first | exact Or.inr ⟨_, rfl⟩ | exact va_rf_or _ | exact Or.inl rfl) ?_
    refine x_getQ C (ci := 8) (k0 := 14) (by assumption) (by decide) rfl (by decide) in_X9 k_916 rfl rfl D_X9_removePoint_1.1 ?_
    refine x_eqr (hM.2.1 14 (by decide)).1 ?_
    refine x_iload_n C D_X9_removePoint_1.2.1 rfl rfl ?_
    refine x_zald C _ (by first | assumption | exact (hM.2.1 _ (by decide)).2.1) rfl (by first | omega | (rw [hM.nk _ (by decide)]; omega) | (rw [hM.np _ (by decide)]; omega)) (by first | omega | (rw [hM.nk _ (by decide)]; omega) | (rw [hM.np _ (by decide)]; omega)) D_X9_removePoint_1.2.2.1 ?_
    refine x_eqi _ (show I2 (ar 14) k = xb false by rw [i2 _ hm14, h14 k hkn, hal]) ?_
    refine x_if_ne C 28 D_X9_removePoint_1.2.2.2.1 (by decide) (fun c_23 => ?_) (fun c_23 => ?_)
    · skip
      exact absurd c_23 (by decide)
    · skip
      first
      | have d_23 := cz_eq c_23 (by omega)
      | have d_23 := cb_eq c_23
      | skip
      refine x_iconst C (v := nI 0) D_X9_removePoint_1.2.2.2.2.1 (by decide +kernel) ?_
      refine ret _ _ _ _ _ _ false rfl D_X9_removePoint_1.2.2.2.2.2.1 (Nat.le_of_ble_eq_true rfl) (Nat.le_of_ble_eq_true rfl) rfl ?_
      exact ⟨rfl, by rw [eI2]⟩
abbrev rm_X9_removePointK : Room := { frames := 1, cells := 0, slots := 0, locals := 24 }
set_option maxHeartbeats 4000000 in
set_option maxRecDepth 100000 in
theorem c_X9_removePointK (l : Launch) (G : xG) {K N : Nat → Nat} {I : Nat → Nat → Int32} {Q : Nat → Nat → Option Nat} {J : Nat → Nat → Int64} (m n : Nat) (ar pc ps : Nat → Nat) (pa : Nat → Bool) (x y : Int32) (k : Nat) (hM : MZ K N Q m ar) (hK : PV I m ar n pc pa ps) (hnd : (lastF (fun i => decide (I (ar 12) i = x) && decide (I (ar 13) i = y)) n) = some k) (hal : pa k = true) (hcond : n - (cn (x_up pa k false) n) ≤ (cn (x_up pa k false) n)) : XM l yX9_removePoint cX9_removePoint 6 (some .boolean) rm_X9_removePointK G Rz [.ref m, .int x, .int y] (K, N, I, Q, J) (fun r S1 => r = true ∧ ∃ I1, S1 = (K, N, I1, Q, J) ∧ PV I1 m ar n pc (x_up pa k false) ps ∧ PFR I I1 m ar ∧ I1 m 18 = nI 0 ∧ (∀ j, j ≠ 18 → I1 m j = I m j)) := by
  refine x_metz (lv := [_, _, _, _, _, _]) (by decide +kernel) (x_cc (by first | rfl | exact x_crf _) (x_cc (by first | rfl | exact x_crf _) (x_cc (by first | rfl | exact x_crf _) x_cn))) (Nat.le_of_ble_eq_true rfl) rfl ?_
  intro pP eE sS mM aA bB hH cC Z C hini ret
  have hk9 := hM.1
  obtain ⟨hn, hn121, h12, h13, h14, h15⟩ := hK
  have h122 := hM.np 14 (by decide)
  have n1213 : x_ne (ar 12) (ar 13) := hM.ne 12 13 (by decide)
  have n1214 : x_ne (ar 12) (ar 14) := hM.ne 12 14 (by decide)
  have n1215 : x_ne (ar 12) (ar 15) := hM.ne 12 15 (by decide)
  have n1216 : x_ne (ar 12) (ar 16) := hM.ne 12 16 (by decide)
  have n1217 : x_ne (ar 12) (ar 17) := hM.ne 12 17 (by decide)
  have n1312 : x_ne (ar 13) (ar 12) := hM.ne 13 12 (by decide)
  have n1314 : x_ne (ar 13) (ar 14) := hM.ne 13 14 (by decide)
  have n1315 : x_ne (ar 13) (ar 15) := hM.ne 13 15 (by decide)
  have n1316 : x_ne (ar 13) (ar 16) := hM.ne 13 16 (by decide)
  have n1317 : x_ne (ar 13) (ar 17) := hM.ne 13 17 (by decide)
  have n1412 : x_ne (ar 14) (ar 12) := hM.ne 14 12 (by decide)
  have n1413 : x_ne (ar 14) (ar 13) := hM.ne 14 13 (by decide)
  have n1415 : x_ne (ar 14) (ar 15) := hM.ne 14 15 (by decide)
  have n1416 : x_ne (ar 14) (ar 16) := hM.ne 14 16 (by decide)
  have n1417 : x_ne (ar 14) (ar 17) := hM.ne 14 17 (by decide)
  have n1512 : x_ne (ar 15) (ar 12) := hM.ne 15 12 (by decide)
  have n1513 : x_ne (ar 15) (ar 13) := hM.ne 15 13 (by decide)
  have n1514 : x_ne (ar 15) (ar 14) := hM.ne 15 14 (by decide)
  have n1516 : x_ne (ar 15) (ar 16) := hM.ne 15 16 (by decide)
  have n1517 : x_ne (ar 15) (ar 17) := hM.ne 15 17 (by decide)
  have n1612 : x_ne (ar 16) (ar 12) := hM.ne 16 12 (by decide)
  have n1613 : x_ne (ar 16) (ar 13) := hM.ne 16 13 (by decide)
  have n1614 : x_ne (ar 16) (ar 14) := hM.ne 16 14 (by decide)
  have n1615 : x_ne (ar 16) (ar 15) := hM.ne 16 15 (by decide)
  have n1617 : x_ne (ar 16) (ar 17) := hM.ne 16 17 (by decide)
  have n1712 : x_ne (ar 17) (ar 12) := hM.ne 17 12 (by decide)
  have n1713 : x_ne (ar 17) (ar 13) := hM.ne 17 13 (by decide)
  have n1714 : x_ne (ar 17) (ar 14) := hM.ne 17 14 (by decide)
  have n1715 : x_ne (ar 17) (ar 15) := hM.ne 17 15 (by decide)
  have n1716 : x_ne (ar 17) (ar 16) := hM.ne 17 16 (by decide)
  have hm12 : x_ne (ar 12) m := hM.nm 12 (by decide)
  have hm13 : x_ne (ar 13) m := hM.nm 13 (by decide)
  have hm14 : x_ne (ar 14) m := hM.nm 14 (by decide)
  have hm15 : x_ne (ar 15) m := hM.nm 15 (by decide)
  have hm16 : x_ne (ar 16) m := hM.nm 16 (by decide)
  have hm17 : x_ne (ar 17) m := hM.nm 17 (by decide)
  have hkn := (lastF_lt hnd).1
  have hcl := cn_le (x_up pa k false) n
  refine x_aload_n C D_X9_removePoint_0.1 rfl rfl (by first | exact Or.inr ⟨_, rfl⟩ | exact va_rf_or _ | exact Or.inl rfl) ?_
  refine x_iconst C (v := nI 0) D_X9_removePoint_0.2.1 (by decide +kernel) ?_
  refine x_putI C (ci := 8) (k0 := 18) (by assumption) (by decide) rfl (by decide) in_X9 k_920 rfl tyX9 tyX9_ok nmX9 rfl (by rfl) rfl rfl rfl D_X9_removePoint_0.2.2.1 (fun I2 eI2 => ?_)
  have i2 : ∀ a, x_ne a m → I2 a = I a := fun a ha => by rw [eI2, x_u2_a _ _ ha]
  have i2n : I2 m 10 = nI n := by rw [eI2, x_u2_j _ _ (by omega)]; exact hn
  refine x_aload_n C D_X9_removePoint_0.2.2.2.1 rfl rfl (by first | exact Or.inr ⟨_, rfl⟩ | exact va_rf_or _ | exact Or.inl rfl) ?_
  refine x_iload_n C D_X9_removePoint_0.2.2.2.2.1 rfl rfl ?_
  refine x_iload_n C D_X9_removePoint_0.2.2.2.2.2.1 rfl rfl ?_
  refine x_callVi C (y := yX9_pointOf) (c_X9_pointOf l G m n ar (x) (y) hM i2n (by omega)) (ci := 8) hM.1 (by decide) rfl rfl k_1145 k_1147 k_52 k_67 k_1148 hd_X9_pointOf ⟨(Nat.le_of_ble_eq_true rfl), (Nat.le_of_ble_eq_true rfl)⟩ rfl (by first | exact Nat.le_of_ble_eq_true rfl | simp [x_crf, Value.category]) rfl rfl D_X9_removePoint_0.2.2.2.2.2.2.1 ⟨(Nat.le_of_ble_eq_true rfl), (Nat.le_of_ble_eq_true rfl)⟩ (fun r_8 S_8 h_8 => ?_)
  obtain ⟨rfl, rfl⟩ := h_8
  refine x_eqi (oI (some k)) (by rw [i2 _ hm12, i2 _ hm13, hnd]) ?_
  refine x_istore_n C (lv' := [_, _, _, _, _, _]) D_X9_removePoint_0.2.2.2.2.2.2.2.1 rfl (Nat.le_of_ble_eq_true rfl) (by first | rfl | exact x_ok_q rfl) rfl ?_
  refine x_iload_n C D_X9_removePoint_0.2.2.2.2.2.2.2.2.1 rfl rfl ?_
  refine x_iconst C (v := (-1)) D_X9_removePoint_0.2.2.2.2.2.2.2.2.2.1 (by decide +kernel) ?_
  refine x_icmp_eq C 26 D_X9_removePoint_0.2.2.2.2.2.2.2.2.2.2.1 (by decide) (fun c_14 => ?_) (fun c_14 => ?_)
  · skip
    exact absurd c_14 (oI_nn k (by omega))
    --end
  · skip
    refine x_aload_n C D_X9_removePoint_0.2.2.2.2.2.2.2.2.2.2.2 rfl rfl (by first | exact Or.inr ⟨_, rfl⟩ | exact va_rf_or _ | exact Or.inl rfl) ?_
    refine x_getQ C (ci := 8) (k0 := 14) (by assumption) (by decide) rfl (by decide) in_X9 k_916 rfl rfl D_X9_removePoint_1.1 ?_
    refine x_eqr (hM.2.1 14 (by decide)).1 ?_
    refine x_iload_n C D_X9_removePoint_1.2.1 rfl rfl ?_
    refine x_zald C _ (by first | assumption | exact (hM.2.1 _ (by decide)).2.1) rfl (by first | omega | (rw [hM.nk _ (by decide)]; omega) | (rw [hM.np _ (by decide)]; omega)) (by first | omega | (rw [hM.nk _ (by decide)]; omega) | (rw [hM.np _ (by decide)]; omega)) D_X9_removePoint_1.2.2.1 ?_
    refine x_eqi _ (show I2 (ar 14) k = xb true by rw [i2 _ hm14, h14 k hkn, hal]) ?_
    refine x_if_ne C 28 D_X9_removePoint_1.2.2.2.1 (by decide) (fun c_23 => ?_) (fun c_23 => ?_)
    · skip
      first
      | have d_23 := cz_ne c_23 (by omega)
      | have d_23 := cb_ne c_23
      | skip
      refine x_aload_n C D_X9_removePoint_1.2.2.2.2.2.2.1 rfl rfl (by first | exact Or.inr ⟨_, rfl⟩ | exact va_rf_or _ | exact Or.inl rfl) ?_
      refine x_getQ C (ci := 8) (k0 := 14) (by assumption) (by decide) rfl (by decide) in_X9 k_916 rfl rfl D_X9_removePoint_1.2.2.2.2.2.2.2.1 ?_
      refine x_eqr (hM.2.1 14 (by decide)).1 ?_
      refine x_iload_n C D_X9_removePoint_1.2.2.2.2.2.2.2.2.1 rfl rfl ?_
      refine x_iconst C (v := nI 0) D_X9_removePoint_1.2.2.2.2.2.2.2.2.2.1 (by decide +kernel) ?_
      refine x_zast C _ false rfl (by first | assumption | exact (hM.2.1 _ (by decide)).2.1) rfl (by first | omega | (rw [hM.nk _ (by decide)]; omega) | (rw [hM.np _ (by decide)]; omega)) (by first | omega | (rw [hM.nk _ (by decide)]; omega) | (rw [hM.np _ (by decide)]; omega)) D_X9_removePoint_1.2.2.2.2.2.2.2.2.2.2.1 (fun I3 eI3 => ?_)
      have i3 : ∀ a, x_ne a m → x_ne a (ar 14) → I3 a = I a := fun a h1 h2 => by rw [eI3, x_u2_a _ _ h2, i2 a h1]
      have i3m : I3 m = I2 m := by rw [eI3, x_u2_a _ _ hm14.symm]
      have i3n : I3 m 10 = nI n := by rw [i3m]; exact i2n
      have i314 : ∀ i, i < n → I3 (ar 14) i = xb ((x_up pa k false) i) := fun i hi => by
        rw [eI3]
        by_cases e : i = k
        · subst e; rw [x_u2_s, x_up_s]; rfl
        · rw [x_u2_j _ _ e, x_up_n _ _ e, i2 _ hm14]; exact h14 i hi
      refine x_aload_n C D_X9_removePoint_1.2.2.2.2.2.2.2.2.2.2.2 rfl rfl (by first | exact Or.inr ⟨_, rfl⟩ | exact va_rf_or _ | exact Or.inl rfl) ?_
      refine x_callVi C (y := yX9_livingPoints) (c_X9_livingPoints l G m n ar (x_up pa k false) hM i3n (by omega) i314) (ci := 8) hM.1 (by decide) rfl rfl k_1149 k_1151 k_53 k_67 k_1152 hd_X9_livingPoints ⟨(Nat.le_of_ble_eq_true rfl), (Nat.le_of_ble_eq_true rfl)⟩ rfl (by first | exact Nat.le_of_ble_eq_true rfl | simp [x_crf, Value.category]) rfl rfl D_X9_removePoint_2.1 ⟨(Nat.le_of_ble_eq_true rfl), (Nat.le_of_ble_eq_true rfl)⟩ (fun r_36 S_36 h_36 => ?_)
      obtain ⟨rfl, rfl⟩ := h_36
      refine x_istore C (lv' := [_, _, _, _, _, _]) D_X9_removePoint_2.2.1 (Nat.le_of_ble_eq_true rfl) (by first | rfl | exact x_ok_q rfl) rfl ?_
      refine x_aload_n C D_X9_removePoint_2.2.2.1 rfl rfl (by first | exact Or.inr ⟨_, rfl⟩ | exact va_rf_or _ | exact Or.inl rfl) ?_
      refine x_getI C (ci := 8) (k0 := 10) (by assumption) (by decide) rfl (by decide) in_X9 k_912 rfl rfl D_X9_removePoint_2.2.2.2.1 ?_
      first
      | refine x_eqi _ (i3n) ?_
      | skip
      refine x_iload C D_X9_removePoint_2.2.2.2.2.1 rfl ?_
      refine x_isub C D_X9_removePoint_2.2.2.2.2.2.1 ?_
      first
      | refine x_eqi _ (pk_sub (by omega)) ?_
      | skip
      refine x_iload C D_X9_removePoint_2.2.2.2.2.2.2.1 rfl ?_
      refine x_icmp_le C 142 D_X9_removePoint_2.2.2.2.2.2.2.2.1 (by decide) (fun c_50 => ?_) (fun c_50 => ?_)
      · skip
        first
        | have d_50 := cv_le c_50 (by omega) (by omega)
        | skip
        refine x_iconst C (v := nI 1) D_X9_removePoint_6.2.2.2.2.2.2.2.2.1 (by decide +kernel) ?_
        refine ret _ _ _ _ _ _ true rfl D_X9_removePoint_6.2.2.2.2.2.2.2.2.2 (Nat.le_of_ble_eq_true rfl) (Nat.le_of_ble_eq_true rfl) rfl ?_
        refine ⟨rfl, I3, rfl, ⟨i3n, hn121, fun i hi => ?_, fun i hi => ?_, i314, fun i hi => ?_⟩, fun a h1 g12 g13 g14 g15 g16 g17 => i3 a h1 g14, ?_, fun j hj => ?_⟩
        · rw [i3 _ hm12 n1214]; exact h12 i hi
        · rw [i3 _ hm13 n1314]; exact h13 i hi
        · rw [i3 _ hm15 n1514]; exact h15 i hi
        · rw [i3m, eI2, x_u2_s]
        · rw [i3m, eI2, x_u2_j _ _ hj]
      · skip
        first
        | have d_50 := cv_nle c_50 (by omega) (by omega)
        | skip
        exfalso; omega
        --end
    · skip
      exact absurd c_23 (by decide)
abbrev rm_X9_removePointD : Room := { frames := 3, cells := 0, slots := 0, locals := 71 }
set_option maxHeartbeats 4000000 in
set_option maxRecDepth 100000 in
theorem c_X9_removePointD (l : Launch) (G : xG) {K N : Nat → Nat} {I : Nat → Nat → Int32} {Q : Nat → Nat → Option Nat} {J : Nat → Nat → Int64} (m n : Nat) (ar pc ps : Nat → Nat) (pa : Nat → Bool) (x y : Int32) (k R : Nat) (OP : Nat → Nat → Bool) (PS : Nat → Nat → Nat) (hM : MZ K N Q m ar) (hK : PV I m ar n pc pa ps) (hB : PB n pc ps) (hnd : (lastF (fun i => decide (I (ar 12) i = x) && decide (I (ar 13) i = y)) n) = some k) (hal : pa k = true) (hcond : (cn (x_up pa k false) n) < n - (cn (x_up pa k false) n)) (hO0 : ∀ i, i < (cn (x_up pa k false) n) → OP 0 i = true) (hP0 : ∀ i, i < (cn (x_up pa k false) n) → PS 0 i = 1) (hL : LOR (cn (x_up pa k false) n) (fun j => pc (selF (x_up pa k false) n j)) OP PS R) : XM l yX9_removePoint cX9_removePoint 6 (some .boolean) rm_X9_removePointD G Rz [.ref m, .int x, .int y] (K, N, I, Q, J) (fun r S1 => r = true ∧ ∃ I1, S1 = (K, N, I1, Q, J) ∧ PV I1 m ar (cn (x_up pa k false) n) (fun j => pc (selF (x_up pa k false) n j)) (fun _ => true) (PS R) ∧ PFR I I1 m ar ∧ I1 m 18 = nI 0 ∧ (∀ j, j ≠ 18 → j ≠ 10 → I1 m j = I m j)) := by
  refine x_metz (lv := [_, _, _, _, _, _]) (by decide +kernel) (x_cc (by first | rfl | exact x_crf _) (x_cc (by first | rfl | exact x_crf _) (x_cc (by first | rfl | exact x_crf _) x_cn))) (Nat.le_of_ble_eq_true rfl) rfl ?_
  intro pP eE sS mM aA bB hH cC Z C hini ret
  have hk9 := hM.1
  obtain ⟨hn, hn121, h12, h13, h14, h15⟩ := hK
  have h122 := hM.np 14 (by decide)
  have n1213 : x_ne (ar 12) (ar 13) := hM.ne 12 13 (by decide)
  have n1214 : x_ne (ar 12) (ar 14) := hM.ne 12 14 (by decide)
  have n1215 : x_ne (ar 12) (ar 15) := hM.ne 12 15 (by decide)
  have n1216 : x_ne (ar 12) (ar 16) := hM.ne 12 16 (by decide)
  have n1217 : x_ne (ar 12) (ar 17) := hM.ne 12 17 (by decide)
  have n1312 : x_ne (ar 13) (ar 12) := hM.ne 13 12 (by decide)
  have n1314 : x_ne (ar 13) (ar 14) := hM.ne 13 14 (by decide)
  have n1315 : x_ne (ar 13) (ar 15) := hM.ne 13 15 (by decide)
  have n1316 : x_ne (ar 13) (ar 16) := hM.ne 13 16 (by decide)
  have n1317 : x_ne (ar 13) (ar 17) := hM.ne 13 17 (by decide)
  have n1412 : x_ne (ar 14) (ar 12) := hM.ne 14 12 (by decide)
  have n1413 : x_ne (ar 14) (ar 13) := hM.ne 14 13 (by decide)
  have n1415 : x_ne (ar 14) (ar 15) := hM.ne 14 15 (by decide)
  have n1416 : x_ne (ar 14) (ar 16) := hM.ne 14 16 (by decide)
  have n1417 : x_ne (ar 14) (ar 17) := hM.ne 14 17 (by decide)
  have n1512 : x_ne (ar 15) (ar 12) := hM.ne 15 12 (by decide)
  have n1513 : x_ne (ar 15) (ar 13) := hM.ne 15 13 (by decide)
  have n1514 : x_ne (ar 15) (ar 14) := hM.ne 15 14 (by decide)
  have n1516 : x_ne (ar 15) (ar 16) := hM.ne 15 16 (by decide)
  have n1517 : x_ne (ar 15) (ar 17) := hM.ne 15 17 (by decide)
  have n1612 : x_ne (ar 16) (ar 12) := hM.ne 16 12 (by decide)
  have n1613 : x_ne (ar 16) (ar 13) := hM.ne 16 13 (by decide)
  have n1614 : x_ne (ar 16) (ar 14) := hM.ne 16 14 (by decide)
  have n1615 : x_ne (ar 16) (ar 15) := hM.ne 16 15 (by decide)
  have n1617 : x_ne (ar 16) (ar 17) := hM.ne 16 17 (by decide)
  have n1712 : x_ne (ar 17) (ar 12) := hM.ne 17 12 (by decide)
  have n1713 : x_ne (ar 17) (ar 13) := hM.ne 17 13 (by decide)
  have n1714 : x_ne (ar 17) (ar 14) := hM.ne 17 14 (by decide)
  have n1715 : x_ne (ar 17) (ar 15) := hM.ne 17 15 (by decide)
  have n1716 : x_ne (ar 17) (ar 16) := hM.ne 17 16 (by decide)
  have hm12 : x_ne (ar 12) m := hM.nm 12 (by decide)
  have hm13 : x_ne (ar 13) m := hM.nm 13 (by decide)
  have hm14 : x_ne (ar 14) m := hM.nm 14 (by decide)
  have hm15 : x_ne (ar 15) m := hM.nm 15 (by decide)
  have hm16 : x_ne (ar 16) m := hM.nm 16 (by decide)
  have hm17 : x_ne (ar 17) m := hM.nm 17 (by decide)
  have hkn := (lastF_lt hnd).1
  have hcl := cn_le (x_up pa k false) n
  obtain ⟨al, eal⟩ : ∃ al, al = (x_up pa k false) := ⟨_, rfl⟩
  rw [← eal] at hcl hcond hO0 hP0 hL
  refine x_aload_n C D_X9_removePoint_0.1 rfl rfl (by first | exact Or.inr ⟨_, rfl⟩ | exact va_rf_or _ | exact Or.inl rfl) ?_
  refine x_iconst C (v := nI 0) D_X9_removePoint_0.2.1 (by decide +kernel) ?_
  refine x_putI C (ci := 8) (k0 := 18) (by assumption) (by decide) rfl (by decide) in_X9 k_920 rfl tyX9 tyX9_ok nmX9 rfl (by rfl) rfl rfl rfl D_X9_removePoint_0.2.2.1 (fun I2 eI2 => ?_)
  have i2 : ∀ a, x_ne a m → I2 a = I a := fun a ha => by rw [eI2, x_u2_a _ _ ha]
  have i2n : I2 m 10 = nI n := by rw [eI2, x_u2_j _ _ (by omega)]; exact hn
  refine x_aload_n C D_X9_removePoint_0.2.2.2.1 rfl rfl (by first | exact Or.inr ⟨_, rfl⟩ | exact va_rf_or _ | exact Or.inl rfl) ?_
  refine x_iload_n C D_X9_removePoint_0.2.2.2.2.1 rfl rfl ?_
  refine x_iload_n C D_X9_removePoint_0.2.2.2.2.2.1 rfl rfl ?_
  refine x_callVi C (y := yX9_pointOf) (c_X9_pointOf l G m n ar (x) (y) hM i2n (by omega)) (ci := 8) hM.1 (by decide) rfl rfl k_1145 k_1147 k_52 k_67 k_1148 hd_X9_pointOf ⟨(Nat.le_of_ble_eq_true rfl), (Nat.le_of_ble_eq_true rfl)⟩ rfl (by first | exact Nat.le_of_ble_eq_true rfl | simp [x_crf, Value.category]) rfl rfl D_X9_removePoint_0.2.2.2.2.2.2.1 ⟨(Nat.le_of_ble_eq_true rfl), (Nat.le_of_ble_eq_true rfl)⟩ (fun r_8 S_8 h_8 => ?_)
  obtain ⟨rfl, rfl⟩ := h_8
  refine x_eqi (oI (some k)) (by rw [i2 _ hm12, i2 _ hm13, hnd]) ?_
  refine x_istore_n C (lv' := [_, _, _, _, _, _]) D_X9_removePoint_0.2.2.2.2.2.2.2.1 rfl (Nat.le_of_ble_eq_true rfl) (by first | rfl | exact x_ok_q rfl) rfl ?_
  refine x_iload_n C D_X9_removePoint_0.2.2.2.2.2.2.2.2.1 rfl rfl ?_
  refine x_iconst C (v := (-1)) D_X9_removePoint_0.2.2.2.2.2.2.2.2.2.1 (by decide +kernel) ?_
  refine x_icmp_eq C 26 D_X9_removePoint_0.2.2.2.2.2.2.2.2.2.2.1 (by decide) (fun c_14 => ?_) (fun c_14 => ?_)
  · skip
    exact absurd c_14 (oI_nn k (by omega))
    --end
  · skip
    refine x_aload_n C D_X9_removePoint_0.2.2.2.2.2.2.2.2.2.2.2 rfl rfl (by first | exact Or.inr ⟨_, rfl⟩ | exact va_rf_or _ | exact Or.inl rfl) ?_
    refine x_getQ C (ci := 8) (k0 := 14) (by assumption) (by decide) rfl (by decide) in_X9 k_916 rfl rfl D_X9_removePoint_1.1 ?_
    refine x_eqr (hM.2.1 14 (by decide)).1 ?_
    refine x_iload_n C D_X9_removePoint_1.2.1 rfl rfl ?_
    refine x_zald C _ (by first | assumption | exact (hM.2.1 _ (by decide)).2.1) rfl (by first | omega | (rw [hM.nk _ (by decide)]; omega) | (rw [hM.np _ (by decide)]; omega)) (by first | omega | (rw [hM.nk _ (by decide)]; omega) | (rw [hM.np _ (by decide)]; omega)) D_X9_removePoint_1.2.2.1 ?_
    refine x_eqi _ (show I2 (ar 14) k = xb true by rw [i2 _ hm14, h14 k hkn, hal]) ?_
    refine x_if_ne C 28 D_X9_removePoint_1.2.2.2.1 (by decide) (fun c_23 => ?_) (fun c_23 => ?_)
    · skip
      first
      | have d_23 := cz_ne c_23 (by omega)
      | have d_23 := cb_ne c_23
      | skip
      refine x_aload_n C D_X9_removePoint_1.2.2.2.2.2.2.1 rfl rfl (by first | exact Or.inr ⟨_, rfl⟩ | exact va_rf_or _ | exact Or.inl rfl) ?_
      refine x_getQ C (ci := 8) (k0 := 14) (by assumption) (by decide) rfl (by decide) in_X9 k_916 rfl rfl D_X9_removePoint_1.2.2.2.2.2.2.2.1 ?_
      refine x_eqr (hM.2.1 14 (by decide)).1 ?_
      refine x_iload_n C D_X9_removePoint_1.2.2.2.2.2.2.2.2.1 rfl rfl ?_
      refine x_iconst C (v := nI 0) D_X9_removePoint_1.2.2.2.2.2.2.2.2.2.1 (by decide +kernel) ?_
      refine x_zast C _ false rfl (by first | assumption | exact (hM.2.1 _ (by decide)).2.1) rfl (by first | omega | (rw [hM.nk _ (by decide)]; omega) | (rw [hM.np _ (by decide)]; omega)) (by first | omega | (rw [hM.nk _ (by decide)]; omega) | (rw [hM.np _ (by decide)]; omega)) D_X9_removePoint_1.2.2.2.2.2.2.2.2.2.2.1 (fun I3 eI3 => ?_)
      have i3 : ∀ a, x_ne a m → x_ne a (ar 14) → I3 a = I a := fun a h1 h2 => by rw [eI3, x_u2_a _ _ h2, i2 a h1]
      have i3m : I3 m = I2 m := by rw [eI3, x_u2_a _ _ hm14.symm]
      have i3n : I3 m 10 = nI n := by rw [i3m]; exact i2n
      have i314 : ∀ i, i < n → I3 (ar 14) i = xb ((x_up pa k false) i) := fun i hi => by
        rw [eI3]
        by_cases e : i = k
        · subst e; rw [x_u2_s, x_up_s]; rfl
        · rw [x_u2_j _ _ e, x_up_n _ _ e, i2 _ hm14]; exact h14 i hi
      refine x_aload_n C D_X9_removePoint_1.2.2.2.2.2.2.2.2.2.2.2 rfl rfl (by first | exact Or.inr ⟨_, rfl⟩ | exact va_rf_or _ | exact Or.inl rfl) ?_
      refine x_callVi C (y := yX9_livingPoints) (c_X9_livingPoints l G m n ar (x_up pa k false) hM i3n (by omega) i314) (ci := 8) hM.1 (by decide) rfl rfl k_1149 k_1151 k_53 k_67 k_1152 hd_X9_livingPoints ⟨(Nat.le_of_ble_eq_true rfl), (Nat.le_of_ble_eq_true rfl)⟩ rfl (by first | exact Nat.le_of_ble_eq_true rfl | simp [x_crf, Value.category]) rfl rfl D_X9_removePoint_2.1 ⟨(Nat.le_of_ble_eq_true rfl), (Nat.le_of_ble_eq_true rfl)⟩ (fun r_36 S_36 h_36 => ?_)
      obtain ⟨rfl, rfl⟩ := h_36
      rw [← eal] at i314 ⊢
      refine x_istore C (lv' := [_, _, _, _, _, _]) D_X9_removePoint_2.2.1 (Nat.le_of_ble_eq_true rfl) (by first | rfl | exact x_ok_q rfl) rfl ?_
      refine x_aload_n C D_X9_removePoint_2.2.2.1 rfl rfl (by first | exact Or.inr ⟨_, rfl⟩ | exact va_rf_or _ | exact Or.inl rfl) ?_
      refine x_getI C (ci := 8) (k0 := 10) (by assumption) (by decide) rfl (by decide) in_X9 k_912 rfl rfl D_X9_removePoint_2.2.2.2.1 ?_
      first
      | refine x_eqi _ (i3n) ?_
      | refine x_eqi _ (hn1) ?_
      | refine x_eqi _ (ha1) ?_
      | refine x_eqi _ (hb1) ?_
      | refine x_eqi _ (hc1) ?_
      | refine x_eqi _ (hd1) ?_
      | skip
      refine x_iload C D_X9_removePoint_2.2.2.2.2.1 rfl ?_
      refine x_isub C D_X9_removePoint_2.2.2.2.2.2.1 ?_
      first
      | refine x_eqi _ (pk_sub (by omega)) ?_
      | skip
      refine x_iload C D_X9_removePoint_2.2.2.2.2.2.2.1 rfl ?_
      refine x_icmp_le C 142 D_X9_removePoint_2.2.2.2.2.2.2.2.1 (by decide) (fun c_50 => ?_) (fun c_50 => ?_)
      · skip
        first
        | have d_50 := cv_le c_50 (by omega) (by omega)
        | skip
        exfalso; omega
        --end
      · skip
        first
        | have d_50 := cv_nle c_50 (by omega) (by omega)
        | skip
        refine x_iconst C (v := nI 0) D_X9_removePoint_2.2.2.2.2.2.2.2.2.1 (by decide +kernel) ?_
        refine x_istore C (lv' := [_, _, _, _, _, _]) D_X9_removePoint_2.2.2.2.2.2.2.2.2.2.1 (Nat.le_of_ble_eq_true rfl) (by first | rfl | exact x_ok_q rfl) rfl ?_
        refine x_iconst C (v := nI 0) D_X9_removePoint_2.2.2.2.2.2.2.2.2.2.2.1 (by decide +kernel) ?_
        refine x_istore C (lv' := [_, _, _, _, _, _]) D_X9_removePoint_2.2.2.2.2.2.2.2.2.2.2.2 (Nat.le_of_ble_eq_true rfl) (by first | rfl | exact x_ok_q rfl) rfl ?_
        have L_59 : ∀ (w_59 : Nat) (k0 : Nat) (I4 : Nat → Nat → Int32), n - k0 < w_59 → (k0 ≤ n) → (∀ i, i < k0 → al i = true → I4 (ar 12) (cn al i) = I (ar 12) i ∧ I4 (ar 13) (cn al i) = I (ar 13) i ∧ I4 (ar 14) (cn al i) = xb true ∧ I4 (ar 15) (cn al i) = nI 1) → (∀ a j, cn al k0 ≤ j → I4 a j = I3 a j) → (∀ a j, a ≠ ar 12 → a ≠ ar 13 → a ≠ ar 14 → a ≠ ar 15 → I4 a j = I3 a j) → XW pP l eE rm_X9_removePointD sS mM aA bB hH cC G Z 0 0 (K, N, I4, Q, J) 59 [some (.ref m), some (.int x), some (.int y), some (.int (oI (some k))), some (.int (nI (cn al k0))), some (.int (nI k0))] [] := by
          intro w_59
          induction w_59 with
          | zero =>
            intro k0 I4 hw_59
            exact absurd hw_59 (Nat.not_lt_zero _)
          | succ w_59 ih_59 =>
            intro k0 I4 hw_59 hk0 hJ1 hJ2 hJ3
            have hn1 : I4 m 10 = nI n := by rw [hJ3 m 10 hm12.symm hm13.symm hm14.symm hm15.symm]; exact i3n
            refine x_iload C D_X9_removePoint_3.1 rfl ?_
            refine x_aload_n C D_X9_removePoint_3.2.1 rfl rfl (by first | exact Or.inr ⟨_, rfl⟩ | exact va_rf_or _ | exact Or.inl rfl) ?_
            refine x_getI C (ci := 8) (k0 := 10) (by assumption) (by decide) rfl (by decide) in_X9 k_912 rfl rfl D_X9_removePoint_3.2.2.1 ?_
            first
            | refine x_eqi _ (i3n) ?_
            | refine x_eqi _ (hn1) ?_
            | refine x_eqi _ (ha1) ?_
            | refine x_eqi _ (hb1) ?_
            | refine x_eqi _ (hc1) ?_
            | refine x_eqi _ (hd1) ?_
            | skip
            refine x_icmp_ge C 131 D_X9_removePoint_3.2.2.2.1 (by decide) (fun c_65 => ?_) (fun c_65 => ?_)
            · skip
              first
              | have d_65 := cv_le c_65 (by omega) (by omega)
              | skip
              obtain rfl : n = k0 := by omega
              refine x_aload_n C D_X9_removePoint_6.2.2.1 rfl rfl (by first | exact Or.inr ⟨_, rfl⟩ | exact va_rf_or _ | exact Or.inl rfl) ?_
              refine x_iload C D_X9_removePoint_6.2.2.2.1 rfl ?_
              refine x_putI C (ci := 8) (k0 := 10) (by assumption) (by decide) rfl (by decide) in_X9 k_912 rfl tyX9 tyX9_ok nmX9 rfl (by rfl) rfl rfl rfl D_X9_removePoint_6.2.2.2.2.1 (fun I9 eI9 => ?_)
              have e9 : ∀ a, x_ne a m → I9 a = I4 a := fun a ha => by rw [eI9, x_u2_a _ _ ha]
              have hsel : ∀ j, j < cn al n → I9 (ar 12) j = nI (pc (selF al n j) / 100) ∧ I9 (ar 13) j = nI (pc (selF al n j) % 100) ∧ I9 (ar 14) j = xb true ∧ I9 (ar 15) j = nI 1 ∧ pc (selF al n j) < 10000 := fun j hj => by
                obtain ⟨s1, s2, s3⟩ := selF_ok hj
                obtain ⟨t1, t2, t3, t4⟩ := hJ1 _ s1 s2
                rw [s3] at t1 t2 t3 t4
                rw [e9 _ hm12, e9 _ hm13, e9 _ hm14, e9 _ hm15, t1, t2, t3, t4, h12 _ s1, h13 _ s1]
                exact ⟨rfl, rfl, rfl, rfl, (hB _ s1).1⟩
              refine x_aload_n C D_X9_removePoint_6.2.2.2.2.2.1 rfl rfl (by first | exact Or.inr ⟨_, rfl⟩ | exact va_rf_or _ | exact Or.inl rfl) ?_
              refine x_iconst C (v := nI 1) D_X9_removePoint_6.2.2.2.2.2.2.1 (by decide +kernel) ?_
              refine x_callVv C (y := yX9_layOutPoints) (c_X9_layOutPoints l G m (cn al n) 1 R ar (fun j => pc (selF al n j)) (fun _ => 1) OP PS hM (by rw [eI9, x_u2_s]) (by omega) (fun i hi => (hsel i hi).1) (fun i hi => (hsel i hi).2.1) (fun i hi => (hsel i hi).2.2.2.2) (fun i hi => ⟨(hsel i hi).2.2.2.1, by omega⟩) (by omega) (fun i hi => by rw [hO0 i hi, bel_self (by omega)]) (fun i hi => by rw [hP0 i hi, hO0 i hi, if_pos rfl]) hL) (ci := 8) hM.1 (by decide) rfl rfl k_1164 k_1166 k_56 k_67 k_1167 hd_X9_layOutPoints ⟨(Nat.le_of_ble_eq_true rfl), (Nat.le_of_ble_eq_true rfl)⟩ rfl (by first | exact Nat.le_of_ble_eq_true rfl | simp [x_crf, Value.category]) rfl rfl D_X9_removePoint_6.2.2.2.2.2.2.2.1 ⟨(Nat.le_of_ble_eq_true rfl), (Nat.le_of_ble_eq_true rfl)⟩ (fun _ S_139 h_139 => ?_)
              obtain ⟨I10, rfl, y1, y2⟩ := h_139
              refine x_iconst C (v := nI 1) D_X9_removePoint_6.2.2.2.2.2.2.2.2.1 (by decide +kernel) ?_
              refine ret _ _ _ _ _ _ true rfl D_X9_removePoint_6.2.2.2.2.2.2.2.2.2 (Nat.le_of_ble_eq_true rfl) (Nat.le_of_ble_eq_true rfl) rfl ?_
              rw [← eal]
              refine ⟨rfl, I10, rfl, ⟨?_, by omega, fun i hi => ?_, fun i hi => ?_, fun i hi => ?_, y1⟩, fun a h1 g12 g13 g14 g15 g16 g17 => ?_, ?_, fun j h1 h2 => ?_⟩
              · rw [y2 m hm15.symm hm16.symm hm17.symm, eI9, x_u2_s]
              · rw [y2 _ n1215 n1216 n1217]; exact (hsel i hi).1
              · rw [y2 _ n1315 n1316 n1317]; exact (hsel i hi).2.1
              · rw [y2 _ n1415 n1416 n1417]; exact (hsel i hi).2.2.1
              · rw [y2 a g15 g16 g17, e9 a h1]; funext j; rw [hJ3 a j g12 g13 g14 g15, i3 a h1 g14]
              · rw [y2 m hm15.symm hm16.symm hm17.symm, eI9, x_u2_j _ _ (by omega), hJ3 m _ hm12.symm hm13.symm hm14.symm hm15.symm, i3m, eI2, x_u2_s]
              · rw [y2 m hm15.symm hm16.symm hm17.symm, eI9, x_u2_j _ _ h2, hJ3 m _ hm12.symm hm13.symm hm14.symm hm15.symm, i3m, eI2, x_u2_j _ _ h1]
            · skip
              first
              | have d_65 := cv_nle c_65 (by omega) (by omega)
              | skip
              have hcl2 := cn_le al k0
              have ha1 : I4 (ar 14) k0 = xb (al k0) := by rw [hJ2 (ar 14) k0 hcl2]; exact i314 k0 (by omega)
              have hb1 : I4 (ar 12) k0 = I (ar 12) k0 := by rw [hJ2 (ar 12) k0 hcl2, i3 _ hm12 n1214]
              have hc1 : I4 (ar 13) k0 = I (ar 13) k0 := by rw [hJ2 (ar 13) k0 hcl2, i3 _ hm13 n1314]
              refine x_aload_n C D_X9_removePoint_3.2.2.2.2.1 rfl rfl (by first | exact Or.inr ⟨_, rfl⟩ | exact va_rf_or _ | exact Or.inl rfl) ?_
              refine x_getQ C (ci := 8) (k0 := 14) (by assumption) (by decide) rfl (by decide) in_X9 k_916 rfl rfl D_X9_removePoint_3.2.2.2.2.2.1 ?_
              refine x_eqr (hM.2.1 14 (by decide)).1 ?_
              refine x_iload C D_X9_removePoint_3.2.2.2.2.2.2.1 rfl ?_
              refine x_zald C _ (by first | assumption | exact (hM.2.1 _ (by decide)).2.1) rfl (by first | omega | (rw [hM.nk _ (by decide)]; omega) | (rw [hM.np _ (by decide)]; omega)) (by first | omega | (rw [hM.nk _ (by decide)]; omega) | (rw [hM.np _ (by decide)]; omega)) D_X9_removePoint_3.2.2.2.2.2.2.2.1 ?_
              first
              | refine x_eqi _ (i3n) ?_
              | refine x_eqi _ (hn1) ?_
              | refine x_eqi _ (ha1) ?_
              | refine x_eqi _ (hb1) ?_
              | refine x_eqi _ (hc1) ?_
              | refine x_eqi _ (hd1) ?_
              | skip
              refine x_if_eq C 125 D_X9_removePoint_3.2.2.2.2.2.2.2.2.1 (by decide) (fun c_75 => ?_) (fun c_75 => ?_)
              · skip
                first
                | have d_75 := cz_eq c_75 (by omega)
                | have d_75 := cb_eq c_75
                | skip
                have hs : cn al (k0 + 1) = cn al k0 := by simp [cn, d_75]
                first
                | refine x_iinc C (lv' := [_, _, _, _, _, _]) D_X9_removePoint_6.1 rfl (x_incN_1 _) (by first | rfl | exact x_ok_q rfl) rfl ?_
                | refine x_iinc C (lv' := [_, _, _, _, _, _]) D_X9_removePoint_6.1 rfl (x_inc_1 _) (by first | rfl | exact x_ok_q rfl) rfl ?_
                refine x_goto C 59 D_X9_removePoint_6.2.1 (by decide) ?_
                refine x_lv (lv := [_, _, _, _, some (.int (nI (cn al (k0 + 1)))), _]) (by rw [hs]) ?_
                refine ih_59 (k0 + 1) I4 (by omega) (by omega) (fun i hi ha => ?_) (fun a j hj => hJ2 a j (by omega)) hJ3
                by_cases e : i = k0
                · rw [e, d_75] at ha; cases ha
                · exact hJ1 i (by omega) ha
              · skip
                first
                | have d_75 := cz_ne c_75 (by omega)
                | have d_75 := cb_ne c_75
                | skip
                have hs : cn al (k0 + 1) = cn al k0 + 1 := by simp [cn, d_75]
                refine x_aload_n C D_X9_removePoint_3.2.2.2.2.2.2.2.2.2.1 rfl rfl (by first | exact Or.inr ⟨_, rfl⟩ | exact va_rf_or _ | exact Or.inl rfl) ?_
                refine x_getQ C (ci := 8) (k0 := 12) (by assumption) (by decide) rfl (by decide) in_X9 k_914 rfl rfl D_X9_removePoint_3.2.2.2.2.2.2.2.2.2.2.1 ?_
                refine x_eqr (hM.2.1 12 (by decide)).1 ?_
                refine x_iload C D_X9_removePoint_3.2.2.2.2.2.2.2.2.2.2.2 rfl ?_
                refine x_aload_n C D_X9_removePoint_4.1 rfl rfl (by first | exact Or.inr ⟨_, rfl⟩ | exact va_rf_or _ | exact Or.inl rfl) ?_
                refine x_getQ C (ci := 8) (k0 := 12) (by assumption) (by decide) rfl (by decide) in_X9 k_914 rfl rfl D_X9_removePoint_4.2.1 ?_
                refine x_eqr (hM.2.1 12 (by decide)).1 ?_
                refine x_iload C D_X9_removePoint_4.2.2.1 rfl ?_
                refine x_iald C _ (by first | assumption | exact (hM.2.1 _ (by decide)).2.1) rfl (by first | omega | (rw [hM.nk _ (by decide)]; omega) | (rw [hM.np _ (by decide)]; omega)) (by first | omega | (rw [hM.nk _ (by decide)]; omega) | (rw [hM.np _ (by decide)]; omega)) D_X9_removePoint_4.2.2.2.1 ?_
                first
                | refine x_eqi _ (i3n) ?_
                | refine x_eqi _ (hn1) ?_
                | refine x_eqi _ (ha1) ?_
                | refine x_eqi _ (hb1) ?_
                | refine x_eqi _ (hc1) ?_
                | refine x_eqi _ (hd1) ?_
                | skip
                refine x_iast C _ (by first | assumption | exact (hM.2.1 _ (by decide)).2.1) rfl (by first | omega | (rw [hM.nk _ (by decide)]; omega) | (rw [hM.np _ (by decide)]; omega)) (by first | omega | (rw [hM.nk _ (by decide)]; omega) | (rw [hM.np _ (by decide)]; omega)) D_X9_removePoint_4.2.2.2.2.1 (fun I5 eI5 => ?_)
                have hc1 : I5 (ar 13) k0 = I (ar 13) k0 := by rw [eI5, x_u2_a _ _ n1312]; exact hc1
                refine x_aload_n C D_X9_removePoint_4.2.2.2.2.2.1 rfl rfl (by first | exact Or.inr ⟨_, rfl⟩ | exact va_rf_or _ | exact Or.inl rfl) ?_
                refine x_getQ C (ci := 8) (k0 := 13) (by assumption) (by decide) rfl (by decide) in_X9 k_915 rfl rfl D_X9_removePoint_4.2.2.2.2.2.2.1 ?_
                refine x_eqr (hM.2.1 13 (by decide)).1 ?_
                refine x_iload C D_X9_removePoint_4.2.2.2.2.2.2.2.1 rfl ?_
                refine x_aload_n C D_X9_removePoint_4.2.2.2.2.2.2.2.2.1 rfl rfl (by first | exact Or.inr ⟨_, rfl⟩ | exact va_rf_or _ | exact Or.inl rfl) ?_
                refine x_getQ C (ci := 8) (k0 := 13) (by assumption) (by decide) rfl (by decide) in_X9 k_915 rfl rfl D_X9_removePoint_4.2.2.2.2.2.2.2.2.2.1 ?_
                refine x_eqr (hM.2.1 13 (by decide)).1 ?_
                refine x_iload C D_X9_removePoint_4.2.2.2.2.2.2.2.2.2.2.1 rfl ?_
                refine x_iald C _ (by first | assumption | exact (hM.2.1 _ (by decide)).2.1) rfl (by first | omega | (rw [hM.nk _ (by decide)]; omega) | (rw [hM.np _ (by decide)]; omega)) (by first | omega | (rw [hM.nk _ (by decide)]; omega) | (rw [hM.np _ (by decide)]; omega)) D_X9_removePoint_4.2.2.2.2.2.2.2.2.2.2.2 ?_
                first
                | refine x_eqi _ (i3n) ?_
                | refine x_eqi _ (hn1) ?_
                | refine x_eqi _ (ha1) ?_
                | refine x_eqi _ (hb1) ?_
                | refine x_eqi _ (hc1) ?_
                | refine x_eqi _ (hd1) ?_
                | skip
                refine x_iast C _ (by first | assumption | exact (hM.2.1 _ (by decide)).2.1) rfl (by first | omega | (rw [hM.nk _ (by decide)]; omega) | (rw [hM.np _ (by decide)]; omega)) (by first | omega | (rw [hM.nk _ (by decide)]; omega) | (rw [hM.np _ (by decide)]; omega)) D_X9_removePoint_5.1 (fun I6 eI6 => ?_)
                refine x_aload_n C D_X9_removePoint_5.2.1 rfl rfl (by first | exact Or.inr ⟨_, rfl⟩ | exact va_rf_or _ | exact Or.inl rfl) ?_
                refine x_getQ C (ci := 8) (k0 := 14) (by assumption) (by decide) rfl (by decide) in_X9 k_916 rfl rfl D_X9_removePoint_5.2.2.1 ?_
                refine x_eqr (hM.2.1 14 (by decide)).1 ?_
                refine x_iload C D_X9_removePoint_5.2.2.2.1 rfl ?_
                refine x_iconst C (v := nI 1) D_X9_removePoint_5.2.2.2.2.1 (by decide +kernel) ?_
                refine x_zast C _ true rfl (by first | assumption | exact (hM.2.1 _ (by decide)).2.1) rfl (by first | omega | (rw [hM.nk _ (by decide)]; omega) | (rw [hM.np _ (by decide)]; omega)) (by first | omega | (rw [hM.nk _ (by decide)]; omega) | (rw [hM.np _ (by decide)]; omega)) D_X9_removePoint_5.2.2.2.2.2.1 (fun I7 eI7 => ?_)
                refine x_aload_n C D_X9_removePoint_5.2.2.2.2.2.2.1 rfl rfl (by first | exact Or.inr ⟨_, rfl⟩ | exact va_rf_or _ | exact Or.inl rfl) ?_
                refine x_getQ C (ci := 8) (k0 := 15) (by assumption) (by decide) rfl (by decide) in_X9 k_917 rfl rfl D_X9_removePoint_5.2.2.2.2.2.2.2.1 ?_
                refine x_eqr (hM.2.1 15 (by decide)).1 ?_
                refine x_iload C D_X9_removePoint_5.2.2.2.2.2.2.2.2.1 rfl ?_
                refine x_iconst C (v := nI 1) D_X9_removePoint_5.2.2.2.2.2.2.2.2.2.1 (by decide +kernel) ?_
                refine x_iast C _ (by first | assumption | exact (hM.2.1 _ (by decide)).2.1) rfl (by first | omega | (rw [hM.nk _ (by decide)]; omega) | (rw [hM.np _ (by decide)]; omega)) (by first | omega | (rw [hM.nk _ (by decide)]; omega) | (rw [hM.np _ (by decide)]; omega)) D_X9_removePoint_5.2.2.2.2.2.2.2.2.2.2.1 (fun I8 eI8 => ?_)
                first
                | refine x_iinc C (lv' := [_, _, _, _, _, _]) D_X9_removePoint_5.2.2.2.2.2.2.2.2.2.2.2 rfl (x_incN_1 _) (by first | rfl | exact x_ok_q rfl) rfl ?_
                | refine x_iinc C (lv' := [_, _, _, _, _, _]) D_X9_removePoint_5.2.2.2.2.2.2.2.2.2.2.2 rfl (x_inc_1 _) (by first | rfl | exact x_ok_q rfl) rfl ?_
                first
                | refine x_iinc C (lv' := [_, _, _, _, _, _]) D_X9_removePoint_6.1 rfl (x_incN_1 _) (by first | rfl | exact x_ok_q rfl) rfl ?_
                | refine x_iinc C (lv' := [_, _, _, _, _, _]) D_X9_removePoint_6.1 rfl (x_inc_1 _) (by first | rfl | exact x_ok_q rfl) rfl ?_
                refine x_goto C 59 D_X9_removePoint_6.2.1 (by decide) ?_
                refine x_lv (lv := [_, _, _, _, some (.int (nI (cn al (k0 + 1)))), _]) (by rw [hs]) ?_
                have hw : ∀ a j, j ≠ cn al k0 → I8 a j = I4 a j := fun a j hj => by
                  rw [eI8, eI7, eI6, eI5]
                  rw [x_u2_j _ _ hj, x_u2_j _ _ hj, x_u2_j _ _ hj, x_u2_j _ _ hj]
                refine ih_59 (k0 + 1) I8 (by omega) (by omega) (fun i hi ha => ?_) (fun a j hj => by rw [hw a j (by omega)]; exact hJ2 a j (by omega)) (fun a j h5 h6 h7 h8 => ?_)
                · by_cases e : i = k0
                  · subst e
                    refine ⟨?_, ?_, ?_, ?_⟩
                    · rw [eI8, x_u2_a _ _ n1215, eI7, x_u2_a _ _ n1214, eI6, x_u2_a _ _ n1213, eI5, x_u2_s]
                    · rw [eI8, x_u2_a _ _ n1315, eI7, x_u2_a _ _ n1314, eI6, x_u2_s]
                    · rw [eI8, x_u2_a _ _ n1415, eI7, x_u2_s]; rfl
                    · rw [eI8, x_u2_s]
                  · have hlt : cn al i < cn al k0 := by
                      have h9 := cn_mono al (n := k0) (k := i + 1) (by omega)
                      simp only [cn, ha, if_true] at h9
                      omega
                    rw [hw _ _ (by omega), hw _ _ (by omega), hw _ _ (by omega), hw _ _ (by omega)]; exact hJ1 i (by omega) ha
                · rw [eI8, x_u2_a _ _ h8, eI7, x_u2_a _ _ h7, eI6, x_u2_a _ _ h6, eI5, x_u2_a _ _ h5]; exact hJ3 a j h5 h6 h7 h8
        exact L_59 _ 0 I3 (Nat.lt_succ_self _) (Nat.zero_le _) (fun i hi => by omega) (fun _ _ _ => rfl) (fun _ _ _ _ _ _ => rfl)
    · skip
      exact absurd c_23 (by decide)
