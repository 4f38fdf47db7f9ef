theorem D_X9_layOutPoints_0 : decode cX9_layOutPoints 0 = .ok (.iconst 0, 1) ∧ decode cX9_layOutPoints 1 = .ok (.istore_n 2, 1) ∧ decode cX9_layOutPoints 2 = .ok (.iconst 0, 1) ∧ decode cX9_layOutPoints 3 = .ok (.istore_n 3, 1) ∧ decode cX9_layOutPoints 4 = .ok (.iload_n 3, 1) ∧ decode cX9_layOutPoints 5 = .ok (.aload_n 0, 1) ∧ decode cX9_layOutPoints 6 = .ok (.getfield 149, 3) ∧ decode cX9_layOutPoints 9 = .ok (.if_icmp .ge 67, 3) ∧ decode cX9_layOutPoints 12 = .ok (.aload_n 0, 1) ∧ decode cX9_layOutPoints 13 = .ok (.getfield 38, 3) ∧ decode cX9_layOutPoints 16 = .ok (.iload_n 3, 1) ∧ decode cX9_layOutPoints 17 = .ok (.aload_n 0, 1) := by decide +kernel
theorem D_X9_layOutPoints_1 : decode cX9_layOutPoints 18 = .ok (.getfield 35, 3) ∧ decode cX9_layOutPoints 21 = .ok (.iload_n 3, 1) ∧ decode cX9_layOutPoints 22 = .ok (.iaload, 1) ∧ decode cX9_layOutPoints 23 = .ok (.iload_n 1, 1) ∧ decode cX9_layOutPoints 24 = .ok (.invokestatic 52, 3) ∧ decode cX9_layOutPoints 27 = .ok (.bastore, 1) ∧ decode cX9_layOutPoints 28 = .ok (.aload_n 0, 1) ∧ decode cX9_layOutPoints 29 = .ok (.getfield 35, 3) ∧ decode cX9_layOutPoints 32 = .ok (.iload_n 3, 1) ∧ decode cX9_layOutPoints 33 = .ok (.aload_n 0, 1) ∧ decode cX9_layOutPoints 34 = .ok (.getfield 38, 3) ∧ decode cX9_layOutPoints 37 = .ok (.iload_n 3, 1) := by decide +kernel
theorem D_X9_layOutPoints_2 : decode cX9_layOutPoints 38 = .ok (.baload, 1) ∧ decode cX9_layOutPoints 39 = .ok (.ifCond .eq 7, 3) ∧ decode cX9_layOutPoints 42 = .ok (.iload_n 1, 1) ∧ decode cX9_layOutPoints 43 = .ok (.goto 9, 3) ∧ decode cX9_layOutPoints 46 = .ok (.aload_n 0, 1) ∧ decode cX9_layOutPoints 47 = .ok (.getfield 35, 3) ∧ decode cX9_layOutPoints 50 = .ok (.iload_n 3, 1) ∧ decode cX9_layOutPoints 51 = .ok (.iaload, 1) ∧ decode cX9_layOutPoints 52 = .ok (.iastore, 1) ∧ decode cX9_layOutPoints 53 = .ok (.iload_n 2, 1) ∧ decode cX9_layOutPoints 54 = .ok (.aload_n 0, 1) ∧ decode cX9_layOutPoints 55 = .ok (.getfield 38, 3) := by decide +kernel
theorem D_X9_layOutPoints_3 : decode cX9_layOutPoints 58 = .ok (.iload_n 3, 1) ∧ decode cX9_layOutPoints 59 = .ok (.baload, 1) ∧ decode cX9_layOutPoints 60 = .ok (.ifCond .eq 7, 3) ∧ decode cX9_layOutPoints 63 = .ok (.iconst 1, 1) ∧ decode cX9_layOutPoints 64 = .ok (.goto 4, 3) ∧ decode cX9_layOutPoints 67 = .ok (.iconst 0, 1) ∧ decode cX9_layOutPoints 68 = .ok (.iadd, 1) ∧ decode cX9_layOutPoints 69 = .ok (.istore_n 2, 1) ∧ decode cX9_layOutPoints 70 = .ok (.iinc 3 1, 3) ∧ decode cX9_layOutPoints 73 = .ok (.goto (-69), 3) ∧ decode cX9_layOutPoints 76 = .ok (.iload_n 2, 1) ∧ decode cX9_layOutPoints 77 = .ok (.ifCond .le 172, 3) := by decide +kernel
theorem D_X9_layOutPoints_4 : decode cX9_layOutPoints 80 = .ok (.iconst 0, 1) ∧ decode cX9_layOutPoints 81 = .ok (.istore_n 3, 1) ∧ decode cX9_layOutPoints 82 = .ok (.iload_n 3, 1) ∧ decode cX9_layOutPoints 83 = .ok (.aload_n 0, 1) ∧ decode cX9_layOutPoints 84 = .ok (.getfield 149, 3) ∧ decode cX9_layOutPoints 87 = .ok (.if_icmp .ge 67, 3) ∧ decode cX9_layOutPoints 90 = .ok (.aload_n 0, 1) ∧ decode cX9_layOutPoints 91 = .ok (.getfield 38, 3) ∧ decode cX9_layOutPoints 94 = .ok (.iload_n 3, 1) ∧ decode cX9_layOutPoints 95 = .ok (.baload, 1) ∧ decode cX9_layOutPoints 96 = .ok (.ifCond .eq 52, 3) ∧ decode cX9_layOutPoints 99 = .ok (.aload_n 0, 1) := by decide +kernel
theorem D_X9_layOutPoints_5 : decode cX9_layOutPoints 100 = .ok (.iload_n 3, 1) ∧ decode cX9_layOutPoints 101 = .ok (.invokevirtual 156, 3) ∧ decode cX9_layOutPoints 104 = .ok (.aload_n 0, 1) ∧ decode cX9_layOutPoints 105 = .ok (.iload_n 3, 1) ∧ decode cX9_layOutPoints 106 = .ok (.invokevirtual 159, 3) ∧ decode cX9_layOutPoints 109 = .ok (.iconst 2, 1) ∧ decode cX9_layOutPoints 110 = .ok (.idiv, 1) ∧ decode cX9_layOutPoints 111 = .ok (.isub, 1) ∧ decode cX9_layOutPoints 112 = .ok (.istore 4, 2) ∧ decode cX9_layOutPoints 114 = .ok (.aload_n 0, 1) ∧ decode cX9_layOutPoints 115 = .ok (.getfield 41, 3) ∧ decode cX9_layOutPoints 118 = .ok (.iload_n 3, 1) := by decide +kernel
theorem D_X9_layOutPoints_6 : decode cX9_layOutPoints 119 = .ok (.iload 4, 2) ∧ decode cX9_layOutPoints 121 = .ok (.ifCond .ne 7, 3) ∧ decode cX9_layOutPoints 124 = .ok (.iconst 0, 1) ∧ decode cX9_layOutPoints 125 = .ok (.goto 22, 3) ∧ decode cX9_layOutPoints 128 = .ok (.iconst 2, 1) ∧ decode cX9_layOutPoints 129 = .ok (.aload_n 0, 1) ∧ decode cX9_layOutPoints 130 = .ok (.getfield 35, 3) ∧ decode cX9_layOutPoints 133 = .ok (.iload_n 3, 1) ∧ decode cX9_layOutPoints 134 = .ok (.iaload, 1) ∧ decode cX9_layOutPoints 135 = .ok (.imul, 1) ∧ decode cX9_layOutPoints 136 = .ok (.iload 4, 2) ∧ decode cX9_layOutPoints 138 = .ok (.ifCond .ge 7, 3) := by decide +kernel
theorem D_X9_layOutPoints_7 : decode cX9_layOutPoints 141 = .ok (.iconst 0, 1) ∧ decode cX9_layOutPoints 142 = .ok (.goto 4, 3) ∧ decode cX9_layOutPoints 145 = .ok (.iconst 1, 1) ∧ decode cX9_layOutPoints 146 = .ok (.iadd, 1) ∧ decode cX9_layOutPoints 147 = .ok (.iastore, 1) ∧ decode cX9_layOutPoints 148 = .ok (.iinc 3 1, 3) ∧ decode cX9_layOutPoints 151 = .ok (.goto (-69), 3) ∧ decode cX9_layOutPoints 154 = .ok (.iconst 0, 1) ∧ decode cX9_layOutPoints 155 = .ok (.istore_n 3, 1) ∧ decode cX9_layOutPoints 156 = .ok (.iload_n 3, 1) ∧ decode cX9_layOutPoints 157 = .ok (.aload_n 0, 1) ∧ decode cX9_layOutPoints 158 = .ok (.getfield 149, 3) := by decide +kernel
theorem D_X9_layOutPoints_8 : decode cX9_layOutPoints 161 = .ok (.if_icmp .ge 85, 3) ∧ decode cX9_layOutPoints 164 = .ok (.aload_n 0, 1) ∧ decode cX9_layOutPoints 165 = .ok (.getfield 38, 3) ∧ decode cX9_layOutPoints 168 = .ok (.iload_n 3, 1) ∧ decode cX9_layOutPoints 169 = .ok (.baload, 1) ∧ decode cX9_layOutPoints 170 = .ok (.ifCond .eq 70, 3) ∧ decode cX9_layOutPoints 173 = .ok (.aload_n 0, 1) ∧ decode cX9_layOutPoints 174 = .ok (.getfield 38, 3) ∧ decode cX9_layOutPoints 177 = .ok (.iload_n 3, 1) ∧ decode cX9_layOutPoints 178 = .ok (.aload_n 0, 1) ∧ decode cX9_layOutPoints 179 = .ok (.getfield 41, 3) ∧ decode cX9_layOutPoints 182 = .ok (.iload_n 3, 1) := by decide +kernel
theorem D_X9_layOutPoints_9 : decode cX9_layOutPoints 183 = .ok (.iaload, 1) ∧ decode cX9_layOutPoints 184 = .ok (.ifCond .eq 7, 3) ∧ decode cX9_layOutPoints 187 = .ok (.iconst 1, 1) ∧ decode cX9_layOutPoints 188 = .ok (.goto 4, 3) ∧ decode cX9_layOutPoints 191 = .ok (.iconst 0, 1) ∧ decode cX9_layOutPoints 192 = .ok (.bastore, 1) ∧ decode cX9_layOutPoints 193 = .ok (.aload_n 0, 1) ∧ decode cX9_layOutPoints 194 = .ok (.getfield 35, 3) ∧ decode cX9_layOutPoints 197 = .ok (.iload_n 3, 1) ∧ decode cX9_layOutPoints 198 = .ok (.aload_n 0, 1) ∧ decode cX9_layOutPoints 199 = .ok (.getfield 38, 3) ∧ decode cX9_layOutPoints 202 = .ok (.iload_n 3, 1) := by decide +kernel
theorem D_X9_layOutPoints_10 : decode cX9_layOutPoints 203 = .ok (.baload, 1) ∧ decode cX9_layOutPoints 204 = .ok (.ifCond .eq 12, 3) ∧ decode cX9_layOutPoints 207 = .ok (.aload_n 0, 1) ∧ decode cX9_layOutPoints 208 = .ok (.getfield 41, 3) ∧ decode cX9_layOutPoints 211 = .ok (.iload_n 3, 1) ∧ decode cX9_layOutPoints 212 = .ok (.iaload, 1) ∧ decode cX9_layOutPoints 213 = .ok (.goto 9, 3) ∧ decode cX9_layOutPoints 216 = .ok (.aload_n 0, 1) ∧ decode cX9_layOutPoints 217 = .ok (.getfield 35, 3) ∧ decode cX9_layOutPoints 220 = .ok (.iload_n 3, 1) ∧ decode cX9_layOutPoints 221 = .ok (.iaload, 1) ∧ decode cX9_layOutPoints 222 = .ok (.iastore, 1) := by decide +kernel
theorem D_X9_layOutPoints_11 : decode cX9_layOutPoints 223 = .ok (.iload_n 2, 1) ∧ decode cX9_layOutPoints 224 = .ok (.aload_n 0, 1) ∧ decode cX9_layOutPoints 225 = .ok (.getfield 38, 3) ∧ decode cX9_layOutPoints 228 = .ok (.iload_n 3, 1) ∧ decode cX9_layOutPoints 229 = .ok (.baload, 1) ∧ decode cX9_layOutPoints 230 = .ok (.ifCond .eq 7, 3) ∧ decode cX9_layOutPoints 233 = .ok (.iconst 0, 1) ∧ decode cX9_layOutPoints 234 = .ok (.goto 4, 3) ∧ decode cX9_layOutPoints 237 = .ok (.iconst 1, 1) ∧ decode cX9_layOutPoints 238 = .ok (.isub, 1) ∧ decode cX9_layOutPoints 239 = .ok (.istore_n 2, 1) ∧ decode cX9_layOutPoints 240 = .ok (.iinc 3 1, 3) := by decide +kernel
theorem D_X9_layOutPoints_12 : decode cX9_layOutPoints 243 = .ok (.goto (-87), 3) ∧ decode cX9_layOutPoints 246 = .ok (.goto (-170), 3) ∧ decode cX9_layOutPoints 249 = .ok (.return_, 1) := by decide +kernel
theorem D_X9_growPoints_0 : decode cX9_growPoints 0 = .ok (.iconst 0, 1) ∧ decode cX9_growPoints 1 = .ok (.istore_n 2, 1) ∧ decode cX9_growPoints 2 = .ok (.iload_n 1, 1) ∧ decode cX9_growPoints 3 = .ok (.iconst 2, 1) ∧ decode cX9_growPoints 4 = .ok (.idiv, 1) ∧ decode cX9_growPoints 5 = .ok (.istore_n 3, 1) ∧ decode cX9_growPoints 6 = .ok (.iload_n 3, 1) ∧ decode cX9_growPoints 7 = .ok (.ifCond .le 69, 3) ∧ decode cX9_growPoints 10 = .ok (.aload_n 0, 1) ∧ decode cX9_growPoints 11 = .ok (.iload_n 3, 1) ∧ decode cX9_growPoints 12 = .ok (.invokevirtual 162, 3) ∧ decode cX9_growPoints 15 = .ok (.istore 4, 2) := by decide +kernel
theorem D_X9_growPoints_1 : decode cX9_growPoints 17 = .ok (.iconst 3, 1) ∧ decode cX9_growPoints 18 = .ok (.aload_n 0, 1) ∧ decode cX9_growPoints 19 = .ok (.iconst 2, 1) ∧ decode cX9_growPoints 20 = .ok (.iload_n 3, 1) ∧ decode cX9_growPoints 21 = .ok (.imul, 1) ∧ decode cX9_growPoints 22 = .ok (.invokevirtual 162, 3) ∧ decode cX9_growPoints 25 = .ok (.imul, 1) ∧ decode cX9_growPoints 26 = .ok (.iconst 2, 1) ∧ decode cX9_growPoints 27 = .ok (.iload 4, 2) ∧ decode cX9_growPoints 29 = .ok (.imul, 1) ∧ decode cX9_growPoints 30 = .ok (.if_icmp .gt 21, 3) ∧ decode cX9_growPoints 33 = .ok (.iconst 3, 1) := by decide +kernel
theorem D_X9_growPoints_2 : decode cX9_growPoints 34 = .ok (.aload_n 0, 1) ∧ decode cX9_growPoints 35 = .ok (.iconst 2, 1) ∧ decode cX9_growPoints 36 = .ok (.iload_n 3, 1) ∧ decode cX9_growPoints 37 = .ok (.imul, 1) ∧ decode cX9_growPoints 38 = .ok (.iconst 1, 1) ∧ decode cX9_growPoints 39 = .ok (.iadd, 1) ∧ decode cX9_growPoints 40 = .ok (.invokevirtual 162, 3) ∧ decode cX9_growPoints 43 = .ok (.imul, 1) ∧ decode cX9_growPoints 44 = .ok (.iconst 2, 1) ∧ decode cX9_growPoints 45 = .ok (.iload 4, 2) ∧ decode cX9_growPoints 47 = .ok (.imul, 1) ∧ decode cX9_growPoints 48 = .ok (.if_icmp .le 7, 3) := by decide +kernel
theorem D_X9_growPoints_3 : decode cX9_growPoints 51 = .ok (.iconst 1, 1) ∧ decode cX9_growPoints 52 = .ok (.goto 4, 3) ∧ decode cX9_growPoints 55 = .ok (.iconst 0, 1) ∧ decode cX9_growPoints 56 = .ok (.istore 5, 2) ∧ decode cX9_growPoints 58 = .ok (.iload 5, 2) ∧ decode cX9_growPoints 60 = .ok (.ifCond .eq 7, 3) ∧ decode cX9_growPoints 63 = .ok (.iload_n 3, 1) ∧ decode cX9_growPoints 64 = .ok (.goto 4, 3) ∧ decode cX9_growPoints 67 = .ok (.iload_n 2, 1) ∧ decode cX9_growPoints 68 = .ok (.istore_n 2, 1) ∧ decode cX9_growPoints 69 = .ok (.iload_n 3, 1) ∧ decode cX9_growPoints 70 = .ok (.iconst 2, 1) := by decide +kernel
theorem D_X9_growPoints_4 : decode cX9_growPoints 71 = .ok (.idiv, 1) ∧ decode cX9_growPoints 72 = .ok (.istore_n 3, 1) ∧ decode cX9_growPoints 73 = .ok (.goto (-67), 3) ∧ decode cX9_growPoints 76 = .ok (.iload_n 2, 1) ∧ decode cX9_growPoints 77 = .ok (.ifCond .le 22, 3) ∧ decode cX9_growPoints 80 = .ok (.aload_n 0, 1) ∧ decode cX9_growPoints 81 = .ok (.dup, 1) ∧ decode cX9_growPoints 82 = .ok (.getfield 165, 3) ∧ decode cX9_growPoints 85 = .ok (.aload_n 0, 1) ∧ decode cX9_growPoints 86 = .ok (.iload_n 2, 1) ∧ decode cX9_growPoints 87 = .ok (.invokevirtual 162, 3) ∧ decode cX9_growPoints 90 = .ok (.iadd, 1) := by decide +kernel
theorem D_X9_growPoints_5 : decode cX9_growPoints 91 = .ok (.putfield 165, 3) ∧ decode cX9_growPoints 94 = .ok (.aload_n 0, 1) ∧ decode cX9_growPoints 95 = .ok (.iload_n 2, 1) ∧ decode cX9_growPoints 96 = .ok (.invokevirtual 168, 3) ∧ decode cX9_growPoints 99 = .ok (.return_, 1) := by decide +kernel
abbrev rm_X9_layOutPoints : Room := { frames := 2, cells := 0, slots := 0, locals := 47 }
theorem hd_X9_pointsBefore : yX9_pointsBefore.cls ≠ "java/lang/invoke/MethodHandle" ∧ yX9_pointsBefore.cls ≠ "java/lang/invoke/VarHandle" ∧ (parseMethodDescriptor yX9_pointsBefore.desc).map (fun d => d.parameters.length) = some 1 := by decide +kernel
theorem hd_X9_pointsWith : yX9_pointsWith.cls ≠ "java/lang/invoke/MethodHandle" ∧ yX9_pointsWith.cls ≠ "java/lang/invoke/VarHandle" ∧ (parseMethodDescriptor yX9_pointsWith.desc).map (fun d => d.parameters.length) = some 1 := by decide +kernel
set_option maxHeartbeats 8000000 in
set_option maxRecDepth 100000 in
theorem c_X9_layOutPoints (l : Launch) (G : xG) {K N : Nat → Nat} {I : Nat → Nat → Int32} {Q : Nat → Nat → Option Nat} {J : Nat → Nat → Int64} (m n p0 R : Nat) (ar pc ps : Nat → Nat) (OP : Nat → Nat → Bool) (PS : Nat → Nat → Nat) (hM : MZ K N Q m ar) (hn : I m 10 = nI n) (hnb : n ≤ 122) (h12 : ∀ i, i < n → I (ar 12) i = nI (pc i / 100)) (h13 : ∀ i, i < n → I (ar 13) i = nI (pc i % 100)) (hpc : ∀ i, i < n → pc i < 10000) (h15 : ∀ i, i < n → I (ar 15) i = nI (ps i) ∧ ps i < 2 ^ 26) (hp : p0 < 2 ^ 26) (hO0 : ∀ i, i < n → OP 0 i = bel (ps i) p0) (hP0 : ∀ i, i < n → PS 0 i = if OP 0 i = true then p0 else ps i) (hL : LOR n pc OP PS R) : XM l yX9_layOutPoints cX9_layOutPoints 5 none rm_X9_layOutPoints G Rv [.ref m, .int (nI p0)] (K, N, I, Q, J) (fun _ S1 => ∃ I1, S1 = (K, N, I1, Q, J) ∧ (∀ i, i < n → I1 (ar 15) i = nI (PS R i)) ∧ (∀ a, a ≠ ar 15 → a ≠ ar 16 → a ≠ ar 17 → I1 a = I a)) := by
  refine x_metv (lv := [_, _, _, _, _]) (by decide +kernel) (x_cc (by first | rfl | exact x_crf _) (x_cc (by first | rfl | exact x_crf _) x_cn)) (Nat.le_of_ble_eq_true rfl) rfl ?_
  intro pP eE sS mM aA bB hH cC Z C hini ret
  have hk9 := hM.1
  have h122 := hM.np 15 (by decide)
  obtain ⟨hL1, hL2, hL3, hL4, hL5⟩ := id hL
  have n1215 : x_ne (ar 12) (ar 15) := hM.ne 12 15 (by decide)
  have n1216 : x_ne (ar 12) (ar 16) := hM.ne 12 16 (by decide)
  have n1217 : x_ne (ar 12) (ar 17) := hM.ne 12 17 (by decide)
  have n1315 : x_ne (ar 13) (ar 15) := hM.ne 13 15 (by decide)
  have n1316 : x_ne (ar 13) (ar 16) := hM.ne 13 16 (by decide)
  have n1317 : x_ne (ar 13) (ar 17) := hM.ne 13 17 (by decide)
  have n1516 : x_ne (ar 15) (ar 16) := hM.ne 15 16 (by decide)
  have n1517 : x_ne (ar 15) (ar 17) := hM.ne 15 17 (by decide)
  have n1615 : x_ne (ar 16) (ar 15) := hM.ne 16 15 (by decide)
  have n1617 : x_ne (ar 16) (ar 17) := hM.ne 16 17 (by decide)
  have n1715 : x_ne (ar 17) (ar 15) := hM.ne 17 15 (by decide)
  have n1716 : x_ne (ar 17) (ar 16) := hM.ne 17 16 (by decide)
  have hm12 : x_ne (ar 12) m := hM.nm 12 (by decide)
  have hm13 : x_ne (ar 13) m := hM.nm 13 (by decide)
  have hm15 : x_ne (ar 15) m := hM.nm 15 (by decide)
  have hm16 : x_ne (ar 16) m := hM.nm 16 (by decide)
  have hm17 : x_ne (ar 17) m := hM.nm 17 (by decide)
  refine x_iconst C (v := nI 0) D_X9_layOutPoints_0.1 (by decide +kernel) ?_
  refine x_istore_n C (lv' := [_, _, _, _, _]) D_X9_layOutPoints_0.2.1 rfl (Nat.le_of_ble_eq_true rfl) (by first | rfl | exact x_ok_q rfl) rfl ?_
  refine x_iconst C (v := nI 0) D_X9_layOutPoints_0.2.2.1 (by decide +kernel) ?_
  refine x_istore_n C (lv' := [_, _, _, _, _]) D_X9_layOutPoints_0.2.2.2.1 rfl (Nat.le_of_ble_eq_true rfl) (by first | rfl | exact x_ok_q rfl) rfl ?_
  have L_4 : ∀ (w_4 : Nat) (k0 : Nat) (I1 : Nat → Nat → Int32) (v4 : Option Value), n - k0 < w_4 → (k0 ≤ n) → (∀ i, i < k0 → I1 (ar 16) i = xb (OP 0 i)) → (∀ i, i < k0 → I1 (ar 15) i = nI (PS 0 i)) → (∀ i, k0 ≤ i → I1 (ar 15) i = I (ar 15) i) → (∀ a, a ≠ ar 15 → a ≠ ar 16 → I1 a = I a) → XW pP l eE rm_X9_layOutPoints sS mM aA bB hH cC G Z 0 0 (K, N, I1, Q, J) 4 [some (.ref m), some (.int (nI p0)), some (.int (nI (cn (OP 0) k0))), some (.int (nI k0)), v4] [] := by
    intro w_4
    induction w_4 with
    | zero =>
      intro k0 I1 v4 hw_4
      exact absurd hw_4 (Nat.not_lt_zero _)
    | succ w_4 ih_4 =>
      intro k0 I1 v4 hw_4 hk0 hA1 hA2 hA3 hAf
      have hn1 : I1 m 10 = nI n := by rw [hAf m hm15.symm hm16.symm]; exact hn
      refine x_iload_n C D_X9_layOutPoints_0.2.2.2.2.1 rfl rfl ?_
      refine x_aload_n C D_X9_layOutPoints_0.2.2.2.2.2.1 rfl rfl (by first | exact Or.inr ⟨_, rfl⟩ | exact va_rf_or _ | exact Or.inl rfl) ?_
      refine x_getI C (ci := 8) (k0 := 10) (by assumption) (by decide) rfl (by decide) in_X9 k_912 rfl rfl D_X9_layOutPoints_0.2.2.2.2.2.2.1 ?_
      first
      | refine x_eqi _ (hn) ?_
      | refine x_eqi _ (hn1) ?_
      | refine x_eqi _ (hn2_) ?_
      | refine x_eqi _ (hn3) ?_
      | refine x_eqi _ (hs1) ?_
      | refine x_eqi _ (hb1) ?_
      | refine x_eqi _ (ho1) ?_
      | refine x_eqi _ (ho2) ?_
      | refine x_eqi _ (ho3) ?_
      | refine x_eqi _ (hp3) ?_
      | refine x_eqi _ (hx3) ?_
      | refine x_eqi _ (hu3) ?_
      | skip
      refine x_icmp_ge C 76 D_X9_layOutPoints_0.2.2.2.2.2.2.2.1 (by decide) (fun c_9 => ?_) (fun c_9 => ?_)
      · skip
        first
        | have d_9 := cv_le c_9 (by omega) (by omega)
        | skip
        obtain rfl : n = k0 := by omega
        have L_76 : ∀ (w_76 : Nat) (r : Nat) (I4 : Nat → Nat → Int32) (v3 v4 : Option Value), R - r < w_76 → (r ≤ R) → (∀ i, i < n → I4 (ar 16) i = xb (OP r i)) → (∀ i, i < n → I4 (ar 15) i = nI (PS r i)) → (∀ a, a ≠ ar 15 → a ≠ ar 16 → a ≠ ar 17 → I4 a = I a) → XW pP l eE rm_X9_layOutPoints sS mM aA bB hH cC G Z 0 0 (K, N, I4, Q, J) 76 [some (.ref m), some (.int (nI p0)), some (.int (nI (cn (OP r) n))), v3, v4] [] := by
          intro w_76
          induction w_76 with
          | zero =>
            intro r I4 v3 v4 hw_76
            exact absurd hw_76 (Nat.not_lt_zero _)
          | succ w_76 ih_76 =>
            intro r I4 v3 v4 hw_76 hr hR1 hR2 hRf
            have hn1 : I4 m 10 = nI n := by rw [hRf m hm15.symm hm16.symm hm17.symm]; exact hn
            have hcln := cn_le (OP r) n
            refine x_iload_n C D_X9_layOutPoints_3.2.2.2.2.2.2.2.2.2.2.1 rfl rfl ?_
            refine x_if_le C 249 D_X9_layOutPoints_3.2.2.2.2.2.2.2.2.2.2.2 (by decide) (fun c_77 => ?_) (fun c_77 => ?_)
            · skip
              first
              | have d_77 := cz_le c_77 (by omega)
              | skip
              refine ret _ _ _ _ _ rfl D_X9_layOutPoints_12.2.2 (Nat.le_of_ble_eq_true rfl) (Nat.le_of_ble_eq_true rfl) ?_
              refine ⟨I4, rfl, fun i hi => ?_, hRf⟩
              rw [hL.fin (R - r) r (by omega) d_77 i hi]; exact hR2 i hi
            · skip
              first
              | have d_77 := cz_nle c_77 (by omega)
              | skip
              have hrR : r < R := by
                rcases Nat.lt_or_ge r R with h | h
                · exact h
                · rw [show r = R by omega] at d_77
                  omega
              refine x_iconst C (v := nI 0) D_X9_layOutPoints_4.1 (by decide +kernel) ?_
              refine x_istore_n C (lv' := [_, _, _, _, _]) D_X9_layOutPoints_4.2.1 rfl (Nat.le_of_ble_eq_true rfl) (by first | rfl | exact x_ok_q rfl) rfl ?_
              have L_82 : ∀ (w_82 : Nat) (k0 : Nat) (I5 : Nat → Nat → Int32) (v4 : Option Value), n - k0 < w_82 → (k0 ≤ n) → (∀ i, i < k0 → OP r i = true → I5 (ar 17) i = nI (nxV n pc (OP r) (PS r) i)) → (∀ a, a ≠ ar 17 → I5 a = I4 a) → XW pP l eE rm_X9_layOutPoints sS mM aA bB hH cC G Z 0 0 (K, N, I5, Q, J) 82 [some (.ref m), some (.int (nI p0)), some (.int (nI (cn (OP r) n))), some (.int (nI k0)), v4] [] := by
                intro w_82
                induction w_82 with
                | zero =>
                  intro k0 I5 v4 hw_82
                  exact absurd hw_82 (Nat.not_lt_zero _)
                | succ w_82 ih_82 =>
                  intro k0 I5 v4 hw_82 hk0 hB1 hBf
                  have hn2_ : I5 m 10 = nI n := by rw [hBf m hm17.symm]; exact hn1
                  refine x_iload_n C D_X9_layOutPoints_4.2.2.1 rfl rfl ?_
                  refine x_aload_n C D_X9_layOutPoints_4.2.2.2.1 rfl rfl (by first | exact Or.inr ⟨_, rfl⟩ | exact va_rf_or _ | exact Or.inl rfl) ?_
                  refine x_getI C (ci := 8) (k0 := 10) (by assumption) (by decide) rfl (by decide) in_X9 k_912 rfl rfl D_X9_layOutPoints_4.2.2.2.2.1 ?_
                  first
                  | refine x_eqi _ (hn) ?_
                  | refine x_eqi _ (hn1) ?_
                  | refine x_eqi _ (hn2_) ?_
                  | refine x_eqi _ (hn3) ?_
                  | refine x_eqi _ (hs1) ?_
                  | refine x_eqi _ (hb1) ?_
                  | refine x_eqi _ (ho1) ?_
                  | refine x_eqi _ (ho2) ?_
                  | refine x_eqi _ (ho3) ?_
                  | refine x_eqi _ (hp3) ?_
                  | refine x_eqi _ (hx3) ?_
                  | refine x_eqi _ (hu3) ?_
                  | skip
                  refine x_icmp_ge C 154 D_X9_layOutPoints_4.2.2.2.2.2.1 (by decide) (fun c_87 => ?_) (fun c_87 => ?_)
                  · skip
                    first
                    | have d_87 := cv_le c_87 (by omega) (by omega)
                    | skip
                    obtain rfl : n = k0 := by omega
                    refine x_iconst C (v := nI 0) D_X9_layOutPoints_7.2.2.2.2.2.2.2.1 (by decide +kernel) ?_
                    refine x_istore_n C (lv' := [_, _, _, _, _]) D_X9_layOutPoints_7.2.2.2.2.2.2.2.2.1 rfl (Nat.le_of_ble_eq_true rfl) (by first | rfl | exact x_ok_q rfl) rfl ?_
                    have L_156 : ∀ (w_156 : Nat) (k0 : Nat) (I7 : Nat → Nat → Int32), n - k0 < w_156 → (k0 ≤ n) → (∀ i, i < k0 → I7 (ar 16) i = xb (OP (r + 1) i)) → (∀ i, k0 ≤ i → i < n → I7 (ar 16) i = xb (OP r i)) → (∀ i, i < k0 → I7 (ar 15) i = nI (PS (r + 1) i)) → (∀ i, k0 ≤ i → i < n → I7 (ar 15) i = nI (PS r i)) → (∀ i, i < n → OP r i = true → I7 (ar 17) i = nI (nxV n pc (OP r) (PS r) i)) → (∀ a, a ≠ ar 15 → a ≠ ar 16 → a ≠ ar 17 → I7 a = I a) → XW pP l eE rm_X9_layOutPoints sS mM aA bB hH cC G Z 0 0 (K, N, I7, Q, J) 156 [some (.ref m), some (.int (nI p0)), some (.int (nI (cn (OP r) n - cn (OP r) k0 + cn (OP (r + 1)) k0))), some (.int (nI k0)), v4] [] := by
                      intro w_156
                      induction w_156 with
                      | zero =>
                        intro k0 I7 hw_156
                        exact absurd hw_156 (Nat.not_lt_zero _)
                      | succ w_156 ih_156 =>
                        intro k0 I7 hw_156 hk0 hC1 hC2 hC3 hC4 hC5 hCf
                        have hn3 : I7 m 10 = nI n := by rw [hCf m hm15.symm hm16.symm hm17.symm]; exact hn
                        refine x_iload_n C D_X9_layOutPoints_7.2.2.2.2.2.2.2.2.2.1 rfl rfl ?_
                        refine x_aload_n C D_X9_layOutPoints_7.2.2.2.2.2.2.2.2.2.2.1 rfl rfl (by first | exact Or.inr ⟨_, rfl⟩ | exact va_rf_or _ | exact Or.inl rfl) ?_
                        refine x_getI C (ci := 8) (k0 := 10) (by assumption) (by decide) rfl (by decide) in_X9 k_912 rfl rfl D_X9_layOutPoints_7.2.2.2.2.2.2.2.2.2.2.2 ?_
                        first
                        | refine x_eqi _ (hn) ?_
                        | refine x_eqi _ (hn1) ?_
                        | refine x_eqi _ (hn2_) ?_
                        | refine x_eqi _ (hn3) ?_
                        | refine x_eqi _ (hs1) ?_
                        | refine x_eqi _ (hb1) ?_
                        | refine x_eqi _ (ho1) ?_
                        | refine x_eqi _ (ho2) ?_
                        | refine x_eqi _ (ho3) ?_
                        | refine x_eqi _ (hp3) ?_
                        | refine x_eqi _ (hx3) ?_
                        | refine x_eqi _ (hu3) ?_
                        | skip
                        refine x_icmp_ge C 246 D_X9_layOutPoints_8.1 (by decide) (fun c_161 => ?_) (fun c_161 => ?_)
                        · skip
                          first
                          | have d_161 := cv_le c_161 (by omega) (by omega)
                          | skip
                          obtain rfl : n = k0 := by omega
                          refine x_goto C 76 D_X9_layOutPoints_12.2.1 (by decide) ?_
                          refine x_lv (lv := [_, _, some (.int (nI (cn (OP (r + 1)) n))), _, _]) (by rw [Nat.sub_self, Nat.zero_add]) ?_
                          exact ih_76 (r + 1) I7 _ _ (by omega) (by omega) hC1 hC3 hCf
                        · skip
                          first
                          | have d_161 := cv_nle c_161 (by omega) (by omega)
                          | skip
                          have ho2 : I7 (ar 16) k0 = xb (OP r k0) := hC2 k0 (Nat.le_refl _) (by omega)
                          have hu3 : I7 (ar 15) k0 = nI (PS r k0) := hC4 k0 (Nat.le_refl _) (by omega)
                          have hm1 := cn_mono (OP r) (n := n) (k := k0 + 1) (by omega)
                          have hl1 := cn_le (OP r) n
                          have hl2 := cn_le (OP (r + 1)) k0
                          refine x_aload_n C D_X9_layOutPoints_8.2.1 rfl rfl (by first | exact Or.inr ⟨_, rfl⟩ | exact va_rf_or _ | exact Or.inl rfl) ?_
                          refine x_getQ C (ci := 8) (k0 := 16) (by assumption) (by decide) rfl (by decide) in_X9 k_918 rfl rfl D_X9_layOutPoints_8.2.2.1 ?_
                          refine x_eqr (hM.2.1 16 (by decide)).1 ?_
                          refine x_iload_n C D_X9_layOutPoints_8.2.2.2.1 rfl rfl ?_
                          refine x_zald C _ (by first | assumption | exact (hM.2.1 _ (by decide)).2.1) rfl (by first | omega | (rw [hM.nk _ (by decide)]; omega) | (rw [hM.np _ (by decide)]; omega)) (by first | omega | (rw [hM.nk _ (by decide)]; omega) | (rw [hM.np _ (by decide)]; omega)) D_X9_layOutPoints_8.2.2.2.2.1 ?_
                          first
                          | refine x_eqi _ (hn) ?_
                          | refine x_eqi _ (hn1) ?_
                          | refine x_eqi _ (hn2_) ?_
                          | refine x_eqi _ (hn3) ?_
                          | refine x_eqi _ (hs1) ?_
                          | refine x_eqi _ (hb1) ?_
                          | refine x_eqi _ (ho1) ?_
                          | refine x_eqi _ (ho2) ?_
                          | refine x_eqi _ (ho3) ?_
                          | refine x_eqi _ (hp3) ?_
                          | refine x_eqi _ (hx3) ?_
                          | refine x_eqi _ (hu3) ?_
                          | skip
                          refine x_if_eq C 240 D_X9_layOutPoints_8.2.2.2.2.2.1 (by decide) (fun c_170 => ?_) (fun c_170 => ?_)
                          · skip
                            first
                            | have d_170 := cz_eq c_170 (by omega)
                            | have d_170 := cb_eq c_170
                            | skip
                            have hof : OP (r + 1) k0 = false := by
                              cases e : OP (r + 1) k0 with
                              | false => rfl
                              | true =>
                                have h9 := hL3 r k0 hrR (by omega) e
                                rw [d_170] at h9; cases h9
                            have hs : cn (OP r) n - cn (OP r) (k0 + 1) + cn (OP (r + 1)) (k0 + 1) = cn (OP r) n - cn (OP r) k0 + cn (OP (r + 1)) k0 := by simp [cn, d_170, hof]
                            first
                            | refine x_iinc C (lv' := [_, _, _, _, _]) D_X9_layOutPoints_11.2.2.2.2.2.2.2.2.2.2.2 rfl (x_incN_1 _) (by first | rfl | exact x_ok_q rfl) rfl ?_
                            | refine x_iinc C (lv' := [_, _, _, _, _]) D_X9_layOutPoints_11.2.2.2.2.2.2.2.2.2.2.2 rfl (x_inc_1 _) (by first | rfl | exact x_ok_q rfl) rfl ?_
                            refine x_goto C 156 D_X9_layOutPoints_12.1 (by decide) ?_
                            rw [← hs]
                            refine ih_156 (k0 + 1) I7 (by omega) (by omega) (fun i hi => ?_) (fun i h1 h2 => hC2 i (by omega) h2) (fun i hi => ?_) (fun i h1 h2 => hC4 i (by omega) h2) hC5 hCf
                            · by_cases e : i = k0
                              · subst e; rw [ho2, d_170, hof]
                              · exact hC1 i (by omega)
                            · by_cases e : i = k0
                              · subst e; rw [hu3, hL4 r i hrR (by omega) hof]
                              · exact hC3 i (by omega)
                          · skip
                            first
                            | have d_170 := cz_ne c_170 (by omega)
                            | have d_170 := cb_ne c_170
                            | skip
                            have hx3 : I7 (ar 17) k0 = nI (nxV n pc (OP r) (PS r) k0) := hC5 k0 (by omega) d_170
                            have hN := hL2 r k0 hrR (by omega) d_170
                            have hpb := hL1 (r + 1) k0 (by omega) (by omega)
                            have hnb2 : nxV n pc (OP r) (PS r) k0 < 2 ^ 26 := by rw [hN]; split <;> omega
                            simp only [cn, d_170, if_true] at hm1
                            refine x_aload_n C D_X9_layOutPoints_8.2.2.2.2.2.2.1 rfl rfl (by first | exact Or.inr ⟨_, rfl⟩ | exact va_rf_or _ | exact Or.inl rfl) ?_
                            refine x_getQ C (ci := 8) (k0 := 16) (by assumption) (by decide) rfl (by decide) in_X9 k_918 rfl rfl D_X9_layOutPoints_8.2.2.2.2.2.2.2.1 ?_
                            refine x_eqr (hM.2.1 16 (by decide)).1 ?_
                            refine x_iload_n C D_X9_layOutPoints_8.2.2.2.2.2.2.2.2.1 rfl rfl ?_
                            refine x_aload_n C D_X9_layOutPoints_8.2.2.2.2.2.2.2.2.2.1 rfl rfl (by first | exact Or.inr ⟨_, rfl⟩ | exact va_rf_or _ | exact Or.inl rfl) ?_
                            refine x_getQ C (ci := 8) (k0 := 17) (by assumption) (by decide) rfl (by decide) in_X9 k_919 rfl rfl D_X9_layOutPoints_8.2.2.2.2.2.2.2.2.2.2.1 ?_
                            refine x_eqr (hM.2.1 17 (by decide)).1 ?_
                            refine x_iload_n C D_X9_layOutPoints_8.2.2.2.2.2.2.2.2.2.2.2 rfl rfl ?_
                            refine x_iald C _ (by first | assumption | exact (hM.2.1 _ (by decide)).2.1) rfl (by first | omega | (rw [hM.nk _ (by decide)]; omega) | (rw [hM.np _ (by decide)]; omega)) (by first | omega | (rw [hM.nk _ (by decide)]; omega) | (rw [hM.np _ (by decide)]; omega)) D_X9_layOutPoints_9.1 ?_
                            first
                            | refine x_eqi _ (hn) ?_
                            | refine x_eqi _ (hn1) ?_
                            | refine x_eqi _ (hn2_) ?_
                            | refine x_eqi _ (hn3) ?_
                            | refine x_eqi _ (hs1) ?_
                            | refine x_eqi _ (hb1) ?_
                            | refine x_eqi _ (ho1) ?_
                            | refine x_eqi _ (ho2) ?_
                            | refine x_eqi _ (ho3) ?_
                            | refine x_eqi _ (hp3) ?_
                            | refine x_eqi _ (hx3) ?_
                            | refine x_eqi _ (hu3) ?_
                            | skip
                            refine x_if_eq C 191 D_X9_layOutPoints_9.2.1 (by decide) (fun c_184 => ?_) (fun c_184 => ?_)
                            · skip
                              first
                              | have d_184 := cz_eq c_184 (by omega)
                              | have d_184 := cb_eq c_184
                              | skip
                              have hof : OP (r + 1) k0 = false := by
                                cases e : OP (r + 1) k0 with
                                | false => rfl
                                | true => rw [hN, e, if_pos rfl] at d_184; omega
                              have hs : cn (OP r) n - cn (OP r) (k0 + 1) + cn (OP (r + 1)) (k0 + 1) = cn (OP r) n - cn (OP r) k0 + cn (OP (r + 1)) k0 - 1 := by simp only [cn, d_170, hof, if_true, Bool.false_eq_true, if_false]; omega
                              refine x_iconst C (v := nI 0) D_X9_layOutPoints_9.2.2.2.2.1 (by decide +kernel) ?_
                              refine x_zast C _ false rfl (by first | assumption | exact (hM.2.1 _ (by decide)).2.1) rfl (by first | omega | (rw [hM.nk _ (by decide)]; omega) | (rw [hM.np _ (by decide)]; omega)) (by first | omega | (rw [hM.nk _ (by decide)]; omega) | (rw [hM.np _ (by decide)]; omega)) D_X9_layOutPoints_9.2.2.2.2.2.1 (fun I8 eI8 => ?_)
                              have ho3 : I8 (ar 16) k0 = xb false := by rw [eI8, x_u2_s]; rfl
                              have hu3 : I8 (ar 15) k0 = nI (PS r k0) := by rw [eI8, x_u2_a _ _ n1516]; exact hu3
                              refine x_aload_n C D_X9_layOutPoints_9.2.2.2.2.2.2.1 rfl rfl (by first | exact Or.inr ⟨_, rfl⟩ | exact va_rf_or _ | exact Or.inl rfl) ?_
                              refine x_getQ C (ci := 8) (k0 := 15) (by assumption) (by decide) rfl (by decide) in_X9 k_917 rfl rfl D_X9_layOutPoints_9.2.2.2.2.2.2.2.1 ?_
                              refine x_eqr (hM.2.1 15 (by decide)).1 ?_
                              refine x_iload_n C D_X9_layOutPoints_9.2.2.2.2.2.2.2.2.1 rfl rfl ?_
                              refine x_aload_n C D_X9_layOutPoints_9.2.2.2.2.2.2.2.2.2.1 rfl rfl (by first | exact Or.inr ⟨_, rfl⟩ | exact va_rf_or _ | exact Or.inl rfl) ?_
                              refine x_getQ C (ci := 8) (k0 := 16) (by assumption) (by decide) rfl (by decide) in_X9 k_918 rfl rfl D_X9_layOutPoints_9.2.2.2.2.2.2.2.2.2.2.1 ?_
                              refine x_eqr (hM.2.1 16 (by decide)).1 ?_
                              refine x_iload_n C D_X9_layOutPoints_9.2.2.2.2.2.2.2.2.2.2.2 rfl rfl ?_
                              refine x_zald C _ (by first | assumption | exact (hM.2.1 _ (by decide)).2.1) rfl (by first | omega | (rw [hM.nk _ (by decide)]; omega) | (rw [hM.np _ (by decide)]; omega)) (by first | omega | (rw [hM.nk _ (by decide)]; omega) | (rw [hM.np _ (by decide)]; omega)) D_X9_layOutPoints_10.1 ?_
                              first
                              | refine x_eqi _ (hn) ?_
                              | refine x_eqi _ (hn1) ?_
                              | refine x_eqi _ (hn2_) ?_
                              | refine x_eqi _ (hn3) ?_
                              | refine x_eqi _ (hs1) ?_
                              | refine x_eqi _ (hb1) ?_
                              | refine x_eqi _ (ho1) ?_
                              | refine x_eqi _ (ho2) ?_
                              | refine x_eqi _ (ho3) ?_
                              | refine x_eqi _ (hp3) ?_
                              | refine x_eqi _ (hx3) ?_
                              | refine x_eqi _ (hu3) ?_
                              | skip
                              refine x_if_eq C 216 D_X9_layOutPoints_10.2.1 (by decide) (fun c_204 => ?_) (fun c_204 => ?_)
                              · skip
                                first
                                | have d_204 := cz_eq c_204 (by omega)
                                | have d_204 := cb_eq c_204
                                | skip
                                refine x_aload_n C D_X9_layOutPoints_10.2.2.2.2.2.2.2.1 rfl rfl (by first | exact Or.inr ⟨_, rfl⟩ | exact va_rf_or _ | exact Or.inl rfl) ?_
                                refine x_getQ C (ci := 8) (k0 := 15) (by assumption) (by decide) rfl (by decide) in_X9 k_917 rfl rfl D_X9_layOutPoints_10.2.2.2.2.2.2.2.2.1 ?_
                                refine x_eqr (hM.2.1 15 (by decide)).1 ?_
                                refine x_iload_n C D_X9_layOutPoints_10.2.2.2.2.2.2.2.2.2.1 rfl rfl ?_
                                refine x_iald C _ (by first | assumption | exact (hM.2.1 _ (by decide)).2.1) rfl (by first | omega | (rw [hM.nk _ (by decide)]; omega) | (rw [hM.np _ (by decide)]; omega)) (by first | omega | (rw [hM.nk _ (by decide)]; omega) | (rw [hM.np _ (by decide)]; omega)) D_X9_layOutPoints_10.2.2.2.2.2.2.2.2.2.2.1 ?_
                                first
                                | refine x_eqi _ (hn) ?_
                                | refine x_eqi _ (hn1) ?_
                                | refine x_eqi _ (hn2_) ?_
                                | refine x_eqi _ (hn3) ?_
                                | refine x_eqi _ (hs1) ?_
                                | refine x_eqi _ (hb1) ?_
                                | refine x_eqi _ (ho1) ?_
                                | refine x_eqi _ (ho2) ?_
                                | refine x_eqi _ (ho3) ?_
                                | refine x_eqi _ (hp3) ?_
                                | refine x_eqi _ (hx3) ?_
                                | refine x_eqi _ (hu3) ?_
                                | skip
                                refine x_iast C _ (by first | assumption | exact (hM.2.1 _ (by decide)).2.1) rfl (by first | omega | (rw [hM.nk _ (by decide)]; omega) | (rw [hM.np _ (by decide)]; omega)) (by first | omega | (rw [hM.nk _ (by decide)]; omega) | (rw [hM.np _ (by decide)]; omega)) D_X9_layOutPoints_10.2.2.2.2.2.2.2.2.2.2.2 (fun I9 eI9 => ?_)
                                have ho3 : I9 (ar 16) k0 = xb false := by rw [eI9, x_u2_a _ _ n1615]; exact ho3
                                refine x_iload_n C D_X9_layOutPoints_11.1 rfl rfl ?_
                                refine x_aload_n C D_X9_layOutPoints_11.2.1 rfl rfl (by first | exact Or.inr ⟨_, rfl⟩ | exact va_rf_or _ | exact Or.inl rfl) ?_
                                refine x_getQ C (ci := 8) (k0 := 16) (by assumption) (by decide) rfl (by decide) in_X9 k_918 rfl rfl D_X9_layOutPoints_11.2.2.1 ?_
                                refine x_eqr (hM.2.1 16 (by decide)).1 ?_
                                refine x_iload_n C D_X9_layOutPoints_11.2.2.2.1 rfl rfl ?_
                                refine x_zald C _ (by first | assumption | exact (hM.2.1 _ (by decide)).2.1) rfl (by first | omega | (rw [hM.nk _ (by decide)]; omega) | (rw [hM.np _ (by decide)]; omega)) (by first | omega | (rw [hM.nk _ (by decide)]; omega) | (rw [hM.np _ (by decide)]; omega)) D_X9_layOutPoints_11.2.2.2.2.1 ?_
                                first
                                | refine x_eqi _ (hn) ?_
                                | refine x_eqi _ (hn1) ?_
                                | refine x_eqi _ (hn2_) ?_
                                | refine x_eqi _ (hn3) ?_
                                | refine x_eqi _ (hs1) ?_
                                | refine x_eqi _ (hb1) ?_
                                | refine x_eqi _ (ho1) ?_
                                | refine x_eqi _ (ho2) ?_
                                | refine x_eqi _ (ho3) ?_
                                | refine x_eqi _ (hp3) ?_
                                | refine x_eqi _ (hx3) ?_
                                | refine x_eqi _ (hu3) ?_
                                | skip
                                refine x_if_eq C 237 D_X9_layOutPoints_11.2.2.2.2.2.1 (by decide) (fun c_230 => ?_) (fun c_230 => ?_)
                                · skip
                                  first
                                  | have d_230 := cz_eq c_230 (by omega)
                                  | have d_230 := cb_eq c_230
                                  | skip
                                  refine x_iconst C (v := nI 1) D_X9_layOutPoints_11.2.2.2.2.2.2.2.2.1 (by decide +kernel) ?_
                                  refine x_isub C D_X9_layOutPoints_11.2.2.2.2.2.2.2.2.2.1 ?_
                                  first
                                  | refine x_eqi _ (pk_sub (by omega)) ?_
                                  | skip
                                  refine x_istore_n C (lv' := [_, _, _, _, _]) D_X9_layOutPoints_11.2.2.2.2.2.2.2.2.2.2.1 rfl (Nat.le_of_ble_eq_true rfl) (by first | rfl | exact x_ok_q rfl) rfl ?_
                                  first
                                  | refine x_iinc C (lv' := [_, _, _, _, _]) D_X9_layOutPoints_11.2.2.2.2.2.2.2.2.2.2.2 rfl (x_incN_1 _) (by first | rfl | exact x_ok_q rfl) rfl ?_
                                  | refine x_iinc C (lv' := [_, _, _, _, _]) D_X9_layOutPoints_11.2.2.2.2.2.2.2.2.2.2.2 rfl (x_inc_1 _) (by first | rfl | exact x_ok_q rfl) rfl ?_
                                  refine x_goto C 156 D_X9_layOutPoints_12.1 (by decide) ?_
                                  rw [← hs]
                                  refine ih_156 (k0 + 1) I9 (by omega) (by omega) (fun i hi => ?_) (fun i h1 h2 => ?_) (fun i hi => ?_) (fun i h1 h2 => ?_) (fun i h1 h2 => ?_) (fun a h1 h2 h3 => by rw [eI9, x_u2_a _ _ h1, eI8, x_u2_a _ _ h2]; exact hCf a h1 h2 h3)
                                  · rw [eI9, x_u2_a _ _ n1615, eI8]
                                    by_cases e : i = k0
                                    · subst e; rw [x_u2_s, hof]; rfl
                                    · rw [x_u2_j _ _ e]; exact hC1 i (by omega)
                                  · rw [eI9, x_u2_a _ _ n1615, eI8, x_u2_j _ _ (by omega)]; exact hC2 i (by omega) h2
                                  · rw [eI9]
                                    by_cases e : i = k0
                                    · subst e; rw [x_u2_s, hL4 r i hrR (by omega) hof]
                                    · rw [x_u2_j _ _ e, eI8, x_u2_a _ _ n1516]; exact hC3 i (by omega)
                                  · rw [eI9, x_u2_j _ _ (by omega), eI8, x_u2_a _ _ n1516]; exact hC4 i (by omega) h2
                                  · rw [eI9, x_u2_a _ _ n1715, eI8, x_u2_a _ _ n1716]; exact hC5 i h1 h2
                                · skip
                                  exact absurd c_230 (by decide)
                              · skip
                                exact absurd c_204 (by decide)
                            · skip
                              first
                              | have d_184 := cz_ne c_184 (by omega)
                              | have d_184 := cb_ne c_184
                              | skip
                              have hof : OP (r + 1) k0 = true := by
                                cases e : OP (r + 1) k0 with
                                | true => rfl
                                | false => rw [hN, e, if_neg (by decide)] at d_184; omega
                              have hs : cn (OP r) n - cn (OP r) (k0 + 1) + cn (OP (r + 1)) (k0 + 1) = cn (OP r) n - cn (OP r) k0 + cn (OP (r + 1)) k0 - 0 := by simp only [cn, d_170, hof, if_true]; omega
                              refine x_iconst C (v := nI 1) D_X9_layOutPoints_9.2.2.1 (by decide +kernel) ?_
                              refine x_goto C 192 D_X9_layOutPoints_9.2.2.2.1 (by decide) ?_
                              refine x_zast C _ true rfl (by first | assumption | exact (hM.2.1 _ (by decide)).2.1) rfl (by first | omega | (rw [hM.nk _ (by decide)]; omega) | (rw [hM.np _ (by decide)]; omega)) (by first | omega | (rw [hM.nk _ (by decide)]; omega) | (rw [hM.np _ (by decide)]; omega)) D_X9_layOutPoints_9.2.2.2.2.2.1 (fun I8 eI8 => ?_)
                              have ho3 : I8 (ar 16) k0 = xb true := by rw [eI8, x_u2_s]; rfl
                              have hx3 : I8 (ar 17) k0 = nI (nxV n pc (OP r) (PS r) k0) := by rw [eI8, x_u2_a _ _ n1716]; exact hx3
                              refine x_aload_n C D_X9_layOutPoints_9.2.2.2.2.2.2.1 rfl rfl (by first | exact Or.inr ⟨_, rfl⟩ | exact va_rf_or _ | exact Or.inl rfl) ?_
                              refine x_getQ C (ci := 8) (k0 := 15) (by assumption) (by decide) rfl (by decide) in_X9 k_917 rfl rfl D_X9_layOutPoints_9.2.2.2.2.2.2.2.1 ?_
                              refine x_eqr (hM.2.1 15 (by decide)).1 ?_
                              refine x_iload_n C D_X9_layOutPoints_9.2.2.2.2.2.2.2.2.1 rfl rfl ?_
                              refine x_aload_n C D_X9_layOutPoints_9.2.2.2.2.2.2.2.2.2.1 rfl rfl (by first | exact Or.inr ⟨_, rfl⟩ | exact va_rf_or _ | exact Or.inl rfl) ?_
                              refine x_getQ C (ci := 8) (k0 := 16) (by assumption) (by decide) rfl (by decide) in_X9 k_918 rfl rfl D_X9_layOutPoints_9.2.2.2.2.2.2.2.2.2.2.1 ?_
                              refine x_eqr (hM.2.1 16 (by decide)).1 ?_
                              refine x_iload_n C D_X9_layOutPoints_9.2.2.2.2.2.2.2.2.2.2.2 rfl rfl ?_
                              refine x_zald C _ (by first | assumption | exact (hM.2.1 _ (by decide)).2.1) rfl (by first | omega | (rw [hM.nk _ (by decide)]; omega) | (rw [hM.np _ (by decide)]; omega)) (by first | omega | (rw [hM.nk _ (by decide)]; omega) | (rw [hM.np _ (by decide)]; omega)) D_X9_layOutPoints_10.1 ?_
                              first
                              | refine x_eqi _ (hn) ?_
                              | refine x_eqi _ (hn1) ?_
                              | refine x_eqi _ (hn2_) ?_
                              | refine x_eqi _ (hn3) ?_
                              | refine x_eqi _ (hs1) ?_
                              | refine x_eqi _ (hb1) ?_
                              | refine x_eqi _ (ho1) ?_
                              | refine x_eqi _ (ho2) ?_
                              | refine x_eqi _ (ho3) ?_
                              | refine x_eqi _ (hp3) ?_
                              | refine x_eqi _ (hx3) ?_
                              | refine x_eqi _ (hu3) ?_
                              | skip
                              refine x_if_eq C 216 D_X9_layOutPoints_10.2.1 (by decide) (fun c_204 => ?_) (fun c_204 => ?_)
                              · skip
                                exact absurd c_204 (by decide)
                              · skip
                                first
                                | have d_204 := cz_ne c_204 (by omega)
                                | have d_204 := cb_ne c_204
                                | skip
                                refine x_aload_n C D_X9_layOutPoints_10.2.2.1 rfl rfl (by first | exact Or.inr ⟨_, rfl⟩ | exact va_rf_or _ | exact Or.inl rfl) ?_
                                refine x_getQ C (ci := 8) (k0 := 17) (by assumption) (by decide) rfl (by decide) in_X9 k_919 rfl rfl D_X9_layOutPoints_10.2.2.2.1 ?_
                                refine x_eqr (hM.2.1 17 (by decide)).1 ?_
                                refine x_iload_n C D_X9_layOutPoints_10.2.2.2.2.1 rfl rfl ?_
                                refine x_iald C _ (by first | assumption | exact (hM.2.1 _ (by decide)).2.1) rfl (by first | omega | (rw [hM.nk _ (by decide)]; omega) | (rw [hM.np _ (by decide)]; omega)) (by first | omega | (rw [hM.nk _ (by decide)]; omega) | (rw [hM.np _ (by decide)]; omega)) D_X9_layOutPoints_10.2.2.2.2.2.1 ?_
                                first
                                | refine x_eqi _ (hn) ?_
                                | refine x_eqi _ (hn1) ?_
                                | refine x_eqi _ (hn2_) ?_
                                | refine x_eqi _ (hn3) ?_
                                | refine x_eqi _ (hs1) ?_
                                | refine x_eqi _ (hb1) ?_
                                | refine x_eqi _ (ho1) ?_
                                | refine x_eqi _ (ho2) ?_
                                | refine x_eqi _ (ho3) ?_
                                | refine x_eqi _ (hp3) ?_
                                | refine x_eqi _ (hx3) ?_
                                | refine x_eqi _ (hu3) ?_
                                | skip
                                refine x_goto C 222 D_X9_layOutPoints_10.2.2.2.2.2.2.1 (by decide) ?_
                                refine x_iast C _ (by first | assumption | exact (hM.2.1 _ (by decide)).2.1) rfl (by first | omega | (rw [hM.nk _ (by decide)]; omega) | (rw [hM.np _ (by decide)]; omega)) (by first | omega | (rw [hM.nk _ (by decide)]; omega) | (rw [hM.np _ (by decide)]; omega)) D_X9_layOutPoints_10.2.2.2.2.2.2.2.2.2.2.2 (fun I9 eI9 => ?_)
                                have ho3 : I9 (ar 16) k0 = xb true := by rw [eI9, x_u2_a _ _ n1615]; exact ho3
                                refine x_iload_n C D_X9_layOutPoints_11.1 rfl rfl ?_
                                refine x_aload_n C D_X9_layOutPoints_11.2.1 rfl rfl (by first | exact Or.inr ⟨_, rfl⟩ | exact va_rf_or _ | exact Or.inl rfl) ?_
                                refine x_getQ C (ci := 8) (k0 := 16) (by assumption) (by decide) rfl (by decide) in_X9 k_918 rfl rfl D_X9_layOutPoints_11.2.2.1 ?_
                                refine x_eqr (hM.2.1 16 (by decide)).1 ?_
                                refine x_iload_n C D_X9_layOutPoints_11.2.2.2.1 rfl rfl ?_
                                refine x_zald C _ (by first | assumption | exact (hM.2.1 _ (by decide)).2.1) rfl (by first | omega | (rw [hM.nk _ (by decide)]; omega) | (rw [hM.np _ (by decide)]; omega)) (by first | omega | (rw [hM.nk _ (by decide)]; omega) | (rw [hM.np _ (by decide)]; omega)) D_X9_layOutPoints_11.2.2.2.2.1 ?_
                                first
                                | refine x_eqi _ (hn) ?_
                                | refine x_eqi _ (hn1) ?_
                                | refine x_eqi _ (hn2_) ?_
                                | refine x_eqi _ (hn3) ?_
                                | refine x_eqi _ (hs1) ?_
                                | refine x_eqi _ (hb1) ?_
                                | refine x_eqi _ (ho1) ?_
                                | refine x_eqi _ (ho2) ?_
                                | refine x_eqi _ (ho3) ?_
                                | refine x_eqi _ (hp3) ?_
                                | refine x_eqi _ (hx3) ?_
                                | refine x_eqi _ (hu3) ?_
                                | skip
                                refine x_if_eq C 237 D_X9_layOutPoints_11.2.2.2.2.2.1 (by decide) (fun c_230 => ?_) (fun c_230 => ?_)
                                · skip
                                  exact absurd c_230 (by decide)
                                · skip
                                  first
                                  | have d_230 := cz_ne c_230 (by omega)
                                  | have d_230 := cb_ne c_230
                                  | skip
                                  refine x_iconst C (v := nI 0) D_X9_layOutPoints_11.2.2.2.2.2.2.1 (by decide +kernel) ?_
                                  refine x_goto C 238 D_X9_layOutPoints_11.2.2.2.2.2.2.2.1 (by decide) ?_
                                  refine x_isub C D_X9_layOutPoints_11.2.2.2.2.2.2.2.2.2.1 ?_
                                  first
                                  | refine x_eqi _ (pk_sub (by omega)) ?_
                                  | skip
                                  refine x_istore_n C (lv' := [_, _, _, _, _]) D_X9_layOutPoints_11.2.2.2.2.2.2.2.2.2.2.1 rfl (Nat.le_of_ble_eq_true rfl) (by first | rfl | exact x_ok_q rfl) rfl ?_
                                  first
                                  | refine x_iinc C (lv' := [_, _, _, _, _]) D_X9_layOutPoints_11.2.2.2.2.2.2.2.2.2.2.2 rfl (x_incN_1 _) (by first | rfl | exact x_ok_q rfl) rfl ?_
                                  | refine x_iinc C (lv' := [_, _, _, _, _]) D_X9_layOutPoints_11.2.2.2.2.2.2.2.2.2.2.2 rfl (x_inc_1 _) (by first | rfl | exact x_ok_q rfl) rfl ?_
                                  refine x_goto C 156 D_X9_layOutPoints_12.1 (by decide) ?_
                                  rw [← hs]
                                  refine ih_156 (k0 + 1) I9 (by omega) (by omega) (fun i hi => ?_) (fun i h1 h2 => ?_) (fun i hi => ?_) (fun i h1 h2 => ?_) (fun i h1 h2 => ?_) (fun a h1 h2 h3 => by rw [eI9, x_u2_a _ _ h1, eI8, x_u2_a _ _ h2]; exact hCf a h1 h2 h3)
                                  · rw [eI9, x_u2_a _ _ n1615, eI8]
                                    by_cases e : i = k0
                                    · subst e; rw [x_u2_s, hof]; rfl
                                    · rw [x_u2_j _ _ e]; exact hC1 i (by omega)
                                  · rw [eI9, x_u2_a _ _ n1615, eI8, x_u2_j _ _ (by omega)]; exact hC2 i (by omega) h2
                                  · rw [eI9]
                                    by_cases e : i = k0
                                    · subst e; rw [x_u2_s, hN, hof, if_pos rfl]
                                    · rw [x_u2_j _ _ e, eI8, x_u2_a _ _ n1516]; exact hC3 i (by omega)
                                  · rw [eI9, x_u2_j _ _ (by omega), eI8, x_u2_a _ _ n1516]; exact hC4 i (by omega) h2
                                  · rw [eI9, x_u2_a _ _ n1715, eI8, x_u2_a _ _ n1716]; exact hC5 i h1 h2
                    refine x_lv (lv := [_, _, some (.int (nI (cn (OP r) n - cn (OP r) 0 + cn (OP (r + 1)) 0))), _, _]) (by rw [show cn (OP r) n - cn (OP r) 0 + cn (OP (r + 1)) 0 = cn (OP r) n from rfl]) ?_
                    exact L_156 _ 0 I5 (Nat.lt_succ_self _) (Nat.zero_le _) (fun i hi => by omega) (fun i _ hi => by rw [hBf _ n1617]; exact hR1 i hi) (fun i hi => by omega) (fun i _ hi => by rw [hBf _ n1517]; exact hR2 i hi) hB1 (fun a h1 h2 h3 => by rw [hBf a h3]; exact hRf a h1 h2 h3)
                  · skip
                    first
                    | have d_87 := cv_nle c_87 (by omega) (by omega)
                    | skip
                    have ho1 : I5 (ar 16) k0 = xb (OP r k0) := by rw [hBf _ n1617]; exact hR1 k0 (by omega)
                    have hp3 : I5 (ar 15) k0 = nI (PS r k0) := by rw [hBf _ n1517]; exact hR2 k0 (by omega)
                    have hpb := hL1 r k0 (by omega) (by omega)
                    refine x_aload_n C D_X9_layOutPoints_4.2.2.2.2.2.2.1 rfl rfl (by first | exact Or.inr ⟨_, rfl⟩ | exact va_rf_or _ | exact Or.inl rfl) ?_
                    refine x_getQ C (ci := 8) (k0 := 16) (by assumption) (by decide) rfl (by decide) in_X9 k_918 rfl rfl D_X9_layOutPoints_4.2.2.2.2.2.2.2.1 ?_
                    refine x_eqr (hM.2.1 16 (by decide)).1 ?_
                    refine x_iload_n C D_X9_layOutPoints_4.2.2.2.2.2.2.2.2.1 rfl rfl ?_
                    refine x_zald C _ (by first | assumption | exact (hM.2.1 _ (by decide)).2.1) rfl (by first | omega | (rw [hM.nk _ (by decide)]; omega) | (rw [hM.np _ (by decide)]; omega)) (by first | omega | (rw [hM.nk _ (by decide)]; omega) | (rw [hM.np _ (by decide)]; omega)) D_X9_layOutPoints_4.2.2.2.2.2.2.2.2.2.1 ?_
                    first
                    | refine x_eqi _ (hn) ?_
                    | refine x_eqi _ (hn1) ?_
                    | refine x_eqi _ (hn2_) ?_
                    | refine x_eqi _ (hn3) ?_
                    | refine x_eqi _ (hs1) ?_
                    | refine x_eqi _ (hb1) ?_
                    | refine x_eqi _ (ho1) ?_
                    | refine x_eqi _ (ho2) ?_
                    | refine x_eqi _ (ho3) ?_
                    | refine x_eqi _ (hp3) ?_
                    | refine x_eqi _ (hx3) ?_
                    | refine x_eqi _ (hu3) ?_
                    | skip
                    refine x_if_eq C 148 D_X9_layOutPoints_4.2.2.2.2.2.2.2.2.2.2.1 (by decide) (fun c_96 => ?_) (fun c_96 => ?_)
                    · skip
                      first
                      | have d_96 := cz_eq c_96 (by omega)
                      | have d_96 := cb_eq c_96
                      | skip
                      first
                      | refine x_iinc C (lv' := [_, _, _, _, _]) D_X9_layOutPoints_7.2.2.2.2.2.1 rfl (x_incN_1 _) (by first | rfl | exact x_ok_q rfl) rfl ?_
                      | refine x_iinc C (lv' := [_, _, _, _, _]) D_X9_layOutPoints_7.2.2.2.2.2.1 rfl (x_inc_1 _) (by first | rfl | exact x_ok_q rfl) rfl ?_
                      refine x_goto C 82 D_X9_layOutPoints_7.2.2.2.2.2.2.1 (by decide) ?_
                      refine ih_82 (k0 + 1) I5 _ (by omega) (by omega) (fun i hi ho => ?_) hBf
                      by_cases e : i = k0
                      · rw [e, d_96] at ho; cases ho
                      · exact hB1 i (by omega) ho
                    · skip
                      first
                      | have d_96 := cz_ne c_96 (by omega)
                      | have d_96 := cb_ne c_96
                      | skip
                      refine x_aload_n C D_X9_layOutPoints_4.2.2.2.2.2.2.2.2.2.2.2 rfl rfl (by first | exact Or.inr ⟨_, rfl⟩ | exact va_rf_or _ | exact Or.inl rfl) ?_
                      refine x_iload_n C D_X9_layOutPoints_5.1 rfl rfl ?_
                      refine x_callVi C (y := yX9_pointsBefore) (c_X9_pointsBefore l G m n k0 ar pc (PS r) (OP r) hM hn2_ hnb (fun i hi => by rw [hBf _ n1217, hRf _ n1215 n1216 n1217]; exact h12 i hi) (fun i hi => by rw [hBf _ n1317, hRf _ n1315 n1316 n1317]; exact h13 i hi) hpc (fun i hi => by rw [hBf _ n1517]; exact hR2 i hi) (fun i hi => by rw [hBf _ n1617]; exact hR1 i hi) (fun i hi => by have := hL1 r i (by omega) hi; omega) (by omega)) (ci := 8) hM.1 (by decide) rfl rfl k_1168 k_1170 k_57 k_67 k_1171 hd_X9_pointsBefore ⟨(Nat.le_of_ble_eq_true rfl), (Nat.le_of_ble_eq_true rfl)⟩ rfl (by first | exact Nat.le_of_ble_eq_true rfl | simp [x_crf, Value.category]) rfl rfl D_X9_layOutPoints_5.2.1 ⟨(Nat.le_of_ble_eq_true rfl), (Nat.le_of_ble_eq_true rfl)⟩ (fun r_101 S_101 h_101 => ?_)
                      obtain ⟨rfl, rfl⟩ := h_101
                      have hcb := cn_le (bfQ pc (OP r) (PS r) k0) n
                      refine x_aload_n C D_X9_layOutPoints_5.2.2.1 rfl rfl (by first | exact Or.inr ⟨_, rfl⟩ | exact va_rf_or _ | exact Or.inl rfl) ?_
                      refine x_iload_n C D_X9_layOutPoints_5.2.2.2.1 rfl rfl ?_
                      refine x_callVi C (y := yX9_pointsWith) (c_X9_pointsWith l G m n k0 ar (PS r) (OP r) hM hn2_ hnb (fun i hi => by rw [hBf _ n1517]; exact hR2 i hi) (fun i hi => by rw [hBf _ n1617]; exact hR1 i hi) (fun i hi => by have := hL1 r i (by omega) hi; omega) (by omega)) (ci := 8) hM.1 (by decide) rfl rfl k_1172 k_1174 k_58 k_67 k_1175 hd_X9_pointsWith ⟨(Nat.le_of_ble_eq_true rfl), (Nat.le_of_ble_eq_true rfl)⟩ rfl (by first | exact Nat.le_of_ble_eq_true rfl | simp [x_crf, Value.category]) rfl rfl D_X9_layOutPoints_5.2.2.2.2.1 ⟨(Nat.le_of_ble_eq_true rfl), (Nat.le_of_ble_eq_true rfl)⟩ (fun r_106 S_106 h_106 => ?_)
                      obtain ⟨rfl, rfl⟩ := h_106
                      have hcw := cn_le (wtQ (OP r) (PS r) k0) n
                      refine x_iconst C (v := nI 2) D_X9_layOutPoints_5.2.2.2.2.2.1 (by decide +kernel) ?_
                      refine x_idiv C D_X9_layOutPoints_5.2.2.2.2.2.2.1 (by decide) ?_
                      first
                      | refine x_eqi _ (pk_div (by omega) (by decide) (by decide)) ?_
                      | skip
                      refine x_isub C D_X9_layOutPoints_5.2.2.2.2.2.2.2.1 ?_
                      skip
                      refine x_istore C (lv' := [_, _, _, _, _]) D_X9_layOutPoints_5.2.2.2.2.2.2.2.2.1 (Nat.le_of_ble_eq_true rfl) (by first | rfl | exact x_ok_q rfl) rfl ?_
                      refine x_aload_n C D_X9_layOutPoints_5.2.2.2.2.2.2.2.2.2.1 rfl rfl (by first | exact Or.inr ⟨_, rfl⟩ | exact va_rf_or _ | exact Or.inl rfl) ?_
                      refine x_getQ C (ci := 8) (k0 := 17) (by assumption) (by decide) rfl (by decide) in_X9 k_919 rfl rfl D_X9_layOutPoints_5.2.2.2.2.2.2.2.2.2.2.1 ?_
                      refine x_eqr (hM.2.1 17 (by decide)).1 ?_
                      refine x_iload_n C D_X9_layOutPoints_5.2.2.2.2.2.2.2.2.2.2.2 rfl rfl ?_
                      refine x_iload C D_X9_layOutPoints_6.1 rfl ?_
                      refine x_if_ne C 128 D_X9_layOutPoints_6.2.1 (by decide) (fun c_121 => ?_) (fun c_121 => ?_)
                      · skip
                        have hw1 : ¬ cn (bfQ pc (OP r) (PS r) k0) n = cn (wtQ (OP r) (PS r) k0) n / 2 := fun z => c_121 ((aw_eq (by omega) (by omega)).mpr z)
                        refine x_iconst C (v := nI 2) D_X9_layOutPoints_6.2.2.2.2.1 (by decide +kernel) ?_
                        refine x_aload_n C D_X9_layOutPoints_6.2.2.2.2.2.1 rfl rfl (by first | exact Or.inr ⟨_, rfl⟩ | exact va_rf_or _ | exact Or.inl rfl) ?_
                        refine x_getQ C (ci := 8) (k0 := 15) (by assumption) (by decide) rfl (by decide) in_X9 k_917 rfl rfl D_X9_layOutPoints_6.2.2.2.2.2.2.1 ?_
                        refine x_eqr (hM.2.1 15 (by decide)).1 ?_
                        refine x_iload_n C D_X9_layOutPoints_6.2.2.2.2.2.2.2.1 rfl rfl ?_
                        refine x_iald C _ (by first | assumption | exact (hM.2.1 _ (by decide)).2.1) rfl (by first | omega | (rw [hM.nk _ (by decide)]; omega) | (rw [hM.np _ (by decide)]; omega)) (by first | omega | (rw [hM.nk _ (by decide)]; omega) | (rw [hM.np _ (by decide)]; omega)) D_X9_layOutPoints_6.2.2.2.2.2.2.2.2.1 ?_
                        first
                        | refine x_eqi _ (hn) ?_
                        | refine x_eqi _ (hn1) ?_
                        | refine x_eqi _ (hn2_) ?_
                        | refine x_eqi _ (hn3) ?_
                        | refine x_eqi _ (hs1) ?_
                        | refine x_eqi _ (hb1) ?_
                        | refine x_eqi _ (ho1) ?_
                        | refine x_eqi _ (ho2) ?_
                        | refine x_eqi _ (ho3) ?_
                        | refine x_eqi _ (hp3) ?_
                        | refine x_eqi _ (hx3) ?_
                        | refine x_eqi _ (hu3) ?_
                        | skip
                        refine x_imul C D_X9_layOutPoints_6.2.2.2.2.2.2.2.2.2.1 ?_
                        first
                        | refine x_eqi _ (pk_mul _ _) ?_
                        | skip
                        refine x_iload C D_X9_layOutPoints_6.2.2.2.2.2.2.2.2.2.2.1 rfl ?_
                        refine x_if_ge C 145 D_X9_layOutPoints_6.2.2.2.2.2.2.2.2.2.2.2 (by decide) (fun c_138 => ?_) (fun c_138 => ?_)
                        · skip
                          have hnx : nxV n pc (OP r) (PS r) k0 = 2 * PS r k0 + 1 := by
                            have h9 := (aw_ge (by omega) (by omega)).mp c_138
                            unfold nxV; rw [if_neg hw1, if_neg (by omega)]
                          refine x_iconst C (v := nI 1) D_X9_layOutPoints_7.2.2.1 (by decide +kernel) ?_
                          refine x_iadd C D_X9_layOutPoints_7.2.2.2.1 ?_
                          first
                          | refine x_eqi _ (nI_add _ _) ?_
                          | skip
                          refine x_iast C _ (by first | assumption | exact (hM.2.1 _ (by decide)).2.1) rfl (by first | omega | (rw [hM.nk _ (by decide)]; omega) | (rw [hM.np _ (by decide)]; omega)) (by first | omega | (rw [hM.nk _ (by decide)]; omega) | (rw [hM.np _ (by decide)]; omega)) D_X9_layOutPoints_7.2.2.2.2.1 (fun I6 eI6 => ?_)
                          first
                          | refine x_iinc C (lv' := [_, _, _, _, _]) D_X9_layOutPoints_7.2.2.2.2.2.1 rfl (x_incN_1 _) (by first | rfl | exact x_ok_q rfl) rfl ?_
                          | refine x_iinc C (lv' := [_, _, _, _, _]) D_X9_layOutPoints_7.2.2.2.2.2.1 rfl (x_inc_1 _) (by first | rfl | exact x_ok_q rfl) rfl ?_
                          refine x_goto C 82 D_X9_layOutPoints_7.2.2.2.2.2.2.1 (by decide) ?_
                          refine ih_82 (k0 + 1) I6 _ (by omega) (by omega) (fun i hi ho => ?_) (fun a ha => by rw [eI6, x_u2_a _ _ ha]; exact hBf a ha)
                          rw [eI6]
                          by_cases e : i = k0
                          · subst e; rw [x_u2_s, hnx]
                          · rw [x_u2_j _ _ e]; exact hB1 i (by omega) ho
                        · skip
                          have hnx : nxV n pc (OP r) (PS r) k0 = 2 * PS r k0 + 0 := by
                            have h9 : ¬ cn (wtQ (OP r) (PS r) k0) n / 2 ≤ cn (bfQ pc (OP r) (PS r) k0) n := fun z => c_138 ((aw_ge (by omega) (by omega)).mpr z)
                            unfold nxV; rw [if_neg hw1, if_pos (by omega)]
                          refine x_iconst C (v := nI 0) D_X9_layOutPoints_7.1 (by decide +kernel) ?_
                          refine x_goto C 146 D_X9_layOutPoints_7.2.1 (by decide) ?_
                          refine x_iadd C D_X9_layOutPoints_7.2.2.2.1 ?_
                          first
                          | refine x_eqi _ (nI_add _ _) ?_
                          | skip
                          refine x_iast C _ (by first | assumption | exact (hM.2.1 _ (by decide)).2.1) rfl (by first | omega | (rw [hM.nk _ (by decide)]; omega) | (rw [hM.np _ (by decide)]; omega)) (by first | omega | (rw [hM.nk _ (by decide)]; omega) | (rw [hM.np _ (by decide)]; omega)) D_X9_layOutPoints_7.2.2.2.2.1 (fun I6 eI6 => ?_)
                          first
                          | refine x_iinc C (lv' := [_, _, _, _, _]) D_X9_layOutPoints_7.2.2.2.2.2.1 rfl (x_incN_1 _) (by first | rfl | exact x_ok_q rfl) rfl ?_
                          | refine x_iinc C (lv' := [_, _, _, _, _]) D_X9_layOutPoints_7.2.2.2.2.2.1 rfl (x_inc_1 _) (by first | rfl | exact x_ok_q rfl) rfl ?_
                          refine x_goto C 82 D_X9_layOutPoints_7.2.2.2.2.2.2.1 (by decide) ?_
                          refine ih_82 (k0 + 1) I6 _ (by omega) (by omega) (fun i hi ho => ?_) (fun a ha => by rw [eI6, x_u2_a _ _ ha]; exact hBf a ha)
                          rw [eI6]
                          by_cases e : i = k0
                          · subst e; rw [x_u2_s, hnx]
                          · rw [x_u2_j _ _ e]; exact hB1 i (by omega) ho
                      · skip
                        have hw1 : cn (bfQ pc (OP r) (PS r) k0) n = cn (wtQ (OP r) (PS r) k0) n / 2 := (aw_eq (by omega) (by omega)).mp c_121
                        have hnx : nxV n pc (OP r) (PS r) k0 = 0 := by unfold nxV; rw [if_pos hw1]
                        refine x_iconst C (v := nI 0) D_X9_layOutPoints_6.2.2.1 (by decide +kernel) ?_
                        refine x_goto C 147 D_X9_layOutPoints_6.2.2.2.1 (by decide) ?_
                        refine x_iast C _ (by first | assumption | exact (hM.2.1 _ (by decide)).2.1) rfl (by first | omega | (rw [hM.nk _ (by decide)]; omega) | (rw [hM.np _ (by decide)]; omega)) (by first | omega | (rw [hM.nk _ (by decide)]; omega) | (rw [hM.np _ (by decide)]; omega)) D_X9_layOutPoints_7.2.2.2.2.1 (fun I6 eI6 => ?_)
                        first
                        | refine x_iinc C (lv' := [_, _, _, _, _]) D_X9_layOutPoints_7.2.2.2.2.2.1 rfl (x_incN_1 _) (by first | rfl | exact x_ok_q rfl) rfl ?_
                        | refine x_iinc C (lv' := [_, _, _, _, _]) D_X9_layOutPoints_7.2.2.2.2.2.1 rfl (x_inc_1 _) (by first | rfl | exact x_ok_q rfl) rfl ?_
                        refine x_goto C 82 D_X9_layOutPoints_7.2.2.2.2.2.2.1 (by decide) ?_
                        refine ih_82 (k0 + 1) I6 _ (by omega) (by omega) (fun i hi ho => ?_) (fun a ha => by rw [eI6, x_u2_a _ _ ha]; exact hBf a ha)
                        rw [eI6]
                        by_cases e : i = k0
                        · subst e; rw [x_u2_s, hnx]
                        · rw [x_u2_j _ _ e]; exact hB1 i (by omega) ho
              exact L_82 _ 0 I4 _ (Nat.lt_succ_self _) (Nat.zero_le _) (fun i hi => by omega) (fun _ _ => rfl)
        exact L_76 _ 0 I1 _ _ (Nat.lt_succ_self _) (Nat.zero_le _) hA1 hA2 (fun a h1 h2 _ => hAf a h1 h2)
      · skip
        first
        | have d_9 := cv_nle c_9 (by omega) (by omega)
        | skip
        obtain ⟨hq1, hq2⟩ := h15 k0 (by omega)
        have hs1 : I1 (ar 15) k0 = nI (ps k0) := by rw [hA3 k0 (Nat.le_refl _)]; exact hq1
        have hO := hO0 k0 (by omega)
        have hPz := hP0 k0 (by omega)
        have hcl := cn_le (OP 0) k0
        refine x_aload_n C D_X9_layOutPoints_0.2.2.2.2.2.2.2.2.1 rfl rfl (by first | exact Or.inr ⟨_, rfl⟩ | exact va_rf_or _ | exact Or.inl rfl) ?_
        refine x_getQ C (ci := 8) (k0 := 16) (by assumption) (by decide) rfl (by decide) in_X9 k_918 rfl rfl D_X9_layOutPoints_0.2.2.2.2.2.2.2.2.2.1 ?_
        refine x_eqr (hM.2.1 16 (by decide)).1 ?_
        refine x_iload_n C D_X9_layOutPoints_0.2.2.2.2.2.2.2.2.2.2.1 rfl rfl ?_
        refine x_aload_n C D_X9_layOutPoints_0.2.2.2.2.2.2.2.2.2.2.2 rfl rfl (by first | exact Or.inr ⟨_, rfl⟩ | exact va_rf_or _ | exact Or.inl rfl) ?_
        refine x_getQ C (ci := 8) (k0 := 15) (by assumption) (by decide) rfl (by decide) in_X9 k_917 rfl rfl D_X9_layOutPoints_1.1 ?_
        refine x_eqr (hM.2.1 15 (by decide)).1 ?_
        refine x_iload_n C D_X9_layOutPoints_1.2.1 rfl rfl ?_
        refine x_iald C _ (by first | assumption | exact (hM.2.1 _ (by decide)).2.1) rfl (by first | omega | (rw [hM.nk _ (by decide)]; omega) | (rw [hM.np _ (by decide)]; omega)) (by first | omega | (rw [hM.nk _ (by decide)]; omega) | (rw [hM.np _ (by decide)]; omega)) D_X9_layOutPoints_1.2.2.1 ?_
        first
        | refine x_eqi _ (hn) ?_
        | refine x_eqi _ (hn1) ?_
        | refine x_eqi _ (hn2_) ?_
        | refine x_eqi _ (hn3) ?_
        | refine x_eqi _ (hs1) ?_
        | refine x_eqi _ (hb1) ?_
        | refine x_eqi _ (ho1) ?_
        | refine x_eqi _ (ho2) ?_
        | refine x_eqi _ (ho3) ?_
        | refine x_eqi _ (hp3) ?_
        | refine x_eqi _ (hx3) ?_
        | refine x_eqi _ (hu3) ?_
        | skip
        refine x_iload_n C D_X9_layOutPoints_1.2.2.2.1 rfl rfl ?_
        refine x_callSz C (y := yX9_isBelow) (c_X9_isBelow l G (ps k0) p0 (by omega) (by omega)) k_1008 k_1009 k_67 k_1010 hd_X9_isBelow ⟨(Nat.le_of_ble_eq_true rfl), (Nat.le_of_ble_eq_true rfl)⟩ rfl (by first | exact Nat.le_of_ble_eq_true rfl | simp [x_crf, Value.category]) rfl rfl D_X9_layOutPoints_1.2.2.2.2.1 ⟨(Nat.le_of_ble_eq_true rfl), (Nat.le_of_ble_eq_true rfl)⟩ (fun r_24 S_24 h_24 => ?_)
        obtain ⟨rfl, rfl⟩ := h_24
        refine x_zast C _ _ rfl (by first | assumption | exact (hM.2.1 _ (by decide)).2.1) rfl (by first | omega | (rw [hM.nk _ (by decide)]; omega) | (rw [hM.np _ (by decide)]; omega)) (by first | omega | (rw [hM.nk _ (by decide)]; omega) | (rw [hM.np _ (by decide)]; omega)) D_X9_layOutPoints_1.2.2.2.2.2.1 (fun I2 eI2 => ?_)
        have hb1 : I2 (ar 16) k0 = xb (bel (ps k0) p0) := by rw [eI2, x_u2_s]
        have hs1 : I2 (ar 15) k0 = nI (ps k0) := by rw [eI2, x_u2_a _ _ n1516]; exact hs1
        refine x_aload_n C D_X9_layOutPoints_1.2.2.2.2.2.2.1 rfl rfl (by first | exact Or.inr ⟨_, rfl⟩ | exact va_rf_or _ | exact Or.inl rfl) ?_
        refine x_getQ C (ci := 8) (k0 := 15) (by assumption) (by decide) rfl (by decide) in_X9 k_917 rfl rfl D_X9_layOutPoints_1.2.2.2.2.2.2.2.1 ?_
        refine x_eqr (hM.2.1 15 (by decide)).1 ?_
        refine x_iload_n C D_X9_layOutPoints_1.2.2.2.2.2.2.2.2.1 rfl rfl ?_
        refine x_aload_n C D_X9_layOutPoints_1.2.2.2.2.2.2.2.2.2.1 rfl rfl (by first | exact Or.inr ⟨_, rfl⟩ | exact va_rf_or _ | exact Or.inl rfl) ?_
        refine x_getQ C (ci := 8) (k0 := 16) (by assumption) (by decide) rfl (by decide) in_X9 k_918 rfl rfl D_X9_layOutPoints_1.2.2.2.2.2.2.2.2.2.2.1 ?_
        refine x_eqr (hM.2.1 16 (by decide)).1 ?_
        refine x_iload_n C D_X9_layOutPoints_1.2.2.2.2.2.2.2.2.2.2.2 rfl rfl ?_
        refine x_zald C _ (by first | assumption | exact (hM.2.1 _ (by decide)).2.1) rfl (by first | omega | (rw [hM.nk _ (by decide)]; omega) | (rw [hM.np _ (by decide)]; omega)) (by first | omega | (rw [hM.nk _ (by decide)]; omega) | (rw [hM.np _ (by decide)]; omega)) D_X9_layOutPoints_2.1 ?_
        first
        | refine x_eqi _ (hn) ?_
        | refine x_eqi _ (hn1) ?_
        | refine x_eqi _ (hn2_) ?_
        | refine x_eqi _ (hn3) ?_
        | refine x_eqi _ (hs1) ?_
        | refine x_eqi _ (hb1) ?_
        | refine x_eqi _ (ho1) ?_
        | refine x_eqi _ (ho2) ?_
        | refine x_eqi _ (ho3) ?_
        | refine x_eqi _ (hp3) ?_
        | refine x_eqi _ (hx3) ?_
        | refine x_eqi _ (hu3) ?_
        | skip
        refine x_if_eq C 46 D_X9_layOutPoints_2.2.1 (by decide) (fun c_39 => ?_) (fun c_39 => ?_)
        · skip
          first
          | have d_39 := cz_eq c_39 (by omega)
          | have d_39 := cb_eq c_39
          | skip
          refine x_aload_n C D_X9_layOutPoints_2.2.2.2.2.1 rfl rfl (by first | exact Or.inr ⟨_, rfl⟩ | exact va_rf_or _ | exact Or.inl rfl) ?_
          refine x_getQ C (ci := 8) (k0 := 15) (by assumption) (by decide) rfl (by decide) in_X9 k_917 rfl rfl D_X9_layOutPoints_2.2.2.2.2.2.1 ?_
          refine x_eqr (hM.2.1 15 (by decide)).1 ?_
          refine x_iload_n C D_X9_layOutPoints_2.2.2.2.2.2.2.1 rfl rfl ?_
          refine x_iald C _ (by first | assumption | exact (hM.2.1 _ (by decide)).2.1) rfl (by first | omega | (rw [hM.nk _ (by decide)]; omega) | (rw [hM.np _ (by decide)]; omega)) (by first | omega | (rw [hM.nk _ (by decide)]; omega) | (rw [hM.np _ (by decide)]; omega)) D_X9_layOutPoints_2.2.2.2.2.2.2.2.1 ?_
          first
          | refine x_eqi _ (hn) ?_
          | refine x_eqi _ (hn1) ?_
          | refine x_eqi _ (hn2_) ?_
          | refine x_eqi _ (hn3) ?_
          | refine x_eqi _ (hs1) ?_
          | refine x_eqi _ (hb1) ?_
          | refine x_eqi _ (ho1) ?_
          | refine x_eqi _ (ho2) ?_
          | refine x_eqi _ (ho3) ?_
          | refine x_eqi _ (hp3) ?_
          | refine x_eqi _ (hx3) ?_
          | refine x_eqi _ (hu3) ?_
          | skip
          refine x_iast C _ (by first | assumption | exact (hM.2.1 _ (by decide)).2.1) rfl (by first | omega | (rw [hM.nk _ (by decide)]; omega) | (rw [hM.np _ (by decide)]; omega)) (by first | omega | (rw [hM.nk _ (by decide)]; omega) | (rw [hM.np _ (by decide)]; omega)) D_X9_layOutPoints_2.2.2.2.2.2.2.2.2.1 (fun I3 eI3 => ?_)
          have hb1 : I3 (ar 16) k0 = xb (bel (ps k0) p0) := by rw [eI3, x_u2_a _ _ n1615]; exact hb1
          refine x_iload_n C D_X9_layOutPoints_2.2.2.2.2.2.2.2.2.2.1 rfl rfl ?_
          refine x_aload_n C D_X9_layOutPoints_2.2.2.2.2.2.2.2.2.2.2.1 rfl rfl (by first | exact Or.inr ⟨_, rfl⟩ | exact va_rf_or _ | exact Or.inl rfl) ?_
          refine x_getQ C (ci := 8) (k0 := 16) (by assumption) (by decide) rfl (by decide) in_X9 k_918 rfl rfl D_X9_layOutPoints_2.2.2.2.2.2.2.2.2.2.2.2 ?_
          refine x_eqr (hM.2.1 16 (by decide)).1 ?_
          refine x_iload_n C D_X9_layOutPoints_3.1 rfl rfl ?_
          refine x_zald C _ (by first | assumption | exact (hM.2.1 _ (by decide)).2.1) rfl (by first | omega | (rw [hM.nk _ (by decide)]; omega) | (rw [hM.np _ (by decide)]; omega)) (by first | omega | (rw [hM.nk _ (by decide)]; omega) | (rw [hM.np _ (by decide)]; omega)) D_X9_layOutPoints_3.2.1 ?_
          first
          | refine x_eqi _ (hn) ?_
          | refine x_eqi _ (hn1) ?_
          | refine x_eqi _ (hn2_) ?_
          | refine x_eqi _ (hn3) ?_
          | refine x_eqi _ (hs1) ?_
          | refine x_eqi _ (hb1) ?_
          | refine x_eqi _ (ho1) ?_
          | refine x_eqi _ (ho2) ?_
          | refine x_eqi _ (ho3) ?_
          | refine x_eqi _ (hp3) ?_
          | refine x_eqi _ (hx3) ?_
          | refine x_eqi _ (hu3) ?_
          | skip
          refine x_if_eq C 67 D_X9_layOutPoints_3.2.2.1 (by decide) (fun c_60 => ?_) (fun c_60 => ?_)
          · skip
            first
            | have d_60 := cz_eq c_60 (by omega)
            | have d_60 := cb_eq c_60
            | skip
            have hs : cn (OP 0) (k0 + 1) = cn (OP 0) k0 + 0 := by simp [cn, hO, d_39]
            rw [hO, d_39, if_neg (by decide)] at hPz
            refine x_iconst C (v := nI 0) D_X9_layOutPoints_3.2.2.2.2.2.1 (by decide +kernel) ?_
            refine x_iadd C D_X9_layOutPoints_3.2.2.2.2.2.2.1 ?_
            first
            | refine x_eqi _ (nI_add _ _) ?_
            | skip
            refine x_istore_n C (lv' := [_, _, _, _, _]) D_X9_layOutPoints_3.2.2.2.2.2.2.2.1 rfl (Nat.le_of_ble_eq_true rfl) (by first | rfl | exact x_ok_q rfl) rfl ?_
            first
            | refine x_iinc C (lv' := [_, _, _, _, _]) D_X9_layOutPoints_3.2.2.2.2.2.2.2.2.1 rfl (x_incN_1 _) (by first | rfl | exact x_ok_q rfl) rfl ?_
            | refine x_iinc C (lv' := [_, _, _, _, _]) D_X9_layOutPoints_3.2.2.2.2.2.2.2.2.1 rfl (x_inc_1 _) (by first | rfl | exact x_ok_q rfl) rfl ?_
            refine x_goto C 4 D_X9_layOutPoints_3.2.2.2.2.2.2.2.2.2.1 (by decide) ?_
            rw [← hs]
            refine ih_4 (k0 + 1) I3 _ (by omega) (by omega) (fun i hi => ?_) (fun i hi => ?_) (fun i hi => ?_) (fun a h1 h2 => ?_)
            · rw [eI3, x_u2_a _ _ n1615, eI2]
              by_cases e : i = k0
              · subst e; rw [x_u2_s, hO]
              · rw [x_u2_j _ _ e]; exact hA1 i (by omega)
            · rw [eI3]
              by_cases e : i = k0
              · subst e; rw [x_u2_s, hPz]
              · rw [x_u2_j _ _ e, eI2, x_u2_a _ _ n1516]; exact hA2 i (by omega)
            · rw [eI3, x_u2_j _ _ (by omega), eI2, x_u2_a _ _ n1516]; exact hA3 i (by omega)
            · rw [eI3, x_u2_a _ _ h1, eI2, x_u2_a _ _ h2]; exact hAf a h1 h2
          · skip
            first
            | have d_60 := cz_ne c_60 (by omega)
            | have d_60 := cb_ne c_60
            | skip
            rw [d_39] at d_60; cases d_60
            --end
        · skip
          first
          | have d_39 := cz_ne c_39 (by omega)
          | have d_39 := cb_ne c_39
          | skip
          refine x_iload_n C D_X9_layOutPoints_2.2.2.1 rfl rfl ?_
          refine x_goto C 52 D_X9_layOutPoints_2.2.2.2.1 (by decide) ?_
          refine x_iast C _ (by first | assumption | exact (hM.2.1 _ (by decide)).2.1) rfl (by first | omega | (rw [hM.nk _ (by decide)]; omega) | (rw [hM.np _ (by decide)]; omega)) (by first | omega | (rw [hM.nk _ (by decide)]; omega) | (rw [hM.np _ (by decide)]; omega)) D_X9_layOutPoints_2.2.2.2.2.2.2.2.2.1 (fun I3 eI3 => ?_)
          have hb1 : I3 (ar 16) k0 = xb (bel (ps k0) p0) := by rw [eI3, x_u2_a _ _ n1615]; exact hb1
          refine x_iload_n C D_X9_layOutPoints_2.2.2.2.2.2.2.2.2.2.1 rfl rfl ?_
          refine x_aload_n C D_X9_layOutPoints_2.2.2.2.2.2.2.2.2.2.2.1 rfl rfl (by first | exact Or.inr ⟨_, rfl⟩ | exact va_rf_or _ | exact Or.inl rfl) ?_
          refine x_getQ C (ci := 8) (k0 := 16) (by assumption) (by decide) rfl (by decide) in_X9 k_918 rfl rfl D_X9_layOutPoints_2.2.2.2.2.2.2.2.2.2.2.2 ?_
          refine x_eqr (hM.2.1 16 (by decide)).1 ?_
          refine x_iload_n C D_X9_layOutPoints_3.1 rfl rfl ?_
          refine x_zald C _ (by first | assumption | exact (hM.2.1 _ (by decide)).2.1) rfl (by first | omega | (rw [hM.nk _ (by decide)]; omega) | (rw [hM.np _ (by decide)]; omega)) (by first | omega | (rw [hM.nk _ (by decide)]; omega) | (rw [hM.np _ (by decide)]; omega)) D_X9_layOutPoints_3.2.1 ?_
          first
          | refine x_eqi _ (hn) ?_
          | refine x_eqi _ (hn1) ?_
          | refine x_eqi _ (hn2_) ?_
          | refine x_eqi _ (hn3) ?_
          | refine x_eqi _ (hs1) ?_
          | refine x_eqi _ (hb1) ?_
          | refine x_eqi _ (ho1) ?_
          | refine x_eqi _ (ho2) ?_
          | refine x_eqi _ (ho3) ?_
          | refine x_eqi _ (hp3) ?_
          | refine x_eqi _ (hx3) ?_
          | refine x_eqi _ (hu3) ?_
          | skip
          refine x_if_eq C 67 D_X9_layOutPoints_3.2.2.1 (by decide) (fun c_60 => ?_) (fun c_60 => ?_)
          · skip
            first
            | have d_60 := cz_eq c_60 (by omega)
            | have d_60 := cb_eq c_60
            | skip
            rw [d_39] at d_60; cases d_60
            --end
          · skip
            first
            | have d_60 := cz_ne c_60 (by omega)
            | have d_60 := cb_ne c_60
            | skip
            have hs : cn (OP 0) (k0 + 1) = cn (OP 0) k0 + 1 := by simp [cn, hO, d_39]
            rw [hO, d_39, if_pos rfl] at hPz
            refine x_iconst C (v := nI 1) D_X9_layOutPoints_3.2.2.2.1 (by decide +kernel) ?_
            refine x_goto C 68 D_X9_layOutPoints_3.2.2.2.2.1 (by decide) ?_
            refine x_iadd C D_X9_layOutPoints_3.2.2.2.2.2.2.1 ?_
            first
            | refine x_eqi _ (nI_add _ _) ?_
            | skip
            refine x_istore_n C (lv' := [_, _, _, _, _]) D_X9_layOutPoints_3.2.2.2.2.2.2.2.1 rfl (Nat.le_of_ble_eq_true rfl) (by first | rfl | exact x_ok_q rfl) rfl ?_
            first
            | refine x_iinc C (lv' := [_, _, _, _, _]) D_X9_layOutPoints_3.2.2.2.2.2.2.2.2.1 rfl (x_incN_1 _) (by first | rfl | exact x_ok_q rfl) rfl ?_
            | refine x_iinc C (lv' := [_, _, _, _, _]) D_X9_layOutPoints_3.2.2.2.2.2.2.2.2.1 rfl (x_inc_1 _) (by first | rfl | exact x_ok_q rfl) rfl ?_
            refine x_goto C 4 D_X9_layOutPoints_3.2.2.2.2.2.2.2.2.2.1 (by decide) ?_
            rw [← hs]
            refine ih_4 (k0 + 1) I3 _ (by omega) (by omega) (fun i hi => ?_) (fun i hi => ?_) (fun i hi => ?_) (fun a h1 h2 => ?_)
            · rw [eI3, x_u2_a _ _ n1615, eI2]
              by_cases e : i = k0
              · subst e; rw [x_u2_s, hO]
              · rw [x_u2_j _ _ e]; exact hA1 i (by omega)
            · rw [eI3]
              by_cases e : i = k0
              · subst e; rw [x_u2_s, hPz]
              · rw [x_u2_j _ _ e, eI2, x_u2_a _ _ n1516]; exact hA2 i (by omega)
            · rw [eI3, x_u2_j _ _ (by omega), eI2, x_u2_a _ _ n1516]; exact hA3 i (by omega)
            · rw [eI3, x_u2_a _ _ h1, eI2, x_u2_a _ _ h2]; exact hAf a h1 h2
  exact L_4 _ 0 I _ (Nat.lt_succ_self _) (Nat.zero_le _) (fun i hi => by omega) (fun i hi => by omega) (fun _ _ => rfl) (fun _ _ _ => rfl)
abbrev rm_X9_growPoints : Room := { frames := 4, cells := 0, slots := 0, locals := 88 }
theorem hd_X9_layOutPoints : yX9_layOutPoints.cls ≠ "java/lang/invoke/MethodHandle" ∧ yX9_layOutPoints.cls ≠ "java/lang/invoke/VarHandle" ∧ (parseMethodDescriptor yX9_layOutPoints.desc).map (fun d => d.parameters.length) = some 1 := by decide +kernel
theorem hd_X9_pointWeight : yX9_pointWeight.cls ≠ "java/lang/invoke/MethodHandle" ∧ yX9_pointWeight.cls ≠ "java/lang/invoke/VarHandle" ∧ (parseMethodDescriptor yX9_pointWeight.desc).map (fun d => d.parameters.length) = some 1 := by decide +kernel
set_option maxHeartbeats 4000000 in
set_option maxRecDepth 100000 in
theorem c_X9_growPoints (l : Launch) (G : xG) {K N : Nat → Nat} {I : Nat → Nat → Int32} {Q : Nat → Nat → Option Nat} {J : Nat → Nat → Int64} (m n p0 R : Nat) (ar pc ps : Nat → Nat) (OP : Nat → Nat → Bool) (PS : Nat → Nat → Nat) (hM : MZ K N Q m ar) (hn : I m 10 = nI n) (hnb : n ≤ 122) (h12 : ∀ i, i < n → I (ar 12) i = nI (pc i / 100)) (h13 : ∀ i, i < n → I (ar 13) i = nI (pc i % 100)) (hpc : ∀ i, i < n → pc i < 10000) (h15 : ∀ i, i < n → I (ar 15) i = nI (ps i) ∧ ps i < 2 ^ 26) (hp : p0 < 2 ^ 26) (hL : 0 < (topF (hvF n ps) 26 (p0 / 2) 0) → (∀ i, i < n → OP 0 i = bel (ps i) (topF (hvF n ps) 26 (p0 / 2) 0)) ∧ (∀ i, i < n → PS 0 i = if OP 0 i = true then (topF (hvF n ps) 26 (p0 / 2) 0) else ps i) ∧ LOR n pc OP PS R) : XM l yX9_growPoints cX9_growPoints 6 none rm_X9_growPoints G Rv [.ref m, .int (nI p0)] (K, N, I, Q, J) (fun _ S1 => ∃ I1, S1 = (K, N, I1, Q, J) ∧ (∀ i, i < n → I1 (ar 15) i = nI (if 0 < (topF (hvF n ps) 26 (p0 / 2) 0) then PS R i else ps i)) ∧ I1 m 11 = I m 11 + nI (if 0 < (topF (hvF n ps) 26 (p0 / 2) 0) then cnW n ps (topF (hvF n ps) 26 (p0 / 2) 0) else 0) ∧ (∀ a j, a ≠ ar 15 → a ≠ ar 16 → a ≠ ar 17 → ¬ (a = m ∧ j = 11) → I1 a j = I a j)) := by
  refine x_metv (lv := [_, _, _, _, _, _]) (by decide +kernel) (x_cc (by first | rfl | exact x_crf _) (x_cc (by first | rfl | exact x_crf _) x_cn)) (Nat.le_of_ble_eq_true rfl) rfl ?_
  intro pP eE sS mM aA bB hH cC Z C hini ret
  have hk9 := hM.1
  obtain ⟨FD, eFD⟩ : ∃ FD, FD = (topF (hvF n ps) 26 (p0 / 2) 0) := ⟨_, rfl⟩
  rw [← eFD] at hL
  have n1215 : x_ne (ar 12) (ar 15) := hM.ne 12 15 (by decide)
  have n1216 : x_ne (ar 12) (ar 16) := hM.ne 12 16 (by decide)
  have n1217 : x_ne (ar 12) (ar 17) := hM.ne 12 17 (by decide)
  have n1315 : x_ne (ar 13) (ar 15) := hM.ne 13 15 (by decide)
  have n1316 : x_ne (ar 13) (ar 16) := hM.ne 13 16 (by decide)
  have n1317 : x_ne (ar 13) (ar 17) := hM.ne 13 17 (by decide)
  have n1516 : x_ne (ar 15) (ar 16) := hM.ne 15 16 (by decide)
  have n1517 : x_ne (ar 15) (ar 17) := hM.ne 15 17 (by decide)
  have n1615 : x_ne (ar 16) (ar 15) := hM.ne 16 15 (by decide)
  have n1617 : x_ne (ar 16) (ar 17) := hM.ne 16 17 (by decide)
  have n1715 : x_ne (ar 17) (ar 15) := hM.ne 17 15 (by decide)
  have n1716 : x_ne (ar 17) (ar 16) := hM.ne 17 16 (by decide)
  have hm12 : x_ne (ar 12) m := hM.nm 12 (by decide)
  have hm13 : x_ne (ar 13) m := hM.nm 13 (by decide)
  have hm15 : x_ne (ar 15) m := hM.nm 15 (by decide)
  have hm16 : x_ne (ar 16) m := hM.nm 16 (by decide)
  have hm17 : x_ne (ar 17) m := hM.nm 17 (by decide)
  refine x_iconst C (v := nI 0) D_X9_growPoints_0.1 (by decide +kernel) ?_
  refine x_istore_n C (lv' := [_, _, _, _, _, _]) D_X9_growPoints_0.2.1 rfl (Nat.le_of_ble_eq_true rfl) (by first | rfl | exact x_ok_q rfl) rfl ?_
  refine x_iload_n C D_X9_growPoints_0.2.2.1 rfl rfl ?_
  refine x_iconst C (v := nI 2) D_X9_growPoints_0.2.2.2.1 (by decide +kernel) ?_
  refine x_idiv C D_X9_growPoints_0.2.2.2.2.1 (by decide) ?_
  first
  | refine x_eqi _ (pk_div (by omega) (by decide) (by decide)) ?_
  | skip
  refine x_istore_n C (lv' := [_, _, _, _, _, _]) D_X9_growPoints_0.2.2.2.2.2.1 rfl (Nat.le_of_ble_eq_true rfl) (by first | rfl | exact x_ok_q rfl) rfl ?_
  have L_6 : ∀ (w_6 : Nat) (f u fd : Nat) (v4 v5 : Option Value), u < w_6 → (u < 2 ^ f) → (u < 2 ^ 25) → (fd < 2 ^ 25) → (topF (hvF n ps) f u fd = FD) → XW pP l eE rm_X9_growPoints sS mM aA bB hH cC G Z 0 0 (K, N, I, Q, J) 6 [some (.ref m), some (.int (nI p0)), some (.int (nI fd)), some (.int (nI u)), v4, v5] [] := by
    intro w_6
    induction w_6 with
    | zero =>
      intro f u fd v4 v5 hw_6
      exact absurd hw_6 (Nat.not_lt_zero _)
    | succ w_6 ih_6 =>
      intro f u fd v4 v5 hw_6 huf hu hfb hT
      refine x_iload_n C D_X9_growPoints_0.2.2.2.2.2.2.1 rfl rfl ?_
      refine x_if_le C 76 D_X9_growPoints_0.2.2.2.2.2.2.2.1 (by decide) (fun c_7 => ?_) (fun c_7 => ?_)
      · skip
        first
        | have d_7 := cz_le c_7 (by omega)
        | skip
        obtain rfl := d_7
        rw [topF_0] at hT
        subst hT
        refine x_iload_n C D_X9_growPoints_4.2.2.2.1 rfl rfl ?_
        refine x_if_le C 99 D_X9_growPoints_4.2.2.2.2.1 (by decide) (fun c_77 => ?_) (fun c_77 => ?_)
        · skip
          first
          | have d_77 := cz_le c_77 (by omega)
          | skip
          refine ret _ _ _ _ _ rfl D_X9_growPoints_5.2.2.2.2 (Nat.le_of_ble_eq_true rfl) (Nat.le_of_ble_eq_true rfl) ?_
          refine ⟨I, rfl, fun i hi => ?_, ?_, fun _ _ _ _ _ _ => rfl⟩
          · rw [← eFD, if_neg (by omega)]; exact (h15 i hi).1
          · rw [← eFD, if_neg (by omega), nI_0, Int32.add_zero]
        · skip
          first
          | have d_77 := cz_nle c_77 (by omega)
          | skip
          obtain ⟨hL1, hL2, hL3⟩ := hL d_77
          refine x_aload_n C D_X9_growPoints_4.2.2.2.2.2.1 rfl rfl (by first | exact Or.inr ⟨_, rfl⟩ | exact va_rf_or _ | exact Or.inl rfl) ?_
          refine x_dup C D_X9_growPoints_4.2.2.2.2.2.2.1 (by first | rfl | exact x_crf _) ?_
          refine x_getI C (ci := 8) (k0 := 11) (by assumption) (by decide) rfl (by decide) in_X9 k_913 rfl rfl D_X9_growPoints_4.2.2.2.2.2.2.2.1 ?_
          refine x_aload_n C D_X9_growPoints_4.2.2.2.2.2.2.2.2.1 rfl rfl (by first | exact Or.inr ⟨_, rfl⟩ | exact va_rf_or _ | exact Or.inl rfl) ?_
          refine x_iload_n C D_X9_growPoints_4.2.2.2.2.2.2.2.2.2.1 rfl rfl ?_
          refine x_callVi C (y := yX9_pointWeight) (c_X9_pointWeight l G m n (fd) ar ps hM hn hnb (fun i hi => ⟨(h15 i hi).1, by have := (h15 i hi).2; omega⟩) (by omega)) (ci := 8) hM.1 (by decide) rfl rfl k_1160 k_1162 k_55 k_67 k_1163 hd_X9_pointWeight ⟨(Nat.le_of_ble_eq_true rfl), (Nat.le_of_ble_eq_true rfl)⟩ rfl (by first | exact Nat.le_of_ble_eq_true rfl | simp [x_crf, Value.category]) rfl rfl D_X9_growPoints_4.2.2.2.2.2.2.2.2.2.2.1 ⟨(Nat.le_of_ble_eq_true rfl), (Nat.le_of_ble_eq_true rfl)⟩ (fun r_87 S_87 h_87 => ?_)
          obtain ⟨rfl, rfl⟩ := h_87
          have hw_87 := cnW_le n ps (fd)
          refine x_iadd C D_X9_growPoints_4.2.2.2.2.2.2.2.2.2.2.2 ?_
          first
          | refine x_eqi _ (nI_add _ _) ?_
          | skip
          refine x_putI C (ci := 8) (k0 := 11) (by assumption) (by decide) rfl (by decide) in_X9 k_913 rfl tyX9 tyX9_ok nmX9 rfl (by rfl) rfl rfl rfl D_X9_growPoints_5.1 (fun I2 eI2 => ?_)
          refine x_aload_n C D_X9_growPoints_5.2.1 rfl rfl (by first | exact Or.inr ⟨_, rfl⟩ | exact va_rf_or _ | exact Or.inl rfl) ?_
          refine x_iload_n C D_X9_growPoints_5.2.2.1 rfl rfl ?_
          refine x_callVv C (y := yX9_layOutPoints) (c_X9_layOutPoints l G m n fd R ar pc ps OP PS hM (by rw [eI2, x_u2_j _ _ (by omega)]; exact hn) hnb (fun i hi => by rw [eI2, x_u2_a _ _ hm12]; exact h12 i hi) (fun i hi => by rw [eI2, x_u2_a _ _ hm13]; exact h13 i hi) hpc (fun i hi => by rw [eI2, x_u2_a _ _ hm15]; exact h15 i hi) (by omega) hL1 hL2 hL3) (ci := 8) hM.1 (by decide) rfl rfl k_1164 k_1166 k_56 k_67 k_1167 hd_X9_layOutPoints ⟨(Nat.le_of_ble_eq_true rfl), (Nat.le_of_ble_eq_true rfl)⟩ rfl (by first | exact Nat.le_of_ble_eq_true rfl | simp [x_crf, Value.category]) rfl rfl D_X9_growPoints_5.2.2.2.1 ⟨(Nat.le_of_ble_eq_true rfl), (Nat.le_of_ble_eq_true rfl)⟩ (fun _ S_96 h_96 => ?_)
          obtain ⟨I3, rfl, e1, e2⟩ := h_96
          refine ret _ _ _ _ _ rfl D_X9_growPoints_5.2.2.2.2 (Nat.le_of_ble_eq_true rfl) (Nat.le_of_ble_eq_true rfl) ?_
          refine ⟨I3, rfl, fun i hi => ?_, ?_, fun a j h1 h2 h3 h4 => ?_⟩
          · rw [← eFD, if_pos d_77]; exact e1 i hi
          · rw [← eFD, if_pos d_77, e2 m hm15.symm hm16.symm hm17.symm, eI2, x_u2_s]
          · rw [e2 a h1 h2 h3, eI2]
            by_cases e : a = m
            · subst e; exact x_u2_j _ _ (fun z => h4 ⟨rfl, z⟩)
            · rw [x_u2_a _ _ e]
      · skip
        first
        | have d_7 := cz_nle c_7 (by omega)
        | skip
        obtain ⟨g, rfl⟩ : ∃ g, f = g + 1 := by
          cases f with
          | zero => simp at huf; omega
          | succ g => exact ⟨g, rfl⟩
        rw [topF_go d_7] at hT
        refine x_aload_n C D_X9_growPoints_0.2.2.2.2.2.2.2.2.1 rfl rfl (by first | exact Or.inr ⟨_, rfl⟩ | exact va_rf_or _ | exact Or.inl rfl) ?_
        refine x_iload_n C D_X9_growPoints_0.2.2.2.2.2.2.2.2.2.1 rfl rfl ?_
        refine x_callVi C (y := yX9_pointWeight) (c_X9_pointWeight l G m n (u) ar ps hM hn hnb (fun i hi => ⟨(h15 i hi).1, by have := (h15 i hi).2; omega⟩) (by omega)) (ci := 8) hM.1 (by decide) rfl rfl k_1160 k_1162 k_55 k_67 k_1163 hd_X9_pointWeight ⟨(Nat.le_of_ble_eq_true rfl), (Nat.le_of_ble_eq_true rfl)⟩ rfl (by first | exact Nat.le_of_ble_eq_true rfl | simp [x_crf, Value.category]) rfl rfl D_X9_growPoints_0.2.2.2.2.2.2.2.2.2.2.1 ⟨(Nat.le_of_ble_eq_true rfl), (Nat.le_of_ble_eq_true rfl)⟩ (fun r_12 S_12 h_12 => ?_)
        obtain ⟨rfl, rfl⟩ := h_12
        have hw_12 := cnW_le n ps (u)
        refine x_istore C (lv' := [_, _, _, _, _, _]) D_X9_growPoints_0.2.2.2.2.2.2.2.2.2.2.2 (Nat.le_of_ble_eq_true rfl) (by first | rfl | exact x_ok_q rfl) rfl ?_
        refine x_iconst C (v := nI 3) D_X9_growPoints_1.1 (by decide +kernel) ?_
        refine x_aload_n C D_X9_growPoints_1.2.1 rfl rfl (by first | exact Or.inr ⟨_, rfl⟩ | exact va_rf_or _ | exact Or.inl rfl) ?_
        refine x_iconst C (v := nI 2) D_X9_growPoints_1.2.2.1 (by decide +kernel) ?_
        refine x_iload_n C D_X9_growPoints_1.2.2.2.1 rfl rfl ?_
        refine x_imul C D_X9_growPoints_1.2.2.2.2.1 ?_
        first
        | refine x_eqi _ (pk_mul _ _) ?_
        | skip
        refine x_callVi C (y := yX9_pointWeight) (c_X9_pointWeight l G m n (2 * u) ar ps hM hn hnb (fun i hi => ⟨(h15 i hi).1, by have := (h15 i hi).2; omega⟩) (by omega)) (ci := 8) hM.1 (by decide) rfl rfl k_1160 k_1162 k_55 k_67 k_1163 hd_X9_pointWeight ⟨(Nat.le_of_ble_eq_true rfl), (Nat.le_of_ble_eq_true rfl)⟩ rfl (by first | exact Nat.le_of_ble_eq_true rfl | simp [x_crf, Value.category]) rfl rfl D_X9_growPoints_1.2.2.2.2.2.1 ⟨(Nat.le_of_ble_eq_true rfl), (Nat.le_of_ble_eq_true rfl)⟩ (fun r_22 S_22 h_22 => ?_)
        obtain ⟨rfl, rfl⟩ := h_22
        have hw_22 := cnW_le n ps (2 * u)
        refine x_imul C D_X9_growPoints_1.2.2.2.2.2.2.1 ?_
        first
        | refine x_eqi _ (pk_mul _ _) ?_
        | skip
        refine x_iconst C (v := nI 2) D_X9_growPoints_1.2.2.2.2.2.2.2.1 (by decide +kernel) ?_
        refine x_iload C D_X9_growPoints_1.2.2.2.2.2.2.2.2.1 rfl ?_
        refine x_imul C D_X9_growPoints_1.2.2.2.2.2.2.2.2.2.1 ?_
        first
        | refine x_eqi _ (pk_mul _ _) ?_
        | skip
        refine x_icmp_gt C 51 D_X9_growPoints_1.2.2.2.2.2.2.2.2.2.2.1 (by decide) (fun c_30 => ?_) (fun c_30 => ?_)
        · skip
          first
          | have d_30 := cv_lt c_30 (by omega) (by omega)
          | skip
          have hh : hvF n ps u = true := by unfold hvF; rw [decide_eq_true d_30, Bool.true_or]
          refine x_iconst C (v := nI 1) D_X9_growPoints_3.1 (by decide +kernel) ?_
          refine x_goto C 56 D_X9_growPoints_3.2.1 (by decide) ?_
          refine x_istore C (lv' := [_, _, _, _, _, _]) D_X9_growPoints_3.2.2.2.1 (Nat.le_of_ble_eq_true rfl) (by first | rfl | exact x_ok_q rfl) rfl ?_
          refine x_iload C D_X9_growPoints_3.2.2.2.2.1 rfl ?_
          refine x_if_eq C 67 D_X9_growPoints_3.2.2.2.2.2.1 (by decide) (fun c_60 => ?_) (fun c_60 => ?_)
          · skip
            exact absurd c_60 (by decide)
          · skip
            first
            | have d_60 := cz_ne c_60 (by omega)
            | have d_60 := cb_ne c_60
            | skip
            refine x_iload_n C D_X9_growPoints_3.2.2.2.2.2.2.1 rfl rfl ?_
            refine x_goto C 68 D_X9_growPoints_3.2.2.2.2.2.2.2.1 (by decide) ?_
            refine x_istore_n C (lv' := [_, _, _, _, _, _]) D_X9_growPoints_3.2.2.2.2.2.2.2.2.2.1 rfl (Nat.le_of_ble_eq_true rfl) (by first | rfl | exact x_ok_q rfl) rfl ?_
            refine x_iload_n C D_X9_growPoints_3.2.2.2.2.2.2.2.2.2.2.1 rfl rfl ?_
            refine x_iconst C (v := nI 2) D_X9_growPoints_3.2.2.2.2.2.2.2.2.2.2.2 (by decide +kernel) ?_
            refine x_idiv C D_X9_growPoints_4.1 (by decide) ?_
            first
            | refine x_eqi _ (pk_div (by omega) (by decide) (by decide)) ?_
            | skip
            refine x_istore_n C (lv' := [_, _, _, _, _, _]) D_X9_growPoints_4.2.1 rfl (Nat.le_of_ble_eq_true rfl) (by first | rfl | exact x_ok_q rfl) rfl ?_
            refine x_goto C 6 D_X9_growPoints_4.2.2.1 (by decide) ?_
            exact ih_6 g (u / 2) u _ _ (by omega) (by rw [Nat.pow_succ] at huf; omega) (by omega) hu (by rw [hh, if_pos rfl] at hT; exact hT)
        · skip
          first
          | have d_30 := cv_nlt c_30 (by omega) (by omega)
          | skip
          refine x_iconst C (v := nI 3) D_X9_growPoints_1.2.2.2.2.2.2.2.2.2.2.2 (by decide +kernel) ?_
          refine x_aload_n C D_X9_growPoints_2.1 rfl rfl (by first | exact Or.inr ⟨_, rfl⟩ | exact va_rf_or _ | exact Or.inl rfl) ?_
          refine x_iconst C (v := nI 2) D_X9_growPoints_2.2.1 (by decide +kernel) ?_
          refine x_iload_n C D_X9_growPoints_2.2.2.1 rfl rfl ?_
          refine x_imul C D_X9_growPoints_2.2.2.2.1 ?_
          first
          | refine x_eqi _ (pk_mul _ _) ?_
          | skip
          refine x_iconst C (v := nI 1) D_X9_growPoints_2.2.2.2.2.1 (by decide +kernel) ?_
          refine x_iadd C D_X9_growPoints_2.2.2.2.2.2.1 ?_
          first
          | refine x_eqi _ (nI_add _ _) ?_
          | skip
          refine x_callVi C (y := yX9_pointWeight) (c_X9_pointWeight l G m n (2 * u + 1) ar ps hM hn hnb (fun i hi => ⟨(h15 i hi).1, by have := (h15 i hi).2; omega⟩) (by omega)) (ci := 8) hM.1 (by decide) rfl rfl k_1160 k_1162 k_55 k_67 k_1163 hd_X9_pointWeight ⟨(Nat.le_of_ble_eq_true rfl), (Nat.le_of_ble_eq_true rfl)⟩ rfl (by first | exact Nat.le_of_ble_eq_true rfl | simp [x_crf, Value.category]) rfl rfl D_X9_growPoints_2.2.2.2.2.2.2.1 ⟨(Nat.le_of_ble_eq_true rfl), (Nat.le_of_ble_eq_true rfl)⟩ (fun r_40 S_40 h_40 => ?_)
          obtain ⟨rfl, rfl⟩ := h_40
          have hw_40 := cnW_le n ps (2 * u + 1)
          refine x_imul C D_X9_growPoints_2.2.2.2.2.2.2.2.1 ?_
          first
          | refine x_eqi _ (pk_mul _ _) ?_
          | skip
          refine x_iconst C (v := nI 2) D_X9_growPoints_2.2.2.2.2.2.2.2.2.1 (by decide +kernel) ?_
          refine x_iload C D_X9_growPoints_2.2.2.2.2.2.2.2.2.2.1 rfl ?_
          refine x_imul C D_X9_growPoints_2.2.2.2.2.2.2.2.2.2.2.1 ?_
          first
          | refine x_eqi _ (pk_mul _ _) ?_
          | skip
          refine x_icmp_le C 55 D_X9_growPoints_2.2.2.2.2.2.2.2.2.2.2.2 (by decide) (fun c_48 => ?_) (fun c_48 => ?_)
          · skip
            first
            | have d_48 := cv_le c_48 (by omega) (by omega)
            | skip
            have hh : hvF n ps u = false := by unfold hvF; rw [decide_eq_false (by omega), decide_eq_false (by omega)]; rfl
            refine x_iconst C (v := nI 0) D_X9_growPoints_3.2.2.1 (by decide +kernel) ?_
            refine x_istore C (lv' := [_, _, _, _, _, _]) D_X9_growPoints_3.2.2.2.1 (Nat.le_of_ble_eq_true rfl) (by first | rfl | exact x_ok_q rfl) rfl ?_
            refine x_iload C D_X9_growPoints_3.2.2.2.2.1 rfl ?_
            refine x_if_eq C 67 D_X9_growPoints_3.2.2.2.2.2.1 (by decide) (fun c_60 => ?_) (fun c_60 => ?_)
            · skip
              first
              | have d_60 := cz_eq c_60 (by omega)
              | have d_60 := cb_eq c_60
              | skip
              refine x_iload_n C D_X9_growPoints_3.2.2.2.2.2.2.2.2.1 rfl rfl ?_
              refine x_istore_n C (lv' := [_, _, _, _, _, _]) D_X9_growPoints_3.2.2.2.2.2.2.2.2.2.1 rfl (Nat.le_of_ble_eq_true rfl) (by first | rfl | exact x_ok_q rfl) rfl ?_
              refine x_iload_n C D_X9_growPoints_3.2.2.2.2.2.2.2.2.2.2.1 rfl rfl ?_
              refine x_iconst C (v := nI 2) D_X9_growPoints_3.2.2.2.2.2.2.2.2.2.2.2 (by decide +kernel) ?_
              refine x_idiv C D_X9_growPoints_4.1 (by decide) ?_
              first
              | refine x_eqi _ (pk_div (by omega) (by decide) (by decide)) ?_
              | skip
              refine x_istore_n C (lv' := [_, _, _, _, _, _]) D_X9_growPoints_4.2.1 rfl (Nat.le_of_ble_eq_true rfl) (by first | rfl | exact x_ok_q rfl) rfl ?_
              refine x_goto C 6 D_X9_growPoints_4.2.2.1 (by decide) ?_
              exact ih_6 g (u / 2) fd _ _ (by omega) (by rw [Nat.pow_succ] at huf; omega) (by omega) hfb (by rw [hh, if_neg (by decide)] at hT; exact hT)
            · skip
              exact absurd c_60 (by decide)
          · skip
            first
            | have d_48 := cv_nle c_48 (by omega) (by omega)
            | skip
            have hh : hvF n ps u = true := by unfold hvF; rw [decide_eq_true d_48, Bool.or_true]
            refine x_iconst C (v := nI 1) D_X9_growPoints_3.1 (by decide +kernel) ?_
            refine x_goto C 56 D_X9_growPoints_3.2.1 (by decide) ?_
            refine x_istore C (lv' := [_, _, _, _, _, _]) D_X9_growPoints_3.2.2.2.1 (Nat.le_of_ble_eq_true rfl) (by first | rfl | exact x_ok_q rfl) rfl ?_
            refine x_iload C D_X9_growPoints_3.2.2.2.2.1 rfl ?_
            refine x_if_eq C 67 D_X9_growPoints_3.2.2.2.2.2.1 (by decide) (fun c_60 => ?_) (fun c_60 => ?_)
            · skip
              exact absurd c_60 (by decide)
            · skip
              first
              | have d_60 := cz_ne c_60 (by omega)
              | have d_60 := cb_ne c_60
              | skip
              refine x_iload_n C D_X9_growPoints_3.2.2.2.2.2.2.1 rfl rfl ?_
              refine x_goto C 68 D_X9_growPoints_3.2.2.2.2.2.2.2.1 (by decide) ?_
              refine x_istore_n C (lv' := [_, _, _, _, _, _]) D_X9_growPoints_3.2.2.2.2.2.2.2.2.2.1 rfl (Nat.le_of_ble_eq_true rfl) (by first | rfl | exact x_ok_q rfl) rfl ?_
              refine x_iload_n C D_X9_growPoints_3.2.2.2.2.2.2.2.2.2.2.1 rfl rfl ?_
              refine x_iconst C (v := nI 2) D_X9_growPoints_3.2.2.2.2.2.2.2.2.2.2.2 (by decide +kernel) ?_
              refine x_idiv C D_X9_growPoints_4.1 (by decide) ?_
              first
              | refine x_eqi _ (pk_div (by omega) (by decide) (by decide)) ?_
              | skip
              refine x_istore_n C (lv' := [_, _, _, _, _, _]) D_X9_growPoints_4.2.1 rfl (Nat.le_of_ble_eq_true rfl) (by first | rfl | exact x_ok_q rfl) rfl ?_
              refine x_goto C 6 D_X9_growPoints_4.2.2.1 (by decide) ?_
              exact ih_6 g (u / 2) u _ _ (by omega) (by rw [Nat.pow_succ] at huf; omega) (by omega) hu (by rw [hh, if_pos rfl] at hT; exact hT)
  exact L_6 _ 26 (p0 / 2) 0 _ _ (Nat.lt_succ_self _) (by omega) (by omega) (by omega) eFD.symm
