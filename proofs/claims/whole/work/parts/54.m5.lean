theorem D_X9_turn_0 : decode cX9_turn 0 = .ok (.iconst 2, 1) ∧ decode cX9_turn 1 = .ok (.iload_n 1, 1) ∧ decode cX9_turn 2 = .ok (.imul, 1) ∧ decode cX9_turn 3 = .ok (.iload_n 2, 1) ∧ decode cX9_turn 4 = .ok (.ifCond .eq 7, 3) ∧ decode cX9_turn 7 = .ok (.iconst 1, 1) ∧ decode cX9_turn 8 = .ok (.goto 4, 3) ∧ decode cX9_turn 11 = .ok (.iconst 0, 1) ∧ decode cX9_turn 12 = .ok (.iadd, 1) ∧ decode cX9_turn 13 = .ok (.istore_n 3, 1) ∧ decode cX9_turn 14 = .ok (.iconst 2, 1) ∧ decode cX9_turn 15 = .ok (.iload_n 1, 1) := by decide +kernel
theorem D_X9_turn_1 : decode cX9_turn 16 = .ok (.imul, 1) ∧ decode cX9_turn 17 = .ok (.iload_n 2, 1) ∧ decode cX9_turn 18 = .ok (.ifCond .eq 7, 3) ∧ decode cX9_turn 21 = .ok (.iconst 0, 1) ∧ decode cX9_turn 22 = .ok (.goto 4, 3) ∧ decode cX9_turn 25 = .ok (.iconst 1, 1) ∧ decode cX9_turn 26 = .ok (.iadd, 1) ∧ decode cX9_turn 27 = .ok (.istore 4, 2) ∧ decode cX9_turn 29 = .ok (.iconst 2, 1) ∧ decode cX9_turn 30 = .ok (.iload_n 3, 1) ∧ decode cX9_turn 31 = .ok (.imul, 1) ∧ decode cX9_turn 32 = .ok (.iload_n 2, 1) := by decide +kernel
theorem D_X9_turn_2 : decode cX9_turn 33 = .ok (.ifCond .eq 7, 3) ∧ decode cX9_turn 36 = .ok (.iconst 0, 1) ∧ decode cX9_turn 37 = .ok (.goto 4, 3) ∧ decode cX9_turn 40 = .ok (.iconst 1, 1) ∧ decode cX9_turn 41 = .ok (.iadd, 1) ∧ decode cX9_turn 42 = .ok (.istore 5, 2) ∧ decode cX9_turn 44 = .ok (.iconst 2, 1) ∧ decode cX9_turn 45 = .ok (.iload_n 3, 1) ∧ decode cX9_turn 46 = .ok (.imul, 1) ∧ decode cX9_turn 47 = .ok (.iload_n 2, 1) ∧ decode cX9_turn 48 = .ok (.ifCond .eq 7, 3) ∧ decode cX9_turn 51 = .ok (.iconst 1, 1) := by decide +kernel
theorem D_X9_turn_3 : decode cX9_turn 52 = .ok (.goto 4, 3) ∧ decode cX9_turn 55 = .ok (.iconst 0, 1) ∧ decode cX9_turn 56 = .ok (.iadd, 1) ∧ decode cX9_turn 57 = .ok (.istore 6, 2) ∧ decode cX9_turn 59 = .ok (.iconst 0, 1) ∧ decode cX9_turn 60 = .ok (.istore 7, 2) ∧ decode cX9_turn 62 = .ok (.iload 7, 2) ∧ decode cX9_turn 64 = .ok (.aload_n 0, 1) ∧ decode cX9_turn 65 = .ok (.getfield 60, 3) ∧ decode cX9_turn 68 = .ok (.if_icmp .ge 175, 3) ∧ decode cX9_turn 71 = .ok (.aload_n 0, 1) ∧ decode cX9_turn 72 = .ok (.getfield 20, 3) := by decide +kernel
theorem D_X9_turn_4 : decode cX9_turn 75 = .ok (.iload 7, 2) ∧ decode cX9_turn 77 = .ok (.iaload, 1) ∧ decode cX9_turn 78 = .ok (.istore 8, 2) ∧ decode cX9_turn 80 = .ok (.iload 8, 2) ∧ decode cX9_turn 82 = .ok (.iload_n 1, 1) ∧ decode cX9_turn 83 = .ok (.if_icmp .ne 15, 3) ∧ decode cX9_turn 86 = .ok (.aload_n 0, 1) ∧ decode cX9_turn 87 = .ok (.getfield 20, 3) ∧ decode cX9_turn 90 = .ok (.iload 7, 2) ∧ decode cX9_turn 92 = .ok (.iload 4, 2) ∧ decode cX9_turn 94 = .ok (.iastore, 1) ∧ decode cX9_turn 95 = .ok (.goto 142, 3) := by decide +kernel
theorem D_X9_turn_5 : decode cX9_turn 98 = .ok (.iload 8, 2) ∧ decode cX9_turn 100 = .ok (.iload_n 3, 1) ∧ decode cX9_turn 101 = .ok (.if_icmp .ne 14, 3) ∧ decode cX9_turn 104 = .ok (.aload_n 0, 1) ∧ decode cX9_turn 105 = .ok (.getfield 20, 3) ∧ decode cX9_turn 108 = .ok (.iload 7, 2) ∧ decode cX9_turn 110 = .ok (.iload_n 1, 1) ∧ decode cX9_turn 111 = .ok (.iastore, 1) ∧ decode cX9_turn 112 = .ok (.goto 125, 3) ∧ decode cX9_turn 115 = .ok (.iload 8, 2) ∧ decode cX9_turn 117 = .ok (.ifCond .le 44, 3) ∧ decode cX9_turn 120 = .ok (.iload 8, 2) := by decide +kernel
theorem D_X9_turn_6 : decode cX9_turn 122 = .ok (.iload 4, 2) ∧ decode cX9_turn 124 = .ok (.invokestatic 52, 3) ∧ decode cX9_turn 127 = .ok (.ifCond .eq 34, 3) ∧ decode cX9_turn 130 = .ok (.aload_n 0, 1) ∧ decode cX9_turn 131 = .ok (.getfield 20, 3) ∧ decode cX9_turn 134 = .ok (.iload 7, 2) ∧ decode cX9_turn 136 = .ok (.iload 8, 2) ∧ decode cX9_turn 138 = .ok (.iload 4, 2) ∧ decode cX9_turn 140 = .ok (.iconst 2, 1) ∧ decode cX9_turn 141 = .ok (.iload 4, 2) ∧ decode cX9_turn 143 = .ok (.imul, 1) ∧ decode cX9_turn 144 = .ok (.iload_n 2, 1) := by decide +kernel
theorem D_X9_turn_7 : decode cX9_turn 145 = .ok (.ifCond .eq 7, 3) ∧ decode cX9_turn 148 = .ok (.iconst 0, 1) ∧ decode cX9_turn 149 = .ok (.goto 4, 3) ∧ decode cX9_turn 152 = .ok (.iconst 1, 1) ∧ decode cX9_turn 153 = .ok (.iadd, 1) ∧ decode cX9_turn 154 = .ok (.invokestatic 86, 3) ∧ decode cX9_turn 157 = .ok (.iastore, 1) ∧ decode cX9_turn 158 = .ok (.goto 79, 3) ∧ decode cX9_turn 161 = .ok (.iload 8, 2) ∧ decode cX9_turn 163 = .ok (.ifCond .le 44, 3) ∧ decode cX9_turn 166 = .ok (.iload 8, 2) ∧ decode cX9_turn 168 = .ok (.iload 5, 2) := by decide +kernel
theorem D_X9_turn_8 : decode cX9_turn 170 = .ok (.invokestatic 52, 3) ∧ decode cX9_turn 173 = .ok (.ifCond .eq 34, 3) ∧ decode cX9_turn 176 = .ok (.aload_n 0, 1) ∧ decode cX9_turn 177 = .ok (.getfield 20, 3) ∧ decode cX9_turn 180 = .ok (.iload 7, 2) ∧ decode cX9_turn 182 = .ok (.iload 8, 2) ∧ decode cX9_turn 184 = .ok (.iload 5, 2) ∧ decode cX9_turn 186 = .ok (.iconst 2, 1) ∧ decode cX9_turn 187 = .ok (.iload 4, 2) ∧ decode cX9_turn 189 = .ok (.imul, 1) ∧ decode cX9_turn 190 = .ok (.iload_n 2, 1) ∧ decode cX9_turn 191 = .ok (.ifCond .eq 7, 3) := by decide +kernel
theorem D_X9_turn_9 : decode cX9_turn 194 = .ok (.iconst 1, 1) ∧ decode cX9_turn 195 = .ok (.goto 4, 3) ∧ decode cX9_turn 198 = .ok (.iconst 0, 1) ∧ decode cX9_turn 199 = .ok (.iadd, 1) ∧ decode cX9_turn 200 = .ok (.invokestatic 86, 3) ∧ decode cX9_turn 203 = .ok (.iastore, 1) ∧ decode cX9_turn 204 = .ok (.goto 33, 3) ∧ decode cX9_turn 207 = .ok (.iload 8, 2) ∧ decode cX9_turn 209 = .ok (.ifCond .le 28, 3) ∧ decode cX9_turn 212 = .ok (.iload 8, 2) ∧ decode cX9_turn 214 = .ok (.iload 6, 2) ∧ decode cX9_turn 216 = .ok (.invokestatic 52, 3) := by decide +kernel
theorem D_X9_turn_10 : decode cX9_turn 219 = .ok (.ifCond .eq 18, 3) ∧ decode cX9_turn 222 = .ok (.aload_n 0, 1) ∧ decode cX9_turn 223 = .ok (.getfield 20, 3) ∧ decode cX9_turn 226 = .ok (.iload 7, 2) ∧ decode cX9_turn 228 = .ok (.iload 8, 2) ∧ decode cX9_turn 230 = .ok (.iload 6, 2) ∧ decode cX9_turn 232 = .ok (.iload_n 3, 1) ∧ decode cX9_turn 233 = .ok (.invokestatic 86, 3) ∧ decode cX9_turn 236 = .ok (.iastore, 1) ∧ decode cX9_turn 237 = .ok (.iinc 7 1, 3) ∧ decode cX9_turn 240 = .ok (.goto (-178), 3) ∧ decode cX9_turn 243 = .ok (.aload_n 0, 1) := by decide +kernel
theorem D_X9_turn_11 : decode cX9_turn 244 = .ok (.dup, 1) ∧ decode cX9_turn 245 = .ok (.getfield 90, 3) ∧ decode cX9_turn 248 = .ok (.iconst 1, 1) ∧ decode cX9_turn 249 = .ok (.iadd, 1) ∧ decode cX9_turn 250 = .ok (.putfield 90, 3) ∧ decode cX9_turn 253 = .ok (.return_, 1) := by decide +kernel
theorem D_X9_balance_0 : decode cX9_balance 0 = .ok (.aload_n 0, 1) ∧ decode cX9_balance 1 = .ok (.iconst 2, 1) ∧ decode cX9_balance 2 = .ok (.iload_n 1, 1) ∧ decode cX9_balance 3 = .ok (.imul, 1) ∧ decode cX9_balance 4 = .ok (.invokevirtual 93, 3) ∧ decode cX9_balance 7 = .ok (.istore_n 2, 1) ∧ decode cX9_balance 8 = .ok (.aload_n 0, 1) ∧ decode cX9_balance 9 = .ok (.iconst 2, 1) ∧ decode cX9_balance 10 = .ok (.iload_n 1, 1) ∧ decode cX9_balance 11 = .ok (.imul, 1) ∧ decode cX9_balance 12 = .ok (.iconst 1, 1) ∧ decode cX9_balance 13 = .ok (.iadd, 1) := by decide +kernel
theorem D_X9_balance_1 : decode cX9_balance 14 = .ok (.invokevirtual 93, 3) ∧ decode cX9_balance 17 = .ok (.istore_n 3, 1) ∧ decode cX9_balance 18 = .ok (.iload_n 3, 1) ∧ decode cX9_balance 19 = .ok (.iconst 3, 1) ∧ decode cX9_balance 20 = .ok (.iload_n 2, 1) ∧ decode cX9_balance 21 = .ok (.imul, 1) ∧ decode cX9_balance 22 = .ok (.if_icmp .le 45, 3) ∧ decode cX9_balance 25 = .ok (.aload_n 0, 1) ∧ decode cX9_balance 26 = .ok (.iconst 4, 1) ∧ decode cX9_balance 27 = .ok (.iload_n 1, 1) ∧ decode cX9_balance 28 = .ok (.imul, 1) ∧ decode cX9_balance 29 = .ok (.iconst 2, 1) := by decide +kernel
theorem D_X9_balance_2 : decode cX9_balance 30 = .ok (.iadd, 1) ∧ decode cX9_balance 31 = .ok (.invokevirtual 93, 3) ∧ decode cX9_balance 34 = .ok (.iconst 2, 1) ∧ decode cX9_balance 35 = .ok (.aload_n 0, 1) ∧ decode cX9_balance 36 = .ok (.iconst 4, 1) ∧ decode cX9_balance 37 = .ok (.iload_n 1, 1) ∧ decode cX9_balance 38 = .ok (.imul, 1) ∧ decode cX9_balance 39 = .ok (.iconst 3, 1) ∧ decode cX9_balance 40 = .ok (.iadd, 1) ∧ decode cX9_balance 41 = .ok (.invokevirtual 93, 3) ∧ decode cX9_balance 44 = .ok (.imul, 1) ∧ decode cX9_balance 45 = .ok (.if_icmp .lt 13, 3) := by decide +kernel
theorem D_X9_balance_3 : decode cX9_balance 48 = .ok (.aload_n 0, 1) ∧ decode cX9_balance 49 = .ok (.iconst 2, 1) ∧ decode cX9_balance 50 = .ok (.iload_n 1, 1) ∧ decode cX9_balance 51 = .ok (.imul, 1) ∧ decode cX9_balance 52 = .ok (.iconst 1, 1) ∧ decode cX9_balance 53 = .ok (.iadd, 1) ∧ decode cX9_balance 54 = .ok (.iconst 0, 1) ∧ decode cX9_balance 55 = .ok (.invokevirtual 96, 3) ∧ decode cX9_balance 58 = .ok (.aload_n 0, 1) ∧ decode cX9_balance 59 = .ok (.iload_n 1, 1) ∧ decode cX9_balance 60 = .ok (.iconst 1, 1) ∧ decode cX9_balance 61 = .ok (.invokevirtual 96, 3) := by decide +kernel
theorem D_X9_balance_4 : decode cX9_balance 64 = .ok (.goto 45, 3) ∧ decode cX9_balance 67 = .ok (.iload_n 2, 1) ∧ decode cX9_balance 68 = .ok (.iconst 3, 1) ∧ decode cX9_balance 69 = .ok (.iload_n 3, 1) ∧ decode cX9_balance 70 = .ok (.imul, 1) ∧ decode cX9_balance 71 = .ok (.if_icmp .le 38, 3) ∧ decode cX9_balance 74 = .ok (.aload_n 0, 1) ∧ decode cX9_balance 75 = .ok (.iconst 4, 1) ∧ decode cX9_balance 76 = .ok (.iload_n 1, 1) ∧ decode cX9_balance 77 = .ok (.imul, 1) ∧ decode cX9_balance 78 = .ok (.iconst 1, 1) ∧ decode cX9_balance 79 = .ok (.iadd, 1) := by decide +kernel
theorem D_X9_balance_5 : decode cX9_balance 80 = .ok (.invokevirtual 93, 3) ∧ decode cX9_balance 83 = .ok (.iconst 2, 1) ∧ decode cX9_balance 84 = .ok (.aload_n 0, 1) ∧ decode cX9_balance 85 = .ok (.iconst 4, 1) ∧ decode cX9_balance 86 = .ok (.iload_n 1, 1) ∧ decode cX9_balance 87 = .ok (.imul, 1) ∧ decode cX9_balance 88 = .ok (.invokevirtual 93, 3) ∧ decode cX9_balance 91 = .ok (.imul, 1) ∧ decode cX9_balance 92 = .ok (.if_icmp .lt 11, 3) ∧ decode cX9_balance 95 = .ok (.aload_n 0, 1) ∧ decode cX9_balance 96 = .ok (.iconst 2, 1) ∧ decode cX9_balance 97 = .ok (.iload_n 1, 1) := by decide +kernel
theorem D_X9_balance_6 : decode cX9_balance 98 = .ok (.imul, 1) ∧ decode cX9_balance 99 = .ok (.iconst 1, 1) ∧ decode cX9_balance 100 = .ok (.invokevirtual 96, 3) ∧ decode cX9_balance 103 = .ok (.aload_n 0, 1) ∧ decode cX9_balance 104 = .ok (.iload_n 1, 1) ∧ decode cX9_balance 105 = .ok (.iconst 0, 1) ∧ decode cX9_balance 106 = .ok (.invokevirtual 96, 3) ∧ decode cX9_balance 109 = .ok (.return_, 1) := by decide +kernel
theorem D_X9_balancesAbove_0 : decode cX9_balancesAbove 0 = .ok (.iload_n 1, 1) ∧ decode cX9_balancesAbove 1 = .ok (.iconst 2, 1) ∧ decode cX9_balancesAbove 2 = .ok (.idiv, 1) ∧ decode cX9_balancesAbove 3 = .ok (.istore_n 2, 1) ∧ decode cX9_balancesAbove 4 = .ok (.iload_n 2, 1) ∧ decode cX9_balancesAbove 5 = .ok (.ifCond .le 15, 3) ∧ decode cX9_balancesAbove 8 = .ok (.aload_n 0, 1) ∧ decode cX9_balancesAbove 9 = .ok (.iload_n 2, 1) ∧ decode cX9_balancesAbove 10 = .ok (.invokevirtual 100, 3) ∧ decode cX9_balancesAbove 13 = .ok (.iload_n 2, 1) ∧ decode cX9_balancesAbove 14 = .ok (.iconst 2, 1) ∧ decode cX9_balancesAbove 15 = .ok (.idiv, 1) := by decide +kernel
theorem D_X9_balancesAbove_1 : decode cX9_balancesAbove 16 = .ok (.istore_n 2, 1) ∧ decode cX9_balancesAbove 17 = .ok (.goto (-13), 3) ∧ decode cX9_balancesAbove 20 = .ok (.return_, 1) := by decide +kernel
theorem D_X9_grows_0 : decode cX9_grows 0 = .ok (.aload_n 0, 1) ∧ decode cX9_grows 1 = .ok (.aload_n 0, 1) ∧ decode cX9_grows 2 = .ok (.getfield 20, 3) ∧ decode cX9_grows 5 = .ok (.aload_n 0, 1) ∧ decode cX9_grows 6 = .ok (.getfield 7, 3) ∧ decode cX9_grows 9 = .ok (.iload_n 1, 1) ∧ decode cX9_grows 10 = .ok (.iaload, 1) ∧ decode cX9_grows 11 = .ok (.invokevirtual 103, 3) ∧ decode cX9_grows 14 = .ok (.istore_n 2, 1) ∧ decode cX9_grows 15 = .ok (.aload_n 0, 1) ∧ decode cX9_grows 16 = .ok (.getfield 20, 3) ∧ decode cX9_grows 19 = .ok (.iload_n 1, 1) := by decide +kernel
theorem D_X9_grows_1 : decode cX9_grows 20 = .ok (.iload_n 2, 1) ∧ decode cX9_grows 21 = .ok (.iastore, 1) ∧ decode cX9_grows 22 = .ok (.aload_n 0, 1) ∧ decode cX9_grows 23 = .ok (.iload_n 2, 1) ∧ decode cX9_grows 24 = .ok (.invokevirtual 107, 3) ∧ decode cX9_grows 27 = .ok (.return_, 1) := by decide +kernel
abbrev rm_X9_turn_1 : Room := { frames := 2, cells := 0, slots := 0, locals := 45 }
theorem hd_X9_moved : yX9_moved.cls ≠ "java/lang/invoke/MethodHandle" ∧ yX9_moved.cls ≠ "java/lang/invoke/VarHandle" ∧ (parseMethodDescriptor yX9_moved.desc).map (fun d => d.parameters.length) = some 3 := by decide +kernel
set_option maxHeartbeats 4000000 in
set_option maxRecDepth 100000 in
theorem c_X9_turn_1 (l : Launch) (G : xG) {K N : Nat → Nat} {I : Nat → Nat → Int32} {Q : Nat → Nat → Option Nat} {J : Nat → Nat → Int64} (m n p0 : Nat) (ar tu : Nat → Nat) (hM : MZ K N Q m ar) (hn : I m 0 = nI n) (hnb : n ≤ 202) (htu : ∀ i, i < n → I (ar 8) i = nI (tu i) ∧ tu i < 2 ^ 28) (hp0 : 0 < p0) (hp : p0 < 2 ^ 26) : XM l yX9_turn cX9_turn 9 none rm_X9_turn_1 G Rv [.ref m, .int (nI p0), .int (nI 1)] (K, N, I, Q, J) (fun _ S1 => ∃ I1, S1 = (K, N, I1, Q, J) ∧ (∀ i, i < n → I1 (ar 8) i = nI (turnM 1 0 p0 (tu i))) ∧ I1 m 3 = I m 3 + nI 1 ∧ (∀ a j, ¬ (a = ar 8 ∧ j < n) → ¬ (a = m ∧ j = 3) → I1 a j = I a j)) := by
  refine x_metv (lv := [_, _, _, _, _, _, _, _, _]) (by decide +kernel) (x_cc (by first | rfl | exact x_crf _) (x_cc (by first | rfl | exact x_crf _) (x_cc (by first | rfl | exact x_crf _) x_cn))) (Nat.le_of_ble_eq_true rfl) rfl ?_
  intro pP eE sS mM aA bB hH cC Z C hini ret
  have hk9 := hM.1
  have h202 := hM.nk 8 (by decide)
  have hm8 := hM.nm 8 (by decide)
  refine x_iconst C (v := nI 2) D_X9_turn_0.1 (by decide +kernel) ?_
  refine x_iload_n C D_X9_turn_0.2.1 rfl rfl ?_
  refine x_imul C D_X9_turn_0.2.2.1 ?_
  first
  | refine x_eqi _ (pk_mul _ _) ?_
  | skip
  refine x_iload_n C D_X9_turn_0.2.2.2.1 rfl rfl ?_
  refine x_if_eq C 11 D_X9_turn_0.2.2.2.2.1 (by decide) (fun c_4 => ?_) (fun c_4 => ?_)
  · skip
    exact absurd c_4 (by decide)
  · skip
    first
    | have d_4 := cz_ne c_4 (by omega)
    | have d_4 := cb_ne c_4
    | skip
    refine x_iconst C (v := nI 1) D_X9_turn_0.2.2.2.2.2.1 (by decide +kernel) ?_
    refine x_goto C 12 D_X9_turn_0.2.2.2.2.2.2.1 (by decide) ?_
    refine x_iadd C D_X9_turn_0.2.2.2.2.2.2.2.2.1 ?_
    first
    | refine x_eqi _ (nI_add _ _) ?_
    | skip
    refine x_istore_n C (lv' := [_, _, _, _, _, _, _, _, _]) D_X9_turn_0.2.2.2.2.2.2.2.2.2.1 rfl (Nat.le_of_ble_eq_true rfl) (by first | rfl | exact x_ok_q rfl) rfl ?_
    refine x_iconst C (v := nI 2) D_X9_turn_0.2.2.2.2.2.2.2.2.2.2.1 (by decide +kernel) ?_
    refine x_iload_n C D_X9_turn_0.2.2.2.2.2.2.2.2.2.2.2 rfl rfl ?_
    refine x_imul C D_X9_turn_1.1 ?_
    first
    | refine x_eqi _ (pk_mul _ _) ?_
    | skip
    refine x_iload_n C D_X9_turn_1.2.1 rfl rfl ?_
    refine x_if_eq C 25 D_X9_turn_1.2.2.1 (by decide) (fun c_18 => ?_) (fun c_18 => ?_)
    · skip
      exact absurd c_18 (by decide)
    · skip
      first
      | have d_18 := cz_ne c_18 (by omega)
      | have d_18 := cb_ne c_18
      | skip
      refine x_iconst C (v := nI 0) D_X9_turn_1.2.2.2.1 (by decide +kernel) ?_
      refine x_goto C 26 D_X9_turn_1.2.2.2.2.1 (by decide) ?_
      refine x_iadd C D_X9_turn_1.2.2.2.2.2.2.1 ?_
      first
      | refine x_eqi _ (nI_add _ _) ?_
      | skip
      refine x_istore C (lv' := [_, _, _, _, _, _, _, _, _]) D_X9_turn_1.2.2.2.2.2.2.2.1 (Nat.le_of_ble_eq_true rfl) (by first | rfl | exact x_ok_q rfl) rfl ?_
      refine x_iconst C (v := nI 2) D_X9_turn_1.2.2.2.2.2.2.2.2.1 (by decide +kernel) ?_
      refine x_iload_n C D_X9_turn_1.2.2.2.2.2.2.2.2.2.1 rfl rfl ?_
      refine x_imul C D_X9_turn_1.2.2.2.2.2.2.2.2.2.2.1 ?_
      first
      | refine x_eqi _ (pk_mul _ _) ?_
      | skip
      refine x_iload_n C D_X9_turn_1.2.2.2.2.2.2.2.2.2.2.2 rfl rfl ?_
      refine x_if_eq C 40 D_X9_turn_2.1 (by decide) (fun c_33 => ?_) (fun c_33 => ?_)
      · skip
        exact absurd c_33 (by decide)
      · skip
        first
        | have d_33 := cz_ne c_33 (by omega)
        | have d_33 := cb_ne c_33
        | skip
        refine x_iconst C (v := nI 0) D_X9_turn_2.2.1 (by decide +kernel) ?_
        refine x_goto C 41 D_X9_turn_2.2.2.1 (by decide) ?_
        refine x_iadd C D_X9_turn_2.2.2.2.2.1 ?_
        first
        | refine x_eqi _ (nI_add _ _) ?_
        | skip
        refine x_istore C (lv' := [_, _, _, _, _, _, _, _, _]) D_X9_turn_2.2.2.2.2.2.1 (Nat.le_of_ble_eq_true rfl) (by first | rfl | exact x_ok_q rfl) rfl ?_
        refine x_iconst C (v := nI 2) D_X9_turn_2.2.2.2.2.2.2.1 (by decide +kernel) ?_
        refine x_iload_n C D_X9_turn_2.2.2.2.2.2.2.2.1 rfl rfl ?_
        refine x_imul C D_X9_turn_2.2.2.2.2.2.2.2.2.1 ?_
        first
        | refine x_eqi _ (pk_mul _ _) ?_
        | skip
        refine x_iload_n C D_X9_turn_2.2.2.2.2.2.2.2.2.2.1 rfl rfl ?_
        refine x_if_eq C 55 D_X9_turn_2.2.2.2.2.2.2.2.2.2.2.1 (by decide) (fun c_48 => ?_) (fun c_48 => ?_)
        · skip
          exact absurd c_48 (by decide)
        · skip
          first
          | have d_48 := cz_ne c_48 (by omega)
          | have d_48 := cb_ne c_48
          | skip
          refine x_iconst C (v := nI 1) D_X9_turn_2.2.2.2.2.2.2.2.2.2.2.2 (by decide +kernel) ?_
          refine x_goto C 56 D_X9_turn_3.1 (by decide) ?_
          refine x_iadd C D_X9_turn_3.2.2.1 ?_
          first
          | refine x_eqi _ (nI_add _ _) ?_
          | skip
          refine x_istore C (lv' := [_, _, _, _, _, _, _, _, _]) D_X9_turn_3.2.2.2.1 (Nat.le_of_ble_eq_true rfl) (by first | rfl | exact x_ok_q rfl) rfl ?_
          refine x_iconst C (v := nI 0) D_X9_turn_3.2.2.2.2.1 (by decide +kernel) ?_
          refine x_istore C (lv' := [_, _, _, _, _, _, _, _, _]) D_X9_turn_3.2.2.2.2.2.1 (Nat.le_of_ble_eq_true rfl) (by first | rfl | exact x_ok_q rfl) rfl ?_
          have L_62 : ∀ (w_62 : Nat) (k0 : Nat) (I1 : Nat → Nat → Int32) (v8 : Option Value), n - k0 < w_62 → (k0 ≤ n) → (∀ i, i < k0 → I1 (ar 8) i = nI (turnM 1 0 p0 (tu i))) → (∀ a j, ¬ (a = ar 8 ∧ j < k0) → I1 a j = I a j) → XW pP l eE rm_X9_turn_1 sS mM aA bB hH cC G Z 0 0 (K, N, I1, Q, J) 62 [some (.ref m), some (.int (nI p0)), some (.int (nI 1)), some (.int (nI (2 * p0 + 1))), some (.int (nI (2 * p0 + 0))), some (.int (nI (2 * (2 * p0 + 1) + 0))), some (.int (nI (2 * (2 * p0 + 1) + 1))), some (.int (nI k0)), v8] [] := by
            intro w_62
            induction w_62 with
            | zero =>
              intro k0 I1 v8 hw_62
              exact absurd hw_62 (Nat.not_lt_zero _)
            | succ w_62 ih_62 =>
              intro k0 I1 v8 hw_62 hk0 hI1 hfr
              have hn1 : I1 m 0 = nI n := by rw [hfr m 0 (fun e => hm8 e.1.symm)]; exact hn
              refine x_iload C D_X9_turn_3.2.2.2.2.2.2.1 rfl ?_
              refine x_aload_n C D_X9_turn_3.2.2.2.2.2.2.2.1 rfl rfl (by first | exact Or.inr ⟨_, rfl⟩ | exact va_rf_or _ | exact Or.inl rfl) ?_
              refine x_getI C (ci := 8) (k0 := 0) (by assumption) (by decide) rfl (by decide) in_X9 k_902 rfl rfl D_X9_turn_3.2.2.2.2.2.2.2.2.1 ?_
              first
              | refine x_eqi _ (hn1) ?_
              | refine x_eqi _ (hs1) ?_
              | skip
              refine x_icmp_ge C 243 D_X9_turn_3.2.2.2.2.2.2.2.2.2.1 (by decide) (fun c_68 => ?_) (fun c_68 => ?_)
              · skip
                first
                | have d_68 := cv_le c_68 (by omega) (by omega)
                | skip
                obtain rfl : k0 = n := by omega
                refine x_aload_n C D_X9_turn_10.2.2.2.2.2.2.2.2.2.2.2 rfl rfl (by first | exact Or.inr ⟨_, rfl⟩ | exact va_rf_or _ | exact Or.inl rfl) ?_
                refine x_dup C D_X9_turn_11.1 (by first | rfl | exact x_crf _) ?_
                refine x_getI C (ci := 8) (k0 := 3) (by assumption) (by decide) rfl (by decide) in_X9 k_905 rfl rfl D_X9_turn_11.2.1 ?_
                first
                | refine x_eqi _ (hn1) ?_
                | refine x_eqi _ (hs1) ?_
                | skip
                refine x_iconst C (v := nI 1) D_X9_turn_11.2.2.1 (by decide +kernel) ?_
                refine x_iadd C D_X9_turn_11.2.2.2.1 ?_
                first
                | refine x_eqi _ (nI_add _ _) ?_
                | skip
                refine x_putI C (ci := 8) (k0 := 3) (by assumption) (by decide) rfl (by decide) in_X9 k_905 rfl tyX9 tyX9_ok nmX9 rfl (by rfl) rfl rfl rfl D_X9_turn_11.2.2.2.2.1 (fun I3 eI3 => ?_)
                refine ret _ _ _ _ _ rfl D_X9_turn_11.2.2.2.2.2 (Nat.le_of_ble_eq_true rfl) (Nat.le_of_ble_eq_true rfl) ?_
                refine ⟨I3, rfl, fun i hi => ?_, ?_, fun a j h1 h2 => ?_⟩
                · rw [eI3, x_u2_a _ _ hm8]; exact hI1 i hi
                · rw [eI3, x_u2_s, hfr m 3 (fun e => hm8 e.1.symm)]
                · rw [eI3]
                  by_cases e : a = m
                  · subst e; rw [x_u2_j _ _ (fun z => h2 ⟨rfl, z⟩)]; exact hfr a j h1
                  · rw [x_u2_a _ _ e]; exact hfr a j h1
              · skip
                first
                | have d_68 := cv_nle c_68 (by omega) (by omega)
                | skip
                obtain ⟨ht1, ht2⟩ := htu k0 (by omega)
                have hs1 : I1 (ar 8) k0 = nI (tu k0) := by rw [hfr (ar 8) k0 (fun e => by omega)]; exact ht1
                refine x_aload_n C D_X9_turn_3.2.2.2.2.2.2.2.2.2.2.1 rfl rfl (by first | exact Or.inr ⟨_, rfl⟩ | exact va_rf_or _ | exact Or.inl rfl) ?_
                refine x_getQ C (ci := 8) (k0 := 8) (by assumption) (by decide) rfl (by decide) in_X9 k_910 rfl rfl D_X9_turn_3.2.2.2.2.2.2.2.2.2.2.2 ?_
                refine x_eqr (hM.2.1 8 (by decide)).1 ?_
                refine x_iload C D_X9_turn_4.1 rfl ?_
                refine x_iald C _ (by first | assumption | exact (hM.2.1 _ (by decide)).2.1) rfl (by first | omega | (rw [hM.nk _ (by decide)]; omega) | (rw [hM.np _ (by decide)]; omega)) (by first | omega | (rw [hM.nk _ (by decide)]; omega) | (rw [hM.np _ (by decide)]; omega)) D_X9_turn_4.2.1 ?_
                first
                | refine x_eqi _ (hn1) ?_
                | refine x_eqi _ (hs1) ?_
                | skip
                refine x_istore C (lv' := [_, _, _, _, _, _, _, _, _]) D_X9_turn_4.2.2.1 (Nat.le_of_ble_eq_true rfl) (by first | rfl | exact x_ok_q rfl) rfl ?_
                refine x_iload C D_X9_turn_4.2.2.2.1 rfl ?_
                refine x_iload_n C D_X9_turn_4.2.2.2.2.1 rfl rfl ?_
                refine x_icmp_ne C 98 D_X9_turn_4.2.2.2.2.2.1 (by decide) (fun c_83 => ?_) (fun c_83 => ?_)
                · skip
                  first
                  | have d_83 := cv_ne c_83 (by omega) (by omega)
                  | skip
                  refine x_iload C D_X9_turn_5.1 rfl ?_
                  refine x_iload_n C D_X9_turn_5.2.1 rfl rfl ?_
                  refine x_icmp_ne C 115 D_X9_turn_5.2.2.1 (by decide) (fun c_101 => ?_) (fun c_101 => ?_)
                  · skip
                    first
                    | have d_101 := cv_ne c_101 (by omega) (by omega)
                    | skip
                    refine x_iload C D_X9_turn_5.2.2.2.2.2.2.2.2.2.1 rfl ?_
                    refine x_if_le C 161 D_X9_turn_5.2.2.2.2.2.2.2.2.2.2.1 (by decide) (fun c_117 => ?_) (fun c_117 => ?_)
                    · skip
                      first
                      | have d_117 := cz_le c_117 (by omega)
                      | skip
                      refine x_iload C D_X9_turn_7.2.2.2.2.2.2.2.2.1 rfl ?_
                      refine x_if_le C 207 D_X9_turn_7.2.2.2.2.2.2.2.2.2.1 (by decide) (fun c_163 => ?_) (fun c_163 => ?_)
                      · skip
                        first
                        | have d_163 := cz_le c_163 (by omega)
                        | skip
                        refine x_iload C D_X9_turn_9.2.2.2.2.2.2.2.1 rfl ?_
                        refine x_if_le C 237 D_X9_turn_9.2.2.2.2.2.2.2.2.1 (by decide) (fun c_209 => ?_) (fun c_209 => ?_)
                        · skip
                          first
                          | have d_209 := cz_le c_209 (by omega)
                          | skip
                          first
                          | refine x_iinc C (lv' := [_, _, _, _, _, _, _, _, _]) D_X9_turn_10.2.2.2.2.2.2.2.2.2.1 rfl (x_incN_1 _) (by first | rfl | exact x_ok_q rfl) rfl ?_
                          | refine x_iinc C (lv' := [_, _, _, _, _, _, _, _, _]) D_X9_turn_10.2.2.2.2.2.2.2.2.2.1 rfl (x_inc_1 _) (by first | rfl | exact x_ok_q rfl) rfl ?_
                          refine x_goto C 62 D_X9_turn_10.2.2.2.2.2.2.2.2.2.2.1 (by decide) ?_
                          refine ih_62 (k0 + 1) I1 _ (by omega) (by omega) (st_in0 hI1 ?_) (st_fr0 hfr)
                          rw [hs1, show turnM 1 0 p0 (tu k0) = tu k0 by unfold turnM; rw [if_neg d_83, if_neg d_101, if_neg (by rw [d_117]; simp), if_neg (by rw [d_117]; simp), if_neg (by rw [d_117]; simp)]]
                        · skip
                          first
                          | have d_209 := cz_nle c_209 (by omega)
                          | skip
                          exfalso; omega
                          --end
                      · skip
                        first
                        | have d_163 := cz_nle c_163 (by omega)
                        | skip
                        exfalso; omega
                        --end
                    · skip
                      first
                      | have d_117 := cz_nle c_117 (by omega)
                      | skip
                      refine x_iload C D_X9_turn_5.2.2.2.2.2.2.2.2.2.2.2 rfl ?_
                      refine x_iload C D_X9_turn_6.1 rfl ?_
                      refine x_callSz C (y := yX9_isBelow) (c_X9_isBelow l G (tu k0) (2 * p0 + 0) (by omega) (by omega)) k_1008 k_1009 k_67 k_1010 hd_X9_isBelow ⟨(Nat.le_of_ble_eq_true rfl), (Nat.le_of_ble_eq_true rfl)⟩ rfl (by first | exact Nat.le_of_ble_eq_true rfl | simp [x_crf, Value.category]) rfl rfl D_X9_turn_6.2.1 ⟨(Nat.le_of_ble_eq_true rfl), (Nat.le_of_ble_eq_true rfl)⟩ (fun r_124 S_124 h_124 => ?_)
                      obtain ⟨rfl, rfl⟩ := h_124
                      refine x_if_eq C 161 D_X9_turn_6.2.2.1 (by decide) (fun c_127 => ?_) (fun c_127 => ?_)
                      · skip
                        first
                        | have d_127 := cz_eq c_127 (by omega)
                        | have d_127 := cb_eq c_127
                        | skip
                        refine x_iload C D_X9_turn_7.2.2.2.2.2.2.2.2.1 rfl ?_
                        refine x_if_le C 207 D_X9_turn_7.2.2.2.2.2.2.2.2.2.1 (by decide) (fun c_163 => ?_) (fun c_163 => ?_)
                        · skip
                          first
                          | have d_163 := cz_le c_163 (by omega)
                          | skip
                          exfalso; omega
                          --end
                        · skip
                          first
                          | have d_163 := cz_nle c_163 (by omega)
                          | skip
                          refine x_iload C D_X9_turn_7.2.2.2.2.2.2.2.2.2.2.1 rfl ?_
                          refine x_iload C D_X9_turn_7.2.2.2.2.2.2.2.2.2.2.2 rfl ?_
                          refine x_callSz C (y := yX9_isBelow) (c_X9_isBelow l G (tu k0) (2 * (2 * p0 + 1) + 0) (by omega) (by omega)) k_1008 k_1009 k_67 k_1010 hd_X9_isBelow ⟨(Nat.le_of_ble_eq_true rfl), (Nat.le_of_ble_eq_true rfl)⟩ rfl (by first | exact Nat.le_of_ble_eq_true rfl | simp [x_crf, Value.category]) rfl rfl D_X9_turn_8.1 ⟨(Nat.le_of_ble_eq_true rfl), (Nat.le_of_ble_eq_true rfl)⟩ (fun r_170 S_170 h_170 => ?_)
                          obtain ⟨rfl, rfl⟩ := h_170
                          refine x_if_eq C 207 D_X9_turn_8.2.1 (by decide) (fun c_173 => ?_) (fun c_173 => ?_)
                          · skip
                            first
                            | have d_173 := cz_eq c_173 (by omega)
                            | have d_173 := cb_eq c_173
                            | skip
                            refine x_iload C D_X9_turn_9.2.2.2.2.2.2.2.1 rfl ?_
                            refine x_if_le C 237 D_X9_turn_9.2.2.2.2.2.2.2.2.1 (by decide) (fun c_209 => ?_) (fun c_209 => ?_)
                            · skip
                              first
                              | have d_209 := cz_le c_209 (by omega)
                              | skip
                              exfalso; omega
                              --end
                            · skip
                              first
                              | have d_209 := cz_nle c_209 (by omega)
                              | skip
                              refine x_iload C D_X9_turn_9.2.2.2.2.2.2.2.2.2.1 rfl ?_
                              refine x_iload C D_X9_turn_9.2.2.2.2.2.2.2.2.2.2.1 rfl ?_
                              refine x_callSz C (y := yX9_isBelow) (c_X9_isBelow l G (tu k0) (2 * (2 * p0 + 1) + 1) (by omega) (by omega)) k_1008 k_1009 k_67 k_1010 hd_X9_isBelow ⟨(Nat.le_of_ble_eq_true rfl), (Nat.le_of_ble_eq_true rfl)⟩ rfl (by first | exact Nat.le_of_ble_eq_true rfl | simp [x_crf, Value.category]) rfl rfl D_X9_turn_9.2.2.2.2.2.2.2.2.2.2.2 ⟨(Nat.le_of_ble_eq_true rfl), (Nat.le_of_ble_eq_true rfl)⟩ (fun r_216 S_216 h_216 => ?_)
                              obtain ⟨rfl, rfl⟩ := h_216
                              refine x_if_eq C 237 D_X9_turn_10.1 (by decide) (fun c_219 => ?_) (fun c_219 => ?_)
                              · skip
                                first
                                | have d_219 := cz_eq c_219 (by omega)
                                | have d_219 := cb_eq c_219
                                | skip
                                first
                                | refine x_iinc C (lv' := [_, _, _, _, _, _, _, _, _]) D_X9_turn_10.2.2.2.2.2.2.2.2.2.1 rfl (x_incN_1 _) (by first | rfl | exact x_ok_q rfl) rfl ?_
                                | refine x_iinc C (lv' := [_, _, _, _, _, _, _, _, _]) D_X9_turn_10.2.2.2.2.2.2.2.2.2.1 rfl (x_inc_1 _) (by first | rfl | exact x_ok_q rfl) rfl ?_
                                refine x_goto C 62 D_X9_turn_10.2.2.2.2.2.2.2.2.2.2.1 (by decide) ?_
                                refine ih_62 (k0 + 1) I1 _ (by omega) (by omega) (st_in0 hI1 ?_) (st_fr0 hfr)
                                rw [hs1, show turnM 1 0 p0 (tu k0) = tu k0 by unfold turnM; rw [if_neg d_83, if_neg d_101, if_neg (by rw [d_127, Bool.and_false]; decide), if_neg (by rw [d_173, Bool.and_false]; decide), if_neg (by rw [d_219, Bool.and_false]; decide)]]
                              · skip
                                first
                                | have d_219 := cz_ne c_219 (by omega)
                                | have d_219 := cb_ne c_219
                                | skip
                                refine x_aload_n C D_X9_turn_10.2.1 rfl rfl (by first | exact Or.inr ⟨_, rfl⟩ | exact va_rf_or _ | exact Or.inl rfl) ?_
                                refine x_getQ C (ci := 8) (k0 := 8) (by assumption) (by decide) rfl (by decide) in_X9 k_910 rfl rfl D_X9_turn_10.2.2.1 ?_
                                refine x_eqr (hM.2.1 8 (by decide)).1 ?_
                                refine x_iload C D_X9_turn_10.2.2.2.1 rfl ?_
                                refine x_iload C D_X9_turn_10.2.2.2.2.1 rfl ?_
                                refine x_iload C D_X9_turn_10.2.2.2.2.2.1 rfl ?_
                                refine x_iload_n C D_X9_turn_10.2.2.2.2.2.2.1 rfl rfl ?_
                                have hbel := d_219
                                refine x_callSi C (y := yX9_moved) (c_X9_moved l G (tu k0) (2 * (2 * p0 + 1) + 1) (2 * p0 + 1) (by omega) (by omega) (bel_dep hbel) (bel_le hbel) (mv_ok hbel (by omega) (by omega))) k_1018 k_1019 k_67 k_1020 hd_X9_moved ⟨(Nat.le_of_ble_eq_true rfl), (Nat.le_of_ble_eq_true rfl)⟩ rfl (by first | exact Nat.le_of_ble_eq_true rfl | simp [x_crf, Value.category]) rfl rfl D_X9_turn_10.2.2.2.2.2.2.2.1 ⟨(Nat.le_of_ble_eq_true rfl), (Nat.le_of_ble_eq_true rfl)⟩ (fun r_233 S_233 h_233 => ?_)
                                obtain ⟨rfl, rfl⟩ := h_233
                                refine x_iast C _ (by first | assumption | exact (hM.2.1 _ (by decide)).2.1) rfl (by first | omega | (rw [hM.nk _ (by decide)]; omega) | (rw [hM.np _ (by decide)]; omega)) (by first | omega | (rw [hM.nk _ (by decide)]; omega) | (rw [hM.np _ (by decide)]; omega)) D_X9_turn_10.2.2.2.2.2.2.2.2.1 (fun I2 eI2 => ?_)
                                first
                                | refine x_iinc C (lv' := [_, _, _, _, _, _, _, _, _]) D_X9_turn_10.2.2.2.2.2.2.2.2.2.1 rfl (x_incN_1 _) (by first | rfl | exact x_ok_q rfl) rfl ?_
                                | refine x_iinc C (lv' := [_, _, _, _, _, _, _, _, _]) D_X9_turn_10.2.2.2.2.2.2.2.2.2.1 rfl (x_inc_1 _) (by first | rfl | exact x_ok_q rfl) rfl ?_
                                refine x_goto C 62 D_X9_turn_10.2.2.2.2.2.2.2.2.2.2.1 (by decide) ?_
                                refine ih_62 (k0 + 1) I2 _ (by omega) (by omega) (st_in eI2 hI1 ?_) (st_fr eI2 hfr)
                                rw [show turnM 1 0 p0 (tu k0) = mvd (tu k0) (2 * (2 * p0 + 1) + 1) (2 * p0 + 1) by unfold turnM; rw [if_neg d_83, if_neg d_101, if_neg (by rw [d_127, Bool.and_false]; decide), if_neg (by rw [d_173, Bool.and_false]; decide), if_pos (by rw [d_219, Bool.and_true]; exact decide_eq_true d_117)]]
                          · skip
                            first
                            | have d_173 := cz_ne c_173 (by omega)
                            | have d_173 := cb_ne c_173
                            | skip
                            refine x_aload_n C D_X9_turn_8.2.2.1 rfl rfl (by first | exact Or.inr ⟨_, rfl⟩ | exact va_rf_or _ | exact Or.inl rfl) ?_
                            refine x_getQ C (ci := 8) (k0 := 8) (by assumption) (by decide) rfl (by decide) in_X9 k_910 rfl rfl D_X9_turn_8.2.2.2.1 ?_
                            refine x_eqr (hM.2.1 8 (by decide)).1 ?_
                            refine x_iload C D_X9_turn_8.2.2.2.2.1 rfl ?_
                            refine x_iload C D_X9_turn_8.2.2.2.2.2.1 rfl ?_
                            refine x_iload C D_X9_turn_8.2.2.2.2.2.2.1 rfl ?_
                            refine x_iconst C (v := nI 2) D_X9_turn_8.2.2.2.2.2.2.2.1 (by decide +kernel) ?_
                            refine x_iload C D_X9_turn_8.2.2.2.2.2.2.2.2.1 rfl ?_
                            refine x_imul C D_X9_turn_8.2.2.2.2.2.2.2.2.2.1 ?_
                            first
                            | refine x_eqi _ (pk_mul _ _) ?_
                            | skip
                            refine x_iload_n C D_X9_turn_8.2.2.2.2.2.2.2.2.2.2.1 rfl rfl ?_
                            refine x_if_eq C 198 D_X9_turn_8.2.2.2.2.2.2.2.2.2.2.2 (by decide) (fun c_191 => ?_) (fun c_191 => ?_)
                            · skip
                              exact absurd c_191 (by decide)
                            · skip
                              first
                              | have d_191 := cz_ne c_191 (by omega)
                              | have d_191 := cb_ne c_191
                              | skip
                              refine x_iconst C (v := nI 1) D_X9_turn_9.1 (by decide +kernel) ?_
                              refine x_goto C 199 D_X9_turn_9.2.1 (by decide) ?_
                              refine x_iadd C D_X9_turn_9.2.2.2.1 ?_
                              first
                              | refine x_eqi _ (nI_add _ _) ?_
                              | skip
                              have hbel := d_173
                              refine x_callSi C (y := yX9_moved) (c_X9_moved l G (tu k0) (2 * (2 * p0 + 1) + 0) (2 * (2 * p0 + 0) + 1) (by omega) (by omega) (bel_dep hbel) (bel_le hbel) (mv_ok hbel (by omega) (by omega))) k_1018 k_1019 k_67 k_1020 hd_X9_moved ⟨(Nat.le_of_ble_eq_true rfl), (Nat.le_of_ble_eq_true rfl)⟩ rfl (by first | exact Nat.le_of_ble_eq_true rfl | simp [x_crf, Value.category]) rfl rfl D_X9_turn_9.2.2.2.2.1 ⟨(Nat.le_of_ble_eq_true rfl), (Nat.le_of_ble_eq_true rfl)⟩ (fun r_200 S_200 h_200 => ?_)
                              obtain ⟨rfl, rfl⟩ := h_200
                              refine x_iast C _ (by first | assumption | exact (hM.2.1 _ (by decide)).2.1) rfl (by first | omega | (rw [hM.nk _ (by decide)]; omega) | (rw [hM.np _ (by decide)]; omega)) (by first | omega | (rw [hM.nk _ (by decide)]; omega) | (rw [hM.np _ (by decide)]; omega)) D_X9_turn_9.2.2.2.2.2.1 (fun I2 eI2 => ?_)
                              refine x_goto C 237 D_X9_turn_9.2.2.2.2.2.2.1 (by decide) ?_
                              first
                              | refine x_iinc C (lv' := [_, _, _, _, _, _, _, _, _]) D_X9_turn_10.2.2.2.2.2.2.2.2.2.1 rfl (x_incN_1 _) (by first | rfl | exact x_ok_q rfl) rfl ?_
                              | refine x_iinc C (lv' := [_, _, _, _, _, _, _, _, _]) D_X9_turn_10.2.2.2.2.2.2.2.2.2.1 rfl (x_inc_1 _) (by first | rfl | exact x_ok_q rfl) rfl ?_
                              refine x_goto C 62 D_X9_turn_10.2.2.2.2.2.2.2.2.2.2.1 (by decide) ?_
                              refine ih_62 (k0 + 1) I2 _ (by omega) (by omega) (st_in eI2 hI1 ?_) (st_fr eI2 hfr)
                              rw [show turnM 1 0 p0 (tu k0) = mvd (tu k0) (2 * (2 * p0 + 1) + 0) (2 * (2 * p0 + 0) + 1) by unfold turnM; rw [if_neg d_83, if_neg d_101, if_neg (by rw [d_127, Bool.and_false]; decide), if_pos (by rw [d_173, Bool.and_true]; exact decide_eq_true d_117)]]
                      · skip
                        first
                        | have d_127 := cz_ne c_127 (by omega)
                        | have d_127 := cb_ne c_127
                        | skip
                        refine x_aload_n C D_X9_turn_6.2.2.2.1 rfl rfl (by first | exact Or.inr ⟨_, rfl⟩ | exact va_rf_or _ | exact Or.inl rfl) ?_
                        refine x_getQ C (ci := 8) (k0 := 8) (by assumption) (by decide) rfl (by decide) in_X9 k_910 rfl rfl D_X9_turn_6.2.2.2.2.1 ?_
                        refine x_eqr (hM.2.1 8 (by decide)).1 ?_
                        refine x_iload C D_X9_turn_6.2.2.2.2.2.1 rfl ?_
                        refine x_iload C D_X9_turn_6.2.2.2.2.2.2.1 rfl ?_
                        refine x_iload C D_X9_turn_6.2.2.2.2.2.2.2.1 rfl ?_
                        refine x_iconst C (v := nI 2) D_X9_turn_6.2.2.2.2.2.2.2.2.1 (by decide +kernel) ?_
                        refine x_iload C D_X9_turn_6.2.2.2.2.2.2.2.2.2.1 rfl ?_
                        refine x_imul C D_X9_turn_6.2.2.2.2.2.2.2.2.2.2.1 ?_
                        first
                        | refine x_eqi _ (pk_mul _ _) ?_
                        | skip
                        refine x_iload_n C D_X9_turn_6.2.2.2.2.2.2.2.2.2.2.2 rfl rfl ?_
                        refine x_if_eq C 152 D_X9_turn_7.1 (by decide) (fun c_145 => ?_) (fun c_145 => ?_)
                        · skip
                          exact absurd c_145 (by decide)
                        · skip
                          first
                          | have d_145 := cz_ne c_145 (by omega)
                          | have d_145 := cb_ne c_145
                          | skip
                          refine x_iconst C (v := nI 0) D_X9_turn_7.2.1 (by decide +kernel) ?_
                          refine x_goto C 153 D_X9_turn_7.2.2.1 (by decide) ?_
                          refine x_iadd C D_X9_turn_7.2.2.2.2.1 ?_
                          first
                          | refine x_eqi _ (nI_add _ _) ?_
                          | skip
                          have hbel := d_127
                          refine x_callSi C (y := yX9_moved) (c_X9_moved l G (tu k0) (2 * p0 + 0) (2 * (2 * p0 + 0) + 0) (by omega) (by omega) (bel_dep hbel) (bel_le hbel) (mv_ok hbel (by omega) (by omega))) k_1018 k_1019 k_67 k_1020 hd_X9_moved ⟨(Nat.le_of_ble_eq_true rfl), (Nat.le_of_ble_eq_true rfl)⟩ rfl (by first | exact Nat.le_of_ble_eq_true rfl | simp [x_crf, Value.category]) rfl rfl D_X9_turn_7.2.2.2.2.2.1 ⟨(Nat.le_of_ble_eq_true rfl), (Nat.le_of_ble_eq_true rfl)⟩ (fun r_154 S_154 h_154 => ?_)
                          obtain ⟨rfl, rfl⟩ := h_154
                          refine x_iast C _ (by first | assumption | exact (hM.2.1 _ (by decide)).2.1) rfl (by first | omega | (rw [hM.nk _ (by decide)]; omega) | (rw [hM.np _ (by decide)]; omega)) (by first | omega | (rw [hM.nk _ (by decide)]; omega) | (rw [hM.np _ (by decide)]; omega)) D_X9_turn_7.2.2.2.2.2.2.1 (fun I2 eI2 => ?_)
                          refine x_goto C 237 D_X9_turn_7.2.2.2.2.2.2.2.1 (by decide) ?_
                          first
                          | refine x_iinc C (lv' := [_, _, _, _, _, _, _, _, _]) D_X9_turn_10.2.2.2.2.2.2.2.2.2.1 rfl (x_incN_1 _) (by first | rfl | exact x_ok_q rfl) rfl ?_
                          | refine x_iinc C (lv' := [_, _, _, _, _, _, _, _, _]) D_X9_turn_10.2.2.2.2.2.2.2.2.2.1 rfl (x_inc_1 _) (by first | rfl | exact x_ok_q rfl) rfl ?_
                          refine x_goto C 62 D_X9_turn_10.2.2.2.2.2.2.2.2.2.2.1 (by decide) ?_
                          refine ih_62 (k0 + 1) I2 _ (by omega) (by omega) (st_in eI2 hI1 ?_) (st_fr eI2 hfr)
                          rw [show turnM 1 0 p0 (tu k0) = mvd (tu k0) (2 * p0 + 0) (2 * (2 * p0 + 0) + 0) by unfold turnM; rw [if_neg d_83, if_neg d_101, if_pos (by rw [d_127, Bool.and_true]; exact decide_eq_true d_117)]]
                  · skip
                    first
                    | have d_101 := cv_eq c_101 (by omega) (by omega)
                    | skip
                    refine x_aload_n C D_X9_turn_5.2.2.2.1 rfl rfl (by first | exact Or.inr ⟨_, rfl⟩ | exact va_rf_or _ | exact Or.inl rfl) ?_
                    refine x_getQ C (ci := 8) (k0 := 8) (by assumption) (by decide) rfl (by decide) in_X9 k_910 rfl rfl D_X9_turn_5.2.2.2.2.1 ?_
                    refine x_eqr (hM.2.1 8 (by decide)).1 ?_
                    refine x_iload C D_X9_turn_5.2.2.2.2.2.1 rfl ?_
                    refine x_iload_n C D_X9_turn_5.2.2.2.2.2.2.1 rfl rfl ?_
                    refine x_iast C _ (by first | assumption | exact (hM.2.1 _ (by decide)).2.1) rfl (by first | omega | (rw [hM.nk _ (by decide)]; omega) | (rw [hM.np _ (by decide)]; omega)) (by first | omega | (rw [hM.nk _ (by decide)]; omega) | (rw [hM.np _ (by decide)]; omega)) D_X9_turn_5.2.2.2.2.2.2.2.1 (fun I2 eI2 => ?_)
                    refine x_goto C 237 D_X9_turn_5.2.2.2.2.2.2.2.2.1 (by decide) ?_
                    first
                    | refine x_iinc C (lv' := [_, _, _, _, _, _, _, _, _]) D_X9_turn_10.2.2.2.2.2.2.2.2.2.1 rfl (x_incN_1 _) (by first | rfl | exact x_ok_q rfl) rfl ?_
                    | refine x_iinc C (lv' := [_, _, _, _, _, _, _, _, _]) D_X9_turn_10.2.2.2.2.2.2.2.2.2.1 rfl (x_inc_1 _) (by first | rfl | exact x_ok_q rfl) rfl ?_
                    refine x_goto C 62 D_X9_turn_10.2.2.2.2.2.2.2.2.2.2.1 (by decide) ?_
                    refine ih_62 (k0 + 1) I2 _ (by omega) (by omega) (st_in eI2 hI1 ?_) (st_fr eI2 hfr)
                    rw [show turnM 1 0 p0 (tu k0) = p0 by unfold turnM; rw [if_neg d_83, if_pos d_101]]
                · skip
                  first
                  | have d_83 := cv_eq c_83 (by omega) (by omega)
                  | skip
                  refine x_aload_n C D_X9_turn_4.2.2.2.2.2.2.1 rfl rfl (by first | exact Or.inr ⟨_, rfl⟩ | exact va_rf_or _ | exact Or.inl rfl) ?_
                  refine x_getQ C (ci := 8) (k0 := 8) (by assumption) (by decide) rfl (by decide) in_X9 k_910 rfl rfl D_X9_turn_4.2.2.2.2.2.2.2.1 ?_
                  refine x_eqr (hM.2.1 8 (by decide)).1 ?_
                  refine x_iload C D_X9_turn_4.2.2.2.2.2.2.2.2.1 rfl ?_
                  refine x_iload C D_X9_turn_4.2.2.2.2.2.2.2.2.2.1 rfl ?_
                  refine x_iast C _ (by first | assumption | exact (hM.2.1 _ (by decide)).2.1) rfl (by first | omega | (rw [hM.nk _ (by decide)]; omega) | (rw [hM.np _ (by decide)]; omega)) (by first | omega | (rw [hM.nk _ (by decide)]; omega) | (rw [hM.np _ (by decide)]; omega)) D_X9_turn_4.2.2.2.2.2.2.2.2.2.2.1 (fun I2 eI2 => ?_)
                  refine x_goto C 237 D_X9_turn_4.2.2.2.2.2.2.2.2.2.2.2 (by decide) ?_
                  first
                  | refine x_iinc C (lv' := [_, _, _, _, _, _, _, _, _]) D_X9_turn_10.2.2.2.2.2.2.2.2.2.1 rfl (x_incN_1 _) (by first | rfl | exact x_ok_q rfl) rfl ?_
                  | refine x_iinc C (lv' := [_, _, _, _, _, _, _, _, _]) D_X9_turn_10.2.2.2.2.2.2.2.2.2.1 rfl (x_inc_1 _) (by first | rfl | exact x_ok_q rfl) rfl ?_
                  refine x_goto C 62 D_X9_turn_10.2.2.2.2.2.2.2.2.2.2.1 (by decide) ?_
                  refine ih_62 (k0 + 1) I2 _ (by omega) (by omega) (st_in eI2 hI1 ?_) (st_fr eI2 hfr)
                  rw [show turnM 1 0 p0 (tu k0) = 2 * p0 + 0 by unfold turnM; rw [if_pos d_83]]
          exact L_62 _ 0 I _ (Nat.lt_succ_self _) (Nat.zero_le _) (fun i hi => by omega) (fun a j _ => rfl)
abbrev rm_X9_turn_0 : Room := { frames := 2, cells := 0, slots := 0, locals := 45 }
set_option maxHeartbeats 4000000 in
set_option maxRecDepth 100000 in
theorem c_X9_turn_0 (l : Launch) (G : xG) {K N : Nat → Nat} {I : Nat → Nat → Int32} {Q : Nat → Nat → Option Nat} {J : Nat → Nat → Int64} (m n p0 : Nat) (ar tu : Nat → Nat) (hM : MZ K N Q m ar) (hn : I m 0 = nI n) (hnb : n ≤ 202) (htu : ∀ i, i < n → I (ar 8) i = nI (tu i) ∧ tu i < 2 ^ 28) (hp0 : 0 < p0) (hp : p0 < 2 ^ 26) : XM l yX9_turn cX9_turn 9 none rm_X9_turn_0 G Rv [.ref m, .int (nI p0), .int (nI 0)] (K, N, I, Q, J) (fun _ S1 => ∃ I1, S1 = (K, N, I1, Q, J) ∧ (∀ i, i < n → I1 (ar 8) i = nI (turnM 0 1 p0 (tu i))) ∧ I1 m 3 = I m 3 + nI 1 ∧ (∀ a j, ¬ (a = ar 8 ∧ j < n) → ¬ (a = m ∧ j = 3) → I1 a j = I a j)) := by
  refine x_metv (lv := [_, _, _, _, _, _, _, _, _]) (by decide +kernel) (x_cc (by first | rfl | exact x_crf _) (x_cc (by first | rfl | exact x_crf _) (x_cc (by first | rfl | exact x_crf _) x_cn))) (Nat.le_of_ble_eq_true rfl) rfl ?_
  intro pP eE sS mM aA bB hH cC Z C hini ret
  have hk9 := hM.1
  have h202 := hM.nk 8 (by decide)
  have hm8 := hM.nm 8 (by decide)
  refine x_iconst C (v := nI 2) D_X9_turn_0.1 (by decide +kernel) ?_
  refine x_iload_n C D_X9_turn_0.2.1 rfl rfl ?_
  refine x_imul C D_X9_turn_0.2.2.1 ?_
  first
  | refine x_eqi _ (pk_mul _ _) ?_
  | skip
  refine x_iload_n C D_X9_turn_0.2.2.2.1 rfl rfl ?_
  refine x_if_eq C 11 D_X9_turn_0.2.2.2.2.1 (by decide) (fun c_4 => ?_) (fun c_4 => ?_)
  · skip
    first
    | have d_4 := cz_eq c_4 (by omega)
    | have d_4 := cb_eq c_4
    | skip
    refine x_iconst C (v := nI 0) D_X9_turn_0.2.2.2.2.2.2.2.1 (by decide +kernel) ?_
    refine x_iadd C D_X9_turn_0.2.2.2.2.2.2.2.2.1 ?_
    first
    | refine x_eqi _ (nI_add _ _) ?_
    | skip
    refine x_istore_n C (lv' := [_, _, _, _, _, _, _, _, _]) D_X9_turn_0.2.2.2.2.2.2.2.2.2.1 rfl (Nat.le_of_ble_eq_true rfl) (by first | rfl | exact x_ok_q rfl) rfl ?_
    refine x_iconst C (v := nI 2) D_X9_turn_0.2.2.2.2.2.2.2.2.2.2.1 (by decide +kernel) ?_
    refine x_iload_n C D_X9_turn_0.2.2.2.2.2.2.2.2.2.2.2 rfl rfl ?_
    refine x_imul C D_X9_turn_1.1 ?_
    first
    | refine x_eqi _ (pk_mul _ _) ?_
    | skip
    refine x_iload_n C D_X9_turn_1.2.1 rfl rfl ?_
    refine x_if_eq C 25 D_X9_turn_1.2.2.1 (by decide) (fun c_18 => ?_) (fun c_18 => ?_)
    · skip
      first
      | have d_18 := cz_eq c_18 (by omega)
      | have d_18 := cb_eq c_18
      | skip
      refine x_iconst C (v := nI 1) D_X9_turn_1.2.2.2.2.2.1 (by decide +kernel) ?_
      refine x_iadd C D_X9_turn_1.2.2.2.2.2.2.1 ?_
      first
      | refine x_eqi _ (nI_add _ _) ?_
      | skip
      refine x_istore C (lv' := [_, _, _, _, _, _, _, _, _]) D_X9_turn_1.2.2.2.2.2.2.2.1 (Nat.le_of_ble_eq_true rfl) (by first | rfl | exact x_ok_q rfl) rfl ?_
      refine x_iconst C (v := nI 2) D_X9_turn_1.2.2.2.2.2.2.2.2.1 (by decide +kernel) ?_
      refine x_iload_n C D_X9_turn_1.2.2.2.2.2.2.2.2.2.1 rfl rfl ?_
      refine x_imul C D_X9_turn_1.2.2.2.2.2.2.2.2.2.2.1 ?_
      first
      | refine x_eqi _ (pk_mul _ _) ?_
      | skip
      refine x_iload_n C D_X9_turn_1.2.2.2.2.2.2.2.2.2.2.2 rfl rfl ?_
      refine x_if_eq C 40 D_X9_turn_2.1 (by decide) (fun c_33 => ?_) (fun c_33 => ?_)
      · skip
        first
        | have d_33 := cz_eq c_33 (by omega)
        | have d_33 := cb_eq c_33
        | skip
        refine x_iconst C (v := nI 1) D_X9_turn_2.2.2.2.1 (by decide +kernel) ?_
        refine x_iadd C D_X9_turn_2.2.2.2.2.1 ?_
        first
        | refine x_eqi _ (nI_add _ _) ?_
        | skip
        refine x_istore C (lv' := [_, _, _, _, _, _, _, _, _]) D_X9_turn_2.2.2.2.2.2.1 (Nat.le_of_ble_eq_true rfl) (by first | rfl | exact x_ok_q rfl) rfl ?_
        refine x_iconst C (v := nI 2) D_X9_turn_2.2.2.2.2.2.2.1 (by decide +kernel) ?_
        refine x_iload_n C D_X9_turn_2.2.2.2.2.2.2.2.1 rfl rfl ?_
        refine x_imul C D_X9_turn_2.2.2.2.2.2.2.2.2.1 ?_
        first
        | refine x_eqi _ (pk_mul _ _) ?_
        | skip
        refine x_iload_n C D_X9_turn_2.2.2.2.2.2.2.2.2.2.1 rfl rfl ?_
        refine x_if_eq C 55 D_X9_turn_2.2.2.2.2.2.2.2.2.2.2.1 (by decide) (fun c_48 => ?_) (fun c_48 => ?_)
        · skip
          first
          | have d_48 := cz_eq c_48 (by omega)
          | have d_48 := cb_eq c_48
          | skip
          refine x_iconst C (v := nI 0) D_X9_turn_3.2.1 (by decide +kernel) ?_
          refine x_iadd C D_X9_turn_3.2.2.1 ?_
          first
          | refine x_eqi _ (nI_add _ _) ?_
          | skip
          refine x_istore C (lv' := [_, _, _, _, _, _, _, _, _]) D_X9_turn_3.2.2.2.1 (Nat.le_of_ble_eq_true rfl) (by first | rfl | exact x_ok_q rfl) rfl ?_
          refine x_iconst C (v := nI 0) D_X9_turn_3.2.2.2.2.1 (by decide +kernel) ?_
          refine x_istore C (lv' := [_, _, _, _, _, _, _, _, _]) D_X9_turn_3.2.2.2.2.2.1 (Nat.le_of_ble_eq_true rfl) (by first | rfl | exact x_ok_q rfl) rfl ?_
          have L_62 : ∀ (w_62 : Nat) (k0 : Nat) (I1 : Nat → Nat → Int32) (v8 : Option Value), n - k0 < w_62 → (k0 ≤ n) → (∀ i, i < k0 → I1 (ar 8) i = nI (turnM 0 1 p0 (tu i))) → (∀ a j, ¬ (a = ar 8 ∧ j < k0) → I1 a j = I a j) → XW pP l eE rm_X9_turn_0 sS mM aA bB hH cC G Z 0 0 (K, N, I1, Q, J) 62 [some (.ref m), some (.int (nI p0)), some (.int (nI 0)), some (.int (nI (2 * p0 + 0))), some (.int (nI (2 * p0 + 1))), some (.int (nI (2 * (2 * p0 + 0) + 1))), some (.int (nI (2 * (2 * p0 + 0) + 0))), some (.int (nI k0)), v8] [] := by
            intro w_62
            induction w_62 with
            | zero =>
              intro k0 I1 v8 hw_62
              exact absurd hw_62 (Nat.not_lt_zero _)
            | succ w_62 ih_62 =>
              intro k0 I1 v8 hw_62 hk0 hI1 hfr
              have hn1 : I1 m 0 = nI n := by rw [hfr m 0 (fun e => hm8 e.1.symm)]; exact hn
              refine x_iload C D_X9_turn_3.2.2.2.2.2.2.1 rfl ?_
              refine x_aload_n C D_X9_turn_3.2.2.2.2.2.2.2.1 rfl rfl (by first | exact Or.inr ⟨_, rfl⟩ | exact va_rf_or _ | exact Or.inl rfl) ?_
              refine x_getI C (ci := 8) (k0 := 0) (by assumption) (by decide) rfl (by decide) in_X9 k_902 rfl rfl D_X9_turn_3.2.2.2.2.2.2.2.2.1 ?_
              first
              | refine x_eqi _ (hn1) ?_
              | refine x_eqi _ (hs1) ?_
              | skip
              refine x_icmp_ge C 243 D_X9_turn_3.2.2.2.2.2.2.2.2.2.1 (by decide) (fun c_68 => ?_) (fun c_68 => ?_)
              · skip
                first
                | have d_68 := cv_le c_68 (by omega) (by omega)
                | skip
                obtain rfl : k0 = n := by omega
                refine x_aload_n C D_X9_turn_10.2.2.2.2.2.2.2.2.2.2.2 rfl rfl (by first | exact Or.inr ⟨_, rfl⟩ | exact va_rf_or _ | exact Or.inl rfl) ?_
                refine x_dup C D_X9_turn_11.1 (by first | rfl | exact x_crf _) ?_
                refine x_getI C (ci := 8) (k0 := 3) (by assumption) (by decide) rfl (by decide) in_X9 k_905 rfl rfl D_X9_turn_11.2.1 ?_
                first
                | refine x_eqi _ (hn1) ?_
                | refine x_eqi _ (hs1) ?_
                | skip
                refine x_iconst C (v := nI 1) D_X9_turn_11.2.2.1 (by decide +kernel) ?_
                refine x_iadd C D_X9_turn_11.2.2.2.1 ?_
                first
                | refine x_eqi _ (nI_add _ _) ?_
                | skip
                refine x_putI C (ci := 8) (k0 := 3) (by assumption) (by decide) rfl (by decide) in_X9 k_905 rfl tyX9 tyX9_ok nmX9 rfl (by rfl) rfl rfl rfl D_X9_turn_11.2.2.2.2.1 (fun I3 eI3 => ?_)
                refine ret _ _ _ _ _ rfl D_X9_turn_11.2.2.2.2.2 (Nat.le_of_ble_eq_true rfl) (Nat.le_of_ble_eq_true rfl) ?_
                refine ⟨I3, rfl, fun i hi => ?_, ?_, fun a j h1 h2 => ?_⟩
                · rw [eI3, x_u2_a _ _ hm8]; exact hI1 i hi
                · rw [eI3, x_u2_s, hfr m 3 (fun e => hm8 e.1.symm)]
                · rw [eI3]
                  by_cases e : a = m
                  · subst e; rw [x_u2_j _ _ (fun z => h2 ⟨rfl, z⟩)]; exact hfr a j h1
                  · rw [x_u2_a _ _ e]; exact hfr a j h1
              · skip
                first
                | have d_68 := cv_nle c_68 (by omega) (by omega)
                | skip
                obtain ⟨ht1, ht2⟩ := htu k0 (by omega)
                have hs1 : I1 (ar 8) k0 = nI (tu k0) := by rw [hfr (ar 8) k0 (fun e => by omega)]; exact ht1
                refine x_aload_n C D_X9_turn_3.2.2.2.2.2.2.2.2.2.2.1 rfl rfl (by first | exact Or.inr ⟨_, rfl⟩ | exact va_rf_or _ | exact Or.inl rfl) ?_
                refine x_getQ C (ci := 8) (k0 := 8) (by assumption) (by decide) rfl (by decide) in_X9 k_910 rfl rfl D_X9_turn_3.2.2.2.2.2.2.2.2.2.2.2 ?_
                refine x_eqr (hM.2.1 8 (by decide)).1 ?_
                refine x_iload C D_X9_turn_4.1 rfl ?_
                refine x_iald C _ (by first | assumption | exact (hM.2.1 _ (by decide)).2.1) rfl (by first | omega | (rw [hM.nk _ (by decide)]; omega) | (rw [hM.np _ (by decide)]; omega)) (by first | omega | (rw [hM.nk _ (by decide)]; omega) | (rw [hM.np _ (by decide)]; omega)) D_X9_turn_4.2.1 ?_
                first
                | refine x_eqi _ (hn1) ?_
                | refine x_eqi _ (hs1) ?_
                | skip
                refine x_istore C (lv' := [_, _, _, _, _, _, _, _, _]) D_X9_turn_4.2.2.1 (Nat.le_of_ble_eq_true rfl) (by first | rfl | exact x_ok_q rfl) rfl ?_
                refine x_iload C D_X9_turn_4.2.2.2.1 rfl ?_
                refine x_iload_n C D_X9_turn_4.2.2.2.2.1 rfl rfl ?_
                refine x_icmp_ne C 98 D_X9_turn_4.2.2.2.2.2.1 (by decide) (fun c_83 => ?_) (fun c_83 => ?_)
                · skip
                  first
                  | have d_83 := cv_ne c_83 (by omega) (by omega)
                  | skip
                  refine x_iload C D_X9_turn_5.1 rfl ?_
                  refine x_iload_n C D_X9_turn_5.2.1 rfl rfl ?_
                  refine x_icmp_ne C 115 D_X9_turn_5.2.2.1 (by decide) (fun c_101 => ?_) (fun c_101 => ?_)
                  · skip
                    first
                    | have d_101 := cv_ne c_101 (by omega) (by omega)
                    | skip
                    refine x_iload C D_X9_turn_5.2.2.2.2.2.2.2.2.2.1 rfl ?_
                    refine x_if_le C 161 D_X9_turn_5.2.2.2.2.2.2.2.2.2.2.1 (by decide) (fun c_117 => ?_) (fun c_117 => ?_)
                    · skip
                      first
                      | have d_117 := cz_le c_117 (by omega)
                      | skip
                      refine x_iload C D_X9_turn_7.2.2.2.2.2.2.2.2.1 rfl ?_
                      refine x_if_le C 207 D_X9_turn_7.2.2.2.2.2.2.2.2.2.1 (by decide) (fun c_163 => ?_) (fun c_163 => ?_)
                      · skip
                        first
                        | have d_163 := cz_le c_163 (by omega)
                        | skip
                        refine x_iload C D_X9_turn_9.2.2.2.2.2.2.2.1 rfl ?_
                        refine x_if_le C 237 D_X9_turn_9.2.2.2.2.2.2.2.2.1 (by decide) (fun c_209 => ?_) (fun c_209 => ?_)
                        · skip
                          first
                          | have d_209 := cz_le c_209 (by omega)
                          | skip
                          first
                          | refine x_iinc C (lv' := [_, _, _, _, _, _, _, _, _]) D_X9_turn_10.2.2.2.2.2.2.2.2.2.1 rfl (x_incN_1 _) (by first | rfl | exact x_ok_q rfl) rfl ?_
                          | refine x_iinc C (lv' := [_, _, _, _, _, _, _, _, _]) D_X9_turn_10.2.2.2.2.2.2.2.2.2.1 rfl (x_inc_1 _) (by first | rfl | exact x_ok_q rfl) rfl ?_
                          refine x_goto C 62 D_X9_turn_10.2.2.2.2.2.2.2.2.2.2.1 (by decide) ?_
                          refine ih_62 (k0 + 1) I1 _ (by omega) (by omega) (st_in0 hI1 ?_) (st_fr0 hfr)
                          rw [hs1, show turnM 0 1 p0 (tu k0) = tu k0 by unfold turnM; rw [if_neg d_83, if_neg d_101, if_neg (by rw [d_117]; simp), if_neg (by rw [d_117]; simp), if_neg (by rw [d_117]; simp)]]
                        · skip
                          first
                          | have d_209 := cz_nle c_209 (by omega)
                          | skip
                          exfalso; omega
                          --end
                      · skip
                        first
                        | have d_163 := cz_nle c_163 (by omega)
                        | skip
                        exfalso; omega
                        --end
                    · skip
                      first
                      | have d_117 := cz_nle c_117 (by omega)
                      | skip
                      refine x_iload C D_X9_turn_5.2.2.2.2.2.2.2.2.2.2.2 rfl ?_
                      refine x_iload C D_X9_turn_6.1 rfl ?_
                      refine x_callSz C (y := yX9_isBelow) (c_X9_isBelow l G (tu k0) (2 * p0 + 1) (by omega) (by omega)) k_1008 k_1009 k_67 k_1010 hd_X9_isBelow ⟨(Nat.le_of_ble_eq_true rfl), (Nat.le_of_ble_eq_true rfl)⟩ rfl (by first | exact Nat.le_of_ble_eq_true rfl | simp [x_crf, Value.category]) rfl rfl D_X9_turn_6.2.1 ⟨(Nat.le_of_ble_eq_true rfl), (Nat.le_of_ble_eq_true rfl)⟩ (fun r_124 S_124 h_124 => ?_)
                      obtain ⟨rfl, rfl⟩ := h_124
                      refine x_if_eq C 161 D_X9_turn_6.2.2.1 (by decide) (fun c_127 => ?_) (fun c_127 => ?_)
                      · skip
                        first
                        | have d_127 := cz_eq c_127 (by omega)
                        | have d_127 := cb_eq c_127
                        | skip
                        refine x_iload C D_X9_turn_7.2.2.2.2.2.2.2.2.1 rfl ?_
                        refine x_if_le C 207 D_X9_turn_7.2.2.2.2.2.2.2.2.2.1 (by decide) (fun c_163 => ?_) (fun c_163 => ?_)
                        · skip
                          first
                          | have d_163 := cz_le c_163 (by omega)
                          | skip
                          exfalso; omega
                          --end
                        · skip
                          first
                          | have d_163 := cz_nle c_163 (by omega)
                          | skip
                          refine x_iload C D_X9_turn_7.2.2.2.2.2.2.2.2.2.2.1 rfl ?_
                          refine x_iload C D_X9_turn_7.2.2.2.2.2.2.2.2.2.2.2 rfl ?_
                          refine x_callSz C (y := yX9_isBelow) (c_X9_isBelow l G (tu k0) (2 * (2 * p0 + 0) + 1) (by omega) (by omega)) k_1008 k_1009 k_67 k_1010 hd_X9_isBelow ⟨(Nat.le_of_ble_eq_true rfl), (Nat.le_of_ble_eq_true rfl)⟩ rfl (by first | exact Nat.le_of_ble_eq_true rfl | simp [x_crf, Value.category]) rfl rfl D_X9_turn_8.1 ⟨(Nat.le_of_ble_eq_true rfl), (Nat.le_of_ble_eq_true rfl)⟩ (fun r_170 S_170 h_170 => ?_)
                          obtain ⟨rfl, rfl⟩ := h_170
                          refine x_if_eq C 207 D_X9_turn_8.2.1 (by decide) (fun c_173 => ?_) (fun c_173 => ?_)
                          · skip
                            first
                            | have d_173 := cz_eq c_173 (by omega)
                            | have d_173 := cb_eq c_173
                            | skip
                            refine x_iload C D_X9_turn_9.2.2.2.2.2.2.2.1 rfl ?_
                            refine x_if_le C 237 D_X9_turn_9.2.2.2.2.2.2.2.2.1 (by decide) (fun c_209 => ?_) (fun c_209 => ?_)
                            · skip
                              first
                              | have d_209 := cz_le c_209 (by omega)
                              | skip
                              exfalso; omega
                              --end
                            · skip
                              first
                              | have d_209 := cz_nle c_209 (by omega)
                              | skip
                              refine x_iload C D_X9_turn_9.2.2.2.2.2.2.2.2.2.1 rfl ?_
                              refine x_iload C D_X9_turn_9.2.2.2.2.2.2.2.2.2.2.1 rfl ?_
                              refine x_callSz C (y := yX9_isBelow) (c_X9_isBelow l G (tu k0) (2 * (2 * p0 + 0) + 0) (by omega) (by omega)) k_1008 k_1009 k_67 k_1010 hd_X9_isBelow ⟨(Nat.le_of_ble_eq_true rfl), (Nat.le_of_ble_eq_true rfl)⟩ rfl (by first | exact Nat.le_of_ble_eq_true rfl | simp [x_crf, Value.category]) rfl rfl D_X9_turn_9.2.2.2.2.2.2.2.2.2.2.2 ⟨(Nat.le_of_ble_eq_true rfl), (Nat.le_of_ble_eq_true rfl)⟩ (fun r_216 S_216 h_216 => ?_)
                              obtain ⟨rfl, rfl⟩ := h_216
                              refine x_if_eq C 237 D_X9_turn_10.1 (by decide) (fun c_219 => ?_) (fun c_219 => ?_)
                              · skip
                                first
                                | have d_219 := cz_eq c_219 (by omega)
                                | have d_219 := cb_eq c_219
                                | skip
                                first
                                | refine x_iinc C (lv' := [_, _, _, _, _, _, _, _, _]) D_X9_turn_10.2.2.2.2.2.2.2.2.2.1 rfl (x_incN_1 _) (by first | rfl | exact x_ok_q rfl) rfl ?_
                                | refine x_iinc C (lv' := [_, _, _, _, _, _, _, _, _]) D_X9_turn_10.2.2.2.2.2.2.2.2.2.1 rfl (x_inc_1 _) (by first | rfl | exact x_ok_q rfl) rfl ?_
                                refine x_goto C 62 D_X9_turn_10.2.2.2.2.2.2.2.2.2.2.1 (by decide) ?_
                                refine ih_62 (k0 + 1) I1 _ (by omega) (by omega) (st_in0 hI1 ?_) (st_fr0 hfr)
                                rw [hs1, show turnM 0 1 p0 (tu k0) = tu k0 by unfold turnM; rw [if_neg d_83, if_neg d_101, if_neg (by rw [d_127, Bool.and_false]; decide), if_neg (by rw [d_173, Bool.and_false]; decide), if_neg (by rw [d_219, Bool.and_false]; decide)]]
                              · skip
                                first
                                | have d_219 := cz_ne c_219 (by omega)
                                | have d_219 := cb_ne c_219
                                | skip
                                refine x_aload_n C D_X9_turn_10.2.1 rfl rfl (by first | exact Or.inr ⟨_, rfl⟩ | exact va_rf_or _ | exact Or.inl rfl) ?_
                                refine x_getQ C (ci := 8) (k0 := 8) (by assumption) (by decide) rfl (by decide) in_X9 k_910 rfl rfl D_X9_turn_10.2.2.1 ?_
                                refine x_eqr (hM.2.1 8 (by decide)).1 ?_
                                refine x_iload C D_X9_turn_10.2.2.2.1 rfl ?_
                                refine x_iload C D_X9_turn_10.2.2.2.2.1 rfl ?_
                                refine x_iload C D_X9_turn_10.2.2.2.2.2.1 rfl ?_
                                refine x_iload_n C D_X9_turn_10.2.2.2.2.2.2.1 rfl rfl ?_
                                have hbel := d_219
                                refine x_callSi C (y := yX9_moved) (c_X9_moved l G (tu k0) (2 * (2 * p0 + 0) + 0) (2 * p0 + 0) (by omega) (by omega) (bel_dep hbel) (bel_le hbel) (mv_ok hbel (by omega) (by omega))) k_1018 k_1019 k_67 k_1020 hd_X9_moved ⟨(Nat.le_of_ble_eq_true rfl), (Nat.le_of_ble_eq_true rfl)⟩ rfl (by first | exact Nat.le_of_ble_eq_true rfl | simp [x_crf, Value.category]) rfl rfl D_X9_turn_10.2.2.2.2.2.2.2.1 ⟨(Nat.le_of_ble_eq_true rfl), (Nat.le_of_ble_eq_true rfl)⟩ (fun r_233 S_233 h_233 => ?_)
                                obtain ⟨rfl, rfl⟩ := h_233
                                refine x_iast C _ (by first | assumption | exact (hM.2.1 _ (by decide)).2.1) rfl (by first | omega | (rw [hM.nk _ (by decide)]; omega) | (rw [hM.np _ (by decide)]; omega)) (by first | omega | (rw [hM.nk _ (by decide)]; omega) | (rw [hM.np _ (by decide)]; omega)) D_X9_turn_10.2.2.2.2.2.2.2.2.1 (fun I2 eI2 => ?_)
                                first
                                | refine x_iinc C (lv' := [_, _, _, _, _, _, _, _, _]) D_X9_turn_10.2.2.2.2.2.2.2.2.2.1 rfl (x_incN_1 _) (by first | rfl | exact x_ok_q rfl) rfl ?_
                                | refine x_iinc C (lv' := [_, _, _, _, _, _, _, _, _]) D_X9_turn_10.2.2.2.2.2.2.2.2.2.1 rfl (x_inc_1 _) (by first | rfl | exact x_ok_q rfl) rfl ?_
                                refine x_goto C 62 D_X9_turn_10.2.2.2.2.2.2.2.2.2.2.1 (by decide) ?_
                                refine ih_62 (k0 + 1) I2 _ (by omega) (by omega) (st_in eI2 hI1 ?_) (st_fr eI2 hfr)
                                rw [show turnM 0 1 p0 (tu k0) = mvd (tu k0) (2 * (2 * p0 + 0) + 0) (2 * p0 + 0) by unfold turnM; rw [if_neg d_83, if_neg d_101, if_neg (by rw [d_127, Bool.and_false]; decide), if_neg (by rw [d_173, Bool.and_false]; decide), if_pos (by rw [d_219, Bool.and_true]; exact decide_eq_true d_117)]]
                          · skip
                            first
                            | have d_173 := cz_ne c_173 (by omega)
                            | have d_173 := cb_ne c_173
                            | skip
                            refine x_aload_n C D_X9_turn_8.2.2.1 rfl rfl (by first | exact Or.inr ⟨_, rfl⟩ | exact va_rf_or _ | exact Or.inl rfl) ?_
                            refine x_getQ C (ci := 8) (k0 := 8) (by assumption) (by decide) rfl (by decide) in_X9 k_910 rfl rfl D_X9_turn_8.2.2.2.1 ?_
                            refine x_eqr (hM.2.1 8 (by decide)).1 ?_
                            refine x_iload C D_X9_turn_8.2.2.2.2.1 rfl ?_
                            refine x_iload C D_X9_turn_8.2.2.2.2.2.1 rfl ?_
                            refine x_iload C D_X9_turn_8.2.2.2.2.2.2.1 rfl ?_
                            refine x_iconst C (v := nI 2) D_X9_turn_8.2.2.2.2.2.2.2.1 (by decide +kernel) ?_
                            refine x_iload C D_X9_turn_8.2.2.2.2.2.2.2.2.1 rfl ?_
                            refine x_imul C D_X9_turn_8.2.2.2.2.2.2.2.2.2.1 ?_
                            first
                            | refine x_eqi _ (pk_mul _ _) ?_
                            | skip
                            refine x_iload_n C D_X9_turn_8.2.2.2.2.2.2.2.2.2.2.1 rfl rfl ?_
                            refine x_if_eq C 198 D_X9_turn_8.2.2.2.2.2.2.2.2.2.2.2 (by decide) (fun c_191 => ?_) (fun c_191 => ?_)
                            · skip
                              first
                              | have d_191 := cz_eq c_191 (by omega)
                              | have d_191 := cb_eq c_191
                              | skip
                              refine x_iconst C (v := nI 0) D_X9_turn_9.2.2.1 (by decide +kernel) ?_
                              refine x_iadd C D_X9_turn_9.2.2.2.1 ?_
                              first
                              | refine x_eqi _ (nI_add _ _) ?_
                              | skip
                              have hbel := d_173
                              refine x_callSi C (y := yX9_moved) (c_X9_moved l G (tu k0) (2 * (2 * p0 + 0) + 1) (2 * (2 * p0 + 1) + 0) (by omega) (by omega) (bel_dep hbel) (bel_le hbel) (mv_ok hbel (by omega) (by omega))) k_1018 k_1019 k_67 k_1020 hd_X9_moved ⟨(Nat.le_of_ble_eq_true rfl), (Nat.le_of_ble_eq_true rfl)⟩ rfl (by first | exact Nat.le_of_ble_eq_true rfl | simp [x_crf, Value.category]) rfl rfl D_X9_turn_9.2.2.2.2.1 ⟨(Nat.le_of_ble_eq_true rfl), (Nat.le_of_ble_eq_true rfl)⟩ (fun r_200 S_200 h_200 => ?_)
                              obtain ⟨rfl, rfl⟩ := h_200
                              refine x_iast C _ (by first | assumption | exact (hM.2.1 _ (by decide)).2.1) rfl (by first | omega | (rw [hM.nk _ (by decide)]; omega) | (rw [hM.np _ (by decide)]; omega)) (by first | omega | (rw [hM.nk _ (by decide)]; omega) | (rw [hM.np _ (by decide)]; omega)) D_X9_turn_9.2.2.2.2.2.1 (fun I2 eI2 => ?_)
                              refine x_goto C 237 D_X9_turn_9.2.2.2.2.2.2.1 (by decide) ?_
                              first
                              | refine x_iinc C (lv' := [_, _, _, _, _, _, _, _, _]) D_X9_turn_10.2.2.2.2.2.2.2.2.2.1 rfl (x_incN_1 _) (by first | rfl | exact x_ok_q rfl) rfl ?_
                              | refine x_iinc C (lv' := [_, _, _, _, _, _, _, _, _]) D_X9_turn_10.2.2.2.2.2.2.2.2.2.1 rfl (x_inc_1 _) (by first | rfl | exact x_ok_q rfl) rfl ?_
                              refine x_goto C 62 D_X9_turn_10.2.2.2.2.2.2.2.2.2.2.1 (by decide) ?_
                              refine ih_62 (k0 + 1) I2 _ (by omega) (by omega) (st_in eI2 hI1 ?_) (st_fr eI2 hfr)
                              rw [show turnM 0 1 p0 (tu k0) = mvd (tu k0) (2 * (2 * p0 + 0) + 1) (2 * (2 * p0 + 1) + 0) by unfold turnM; rw [if_neg d_83, if_neg d_101, if_neg (by rw [d_127, Bool.and_false]; decide), if_pos (by rw [d_173, Bool.and_true]; exact decide_eq_true d_117)]]
                            · skip
                              exact absurd c_191 (by decide)
                      · skip
                        first
                        | have d_127 := cz_ne c_127 (by omega)
                        | have d_127 := cb_ne c_127
                        | skip
                        refine x_aload_n C D_X9_turn_6.2.2.2.1 rfl rfl (by first | exact Or.inr ⟨_, rfl⟩ | exact va_rf_or _ | exact Or.inl rfl) ?_
                        refine x_getQ C (ci := 8) (k0 := 8) (by assumption) (by decide) rfl (by decide) in_X9 k_910 rfl rfl D_X9_turn_6.2.2.2.2.1 ?_
                        refine x_eqr (hM.2.1 8 (by decide)).1 ?_
                        refine x_iload C D_X9_turn_6.2.2.2.2.2.1 rfl ?_
                        refine x_iload C D_X9_turn_6.2.2.2.2.2.2.1 rfl ?_
                        refine x_iload C D_X9_turn_6.2.2.2.2.2.2.2.1 rfl ?_
                        refine x_iconst C (v := nI 2) D_X9_turn_6.2.2.2.2.2.2.2.2.1 (by decide +kernel) ?_
                        refine x_iload C D_X9_turn_6.2.2.2.2.2.2.2.2.2.1 rfl ?_
                        refine x_imul C D_X9_turn_6.2.2.2.2.2.2.2.2.2.2.1 ?_
                        first
                        | refine x_eqi _ (pk_mul _ _) ?_
                        | skip
                        refine x_iload_n C D_X9_turn_6.2.2.2.2.2.2.2.2.2.2.2 rfl rfl ?_
                        refine x_if_eq C 152 D_X9_turn_7.1 (by decide) (fun c_145 => ?_) (fun c_145 => ?_)
                        · skip
                          first
                          | have d_145 := cz_eq c_145 (by omega)
                          | have d_145 := cb_eq c_145
                          | skip
                          refine x_iconst C (v := nI 1) D_X9_turn_7.2.2.2.1 (by decide +kernel) ?_
                          refine x_iadd C D_X9_turn_7.2.2.2.2.1 ?_
                          first
                          | refine x_eqi _ (nI_add _ _) ?_
                          | skip
                          have hbel := d_127
                          refine x_callSi C (y := yX9_moved) (c_X9_moved l G (tu k0) (2 * p0 + 1) (2 * (2 * p0 + 1) + 1) (by omega) (by omega) (bel_dep hbel) (bel_le hbel) (mv_ok hbel (by omega) (by omega))) k_1018 k_1019 k_67 k_1020 hd_X9_moved ⟨(Nat.le_of_ble_eq_true rfl), (Nat.le_of_ble_eq_true rfl)⟩ rfl (by first | exact Nat.le_of_ble_eq_true rfl | simp [x_crf, Value.category]) rfl rfl D_X9_turn_7.2.2.2.2.2.1 ⟨(Nat.le_of_ble_eq_true rfl), (Nat.le_of_ble_eq_true rfl)⟩ (fun r_154 S_154 h_154 => ?_)
                          obtain ⟨rfl, rfl⟩ := h_154
                          refine x_iast C _ (by first | assumption | exact (hM.2.1 _ (by decide)).2.1) rfl (by first | omega | (rw [hM.nk _ (by decide)]; omega) | (rw [hM.np _ (by decide)]; omega)) (by first | omega | (rw [hM.nk _ (by decide)]; omega) | (rw [hM.np _ (by decide)]; omega)) D_X9_turn_7.2.2.2.2.2.2.1 (fun I2 eI2 => ?_)
                          refine x_goto C 237 D_X9_turn_7.2.2.2.2.2.2.2.1 (by decide) ?_
                          first
                          | refine x_iinc C (lv' := [_, _, _, _, _, _, _, _, _]) D_X9_turn_10.2.2.2.2.2.2.2.2.2.1 rfl (x_incN_1 _) (by first | rfl | exact x_ok_q rfl) rfl ?_
                          | refine x_iinc C (lv' := [_, _, _, _, _, _, _, _, _]) D_X9_turn_10.2.2.2.2.2.2.2.2.2.1 rfl (x_inc_1 _) (by first | rfl | exact x_ok_q rfl) rfl ?_
                          refine x_goto C 62 D_X9_turn_10.2.2.2.2.2.2.2.2.2.2.1 (by decide) ?_
                          refine ih_62 (k0 + 1) I2 _ (by omega) (by omega) (st_in eI2 hI1 ?_) (st_fr eI2 hfr)
                          rw [show turnM 0 1 p0 (tu k0) = mvd (tu k0) (2 * p0 + 1) (2 * (2 * p0 + 1) + 1) by unfold turnM; rw [if_neg d_83, if_neg d_101, if_pos (by rw [d_127, Bool.and_true]; exact decide_eq_true d_117)]]
                        · skip
                          exact absurd c_145 (by decide)
                  · skip
                    first
                    | have d_101 := cv_eq c_101 (by omega) (by omega)
                    | skip
                    refine x_aload_n C D_X9_turn_5.2.2.2.1 rfl rfl (by first | exact Or.inr ⟨_, rfl⟩ | exact va_rf_or _ | exact Or.inl rfl) ?_
                    refine x_getQ C (ci := 8) (k0 := 8) (by assumption) (by decide) rfl (by decide) in_X9 k_910 rfl rfl D_X9_turn_5.2.2.2.2.1 ?_
                    refine x_eqr (hM.2.1 8 (by decide)).1 ?_
                    refine x_iload C D_X9_turn_5.2.2.2.2.2.1 rfl ?_
                    refine x_iload_n C D_X9_turn_5.2.2.2.2.2.2.1 rfl rfl ?_
                    refine x_iast C _ (by first | assumption | exact (hM.2.1 _ (by decide)).2.1) rfl (by first | omega | (rw [hM.nk _ (by decide)]; omega) | (rw [hM.np _ (by decide)]; omega)) (by first | omega | (rw [hM.nk _ (by decide)]; omega) | (rw [hM.np _ (by decide)]; omega)) D_X9_turn_5.2.2.2.2.2.2.2.1 (fun I2 eI2 => ?_)
                    refine x_goto C 237 D_X9_turn_5.2.2.2.2.2.2.2.2.1 (by decide) ?_
                    first
                    | refine x_iinc C (lv' := [_, _, _, _, _, _, _, _, _]) D_X9_turn_10.2.2.2.2.2.2.2.2.2.1 rfl (x_incN_1 _) (by first | rfl | exact x_ok_q rfl) rfl ?_
                    | refine x_iinc C (lv' := [_, _, _, _, _, _, _, _, _]) D_X9_turn_10.2.2.2.2.2.2.2.2.2.1 rfl (x_inc_1 _) (by first | rfl | exact x_ok_q rfl) rfl ?_
                    refine x_goto C 62 D_X9_turn_10.2.2.2.2.2.2.2.2.2.2.1 (by decide) ?_
                    refine ih_62 (k0 + 1) I2 _ (by omega) (by omega) (st_in eI2 hI1 ?_) (st_fr eI2 hfr)
                    rw [show turnM 0 1 p0 (tu k0) = p0 by unfold turnM; rw [if_neg d_83, if_pos d_101]]
                · skip
                  first
                  | have d_83 := cv_eq c_83 (by omega) (by omega)
                  | skip
                  refine x_aload_n C D_X9_turn_4.2.2.2.2.2.2.1 rfl rfl (by first | exact Or.inr ⟨_, rfl⟩ | exact va_rf_or _ | exact Or.inl rfl) ?_
                  refine x_getQ C (ci := 8) (k0 := 8) (by assumption) (by decide) rfl (by decide) in_X9 k_910 rfl rfl D_X9_turn_4.2.2.2.2.2.2.2.1 ?_
                  refine x_eqr (hM.2.1 8 (by decide)).1 ?_
                  refine x_iload C D_X9_turn_4.2.2.2.2.2.2.2.2.1 rfl ?_
                  refine x_iload C D_X9_turn_4.2.2.2.2.2.2.2.2.2.1 rfl ?_
                  refine x_iast C _ (by first | assumption | exact (hM.2.1 _ (by decide)).2.1) rfl (by first | omega | (rw [hM.nk _ (by decide)]; omega) | (rw [hM.np _ (by decide)]; omega)) (by first | omega | (rw [hM.nk _ (by decide)]; omega) | (rw [hM.np _ (by decide)]; omega)) D_X9_turn_4.2.2.2.2.2.2.2.2.2.2.1 (fun I2 eI2 => ?_)
                  refine x_goto C 237 D_X9_turn_4.2.2.2.2.2.2.2.2.2.2.2 (by decide) ?_
                  first
                  | refine x_iinc C (lv' := [_, _, _, _, _, _, _, _, _]) D_X9_turn_10.2.2.2.2.2.2.2.2.2.1 rfl (x_incN_1 _) (by first | rfl | exact x_ok_q rfl) rfl ?_
                  | refine x_iinc C (lv' := [_, _, _, _, _, _, _, _, _]) D_X9_turn_10.2.2.2.2.2.2.2.2.2.1 rfl (x_inc_1 _) (by first | rfl | exact x_ok_q rfl) rfl ?_
                  refine x_goto C 62 D_X9_turn_10.2.2.2.2.2.2.2.2.2.2.1 (by decide) ?_
                  refine ih_62 (k0 + 1) I2 _ (by omega) (by omega) (st_in eI2 hI1 ?_) (st_fr eI2 hfr)
                  rw [show turnM 0 1 p0 (tu k0) = 2 * p0 + 1 by unfold turnM; rw [if_pos d_83]]
          exact L_62 _ 0 I _ (Nat.lt_succ_self _) (Nat.zero_le _) (fun i hi => by omega) (fun a j _ => rfl)
        · skip
          exact absurd c_48 (by decide)
      · skip
        exact absurd c_33 (by decide)
    · skip
      exact absurd c_18 (by decide)
  · skip
    exact absurd c_4 (by decide)
abbrev rm_X9_balance : Room := { frames := 4, cells := 0, slots := 0, locals := 88 }
theorem hd_X9_load : yX9_load.cls ≠ "java/lang/invoke/MethodHandle" ∧ yX9_load.cls ≠ "java/lang/invoke/VarHandle" ∧ (parseMethodDescriptor yX9_load.desc).map (fun d => d.parameters.length) = some 1 := by decide +kernel
theorem hd_X9_turn : yX9_turn.cls ≠ "java/lang/invoke/MethodHandle" ∧ yX9_turn.cls ≠ "java/lang/invoke/VarHandle" ∧ (parseMethodDescriptor yX9_turn.desc).map (fun d => d.parameters.length) = some 2 := by decide +kernel
set_option maxHeartbeats 4000000 in
set_option maxRecDepth 100000 in
theorem c_X9_balance (l : Launch) (G : xG) {K N : Nat → Nat} {I : Nat → Nat → Int32} {Q : Nat → Nat → Option Nat} {J : Nat → Nat → Int64} (m n p0 : Nat) (ar tu : Nat → Nat) (hM : MZ K N Q m ar) (hn : I m 0 = nI n) (hnb : n ≤ 202) (htu : ∀ i, i < n → I (ar 8) i = nI (tu i) ∧ tu i < 2 ^ 25) (hp0 : 0 < p0) (hp : p0 < 2 ^ 24) : XM l yX9_balance cX9_balance 4 none rm_X9_balance G Rv [.ref m, .int (nI p0)] (K, N, I, Q, J) (fun _ S1 => ∃ I1, S1 = (K, N, I1, Q, J) ∧ (∀ i, i < n → I1 (ar 8) i = nI ((balM n tu p0).1 i)) ∧ I1 m 3 = I m 3 + nI (balM n tu p0).2 ∧ (∀ a j, ¬ (a = ar 8 ∧ j < n) → ¬ (a = m ∧ j = 3) → I1 a j = I a j)) := by
  refine x_metv (lv := [_, _, _, _]) (by decide +kernel) (x_cc (by first | rfl | exact x_crf _) (x_cc (by first | rfl | exact x_crf _) x_cn)) (Nat.le_of_ble_eq_true rfl) rfl ?_
  intro pP eE sS mM aA bB hH cC Z C hini ret
  have hk9 := hM.1
  have hm8 := hM.nm 8 (by decide)
  refine x_aload_n C D_X9_balance_0.1 rfl rfl (by first | exact Or.inr ⟨_, rfl⟩ | exact va_rf_or _ | exact Or.inl rfl) ?_
  refine x_iconst C (v := nI 2) D_X9_balance_0.2.1 (by decide +kernel) ?_
  refine x_iload_n C D_X9_balance_0.2.2.1 rfl rfl ?_
  refine x_imul C D_X9_balance_0.2.2.2.1 ?_
  first
  | refine x_eqi _ (pk_mul _ _) ?_
  | skip
  refine x_callVi C (y := yX9_load) (c_X9_load l G m n (2 * p0) ar tu hM hn hnb (fun i hi => ⟨(htu i hi).1, by have := (htu i hi).2; omega⟩) (by omega)) (ci := 8) hM.1 (by decide) rfl rfl k_1001 k_1003 k_42 k_67 k_1004 hd_X9_load ⟨(Nat.le_of_ble_eq_true rfl), (Nat.le_of_ble_eq_true rfl)⟩ rfl (by first | exact Nat.le_of_ble_eq_true rfl | simp [x_crf, Value.category]) rfl rfl D_X9_balance_0.2.2.2.2.1 ⟨(Nat.le_of_ble_eq_true rfl), (Nat.le_of_ble_eq_true rfl)⟩ (fun r_4 S_4 h_4 => ?_)
  obtain ⟨rfl, rfl⟩ := h_4
  refine x_eqi (nI (cnW n tu (2 * p0) + 1)) rfl ?_
  have hw_4 := cnW_le n tu (2 * p0)
  refine x_istore_n C (lv' := [_, _, _, _]) D_X9_balance_0.2.2.2.2.2.1 rfl (Nat.le_of_ble_eq_true rfl) (by first | rfl | exact x_ok_q rfl) rfl ?_
  refine x_aload_n C D_X9_balance_0.2.2.2.2.2.2.1 rfl rfl (by first | exact Or.inr ⟨_, rfl⟩ | exact va_rf_or _ | exact Or.inl rfl) ?_
  refine x_iconst C (v := nI 2) D_X9_balance_0.2.2.2.2.2.2.2.1 (by decide +kernel) ?_
  refine x_iload_n C D_X9_balance_0.2.2.2.2.2.2.2.2.1 rfl rfl ?_
  refine x_imul C D_X9_balance_0.2.2.2.2.2.2.2.2.2.1 ?_
  first
  | refine x_eqi _ (pk_mul _ _) ?_
  | skip
  refine x_iconst C (v := nI 1) D_X9_balance_0.2.2.2.2.2.2.2.2.2.2.1 (by decide +kernel) ?_
  refine x_iadd C D_X9_balance_0.2.2.2.2.2.2.2.2.2.2.2 ?_
  first
  | refine x_eqi _ (nI_add _ _) ?_
  | skip
  refine x_callVi C (y := yX9_load) (c_X9_load l G m n (2 * p0 + 1) ar tu hM hn hnb (fun i hi => ⟨(htu i hi).1, by have := (htu i hi).2; omega⟩) (by omega)) (ci := 8) hM.1 (by decide) rfl rfl k_1001 k_1003 k_42 k_67 k_1004 hd_X9_load ⟨(Nat.le_of_ble_eq_true rfl), (Nat.le_of_ble_eq_true rfl)⟩ rfl (by first | exact Nat.le_of_ble_eq_true rfl | simp [x_crf, Value.category]) rfl rfl D_X9_balance_1.1 ⟨(Nat.le_of_ble_eq_true rfl), (Nat.le_of_ble_eq_true rfl)⟩ (fun r_14 S_14 h_14 => ?_)
  obtain ⟨rfl, rfl⟩ := h_14
  refine x_eqi (nI (cnW n tu (2 * p0 + 1) + 1)) rfl ?_
  have hw_14 := cnW_le n tu (2 * p0 + 1)
  refine x_istore_n C (lv' := [_, _, _, _]) D_X9_balance_1.2.1 rfl (Nat.le_of_ble_eq_true rfl) (by first | rfl | exact x_ok_q rfl) rfl ?_
  refine x_iload_n C D_X9_balance_1.2.2.1 rfl rfl ?_
  refine x_iconst C (v := nI 3) D_X9_balance_1.2.2.2.1 (by decide +kernel) ?_
  refine x_iload_n C D_X9_balance_1.2.2.2.2.1 rfl rfl ?_
  refine x_imul C D_X9_balance_1.2.2.2.2.2.1 ?_
  first
  | refine x_eqi _ (pk_mul _ _) ?_
  | skip
  refine x_icmp_le C 67 D_X9_balance_1.2.2.2.2.2.2.1 (by decide) (fun c_22 => ?_) (fun c_22 => ?_)
  · skip
    first
    | have d_22 := cv_le c_22 (by omega) (by omega)
    | skip
    refine x_iload_n C D_X9_balance_4.2.1 rfl rfl ?_
    refine x_iconst C (v := nI 3) D_X9_balance_4.2.2.1 (by decide +kernel) ?_
    refine x_iload_n C D_X9_balance_4.2.2.2.1 rfl rfl ?_
    refine x_imul C D_X9_balance_4.2.2.2.2.1 ?_
    first
    | refine x_eqi _ (pk_mul _ _) ?_
    | skip
    refine x_icmp_le C 109 D_X9_balance_4.2.2.2.2.2.1 (by decide) (fun c_71 => ?_) (fun c_71 => ?_)
    · skip
      first
      | have d_71 := cv_le c_71 (by omega) (by omega)
      | skip
      refine ret _ _ _ _ _ rfl D_X9_balance_6.2.2.2.2.2.2.2 (Nat.le_of_ble_eq_true rfl) (Nat.le_of_ble_eq_true rfl) ?_
      refine ⟨I, rfl, fun i hi => ?_, ?_, fun _ _ _ _ => rfl⟩
      · unfold balM; rw [if_neg (by omega), if_neg (by omega)]; exact (htu i hi).1
      · unfold balM; rw [if_neg (by omega), if_neg (by omega), nI_0, Int32.add_zero]
    · skip
      first
      | have d_71 := cv_nle c_71 (by omega) (by omega)
      | skip
      refine x_aload_n C D_X9_balance_4.2.2.2.2.2.2.1 rfl rfl (by first | exact Or.inr ⟨_, rfl⟩ | exact va_rf_or _ | exact Or.inl rfl) ?_
      refine x_iconst C (v := nI 4) D_X9_balance_4.2.2.2.2.2.2.2.1 (by decide +kernel) ?_
      refine x_iload_n C D_X9_balance_4.2.2.2.2.2.2.2.2.1 rfl rfl ?_
      refine x_imul C D_X9_balance_4.2.2.2.2.2.2.2.2.2.1 ?_
      first
      | refine x_eqi _ (pk_mul _ _) ?_
      | skip
      refine x_iconst C (v := nI 1) D_X9_balance_4.2.2.2.2.2.2.2.2.2.2.1 (by decide +kernel) ?_
      refine x_iadd C D_X9_balance_4.2.2.2.2.2.2.2.2.2.2.2 ?_
      first
      | refine x_eqi _ (nI_add _ _) ?_
      | skip
      refine x_callVi C (y := yX9_load) (c_X9_load l G m n (4 * p0 + 1) ar tu hM hn hnb (fun i hi => ⟨(htu i hi).1, by have := (htu i hi).2; omega⟩) (by omega)) (ci := 8) hM.1 (by decide) rfl rfl k_1001 k_1003 k_42 k_67 k_1004 hd_X9_load ⟨(Nat.le_of_ble_eq_true rfl), (Nat.le_of_ble_eq_true rfl)⟩ rfl (by first | exact Nat.le_of_ble_eq_true rfl | simp [x_crf, Value.category]) rfl rfl D_X9_balance_5.1 ⟨(Nat.le_of_ble_eq_true rfl), (Nat.le_of_ble_eq_true rfl)⟩ (fun r_80 S_80 h_80 => ?_)
      obtain ⟨rfl, rfl⟩ := h_80
      refine x_eqi (nI (cnW n tu (4 * p0 + 1) + 1)) rfl ?_
      have hw_80 := cnW_le n tu (4 * p0 + 1)
      refine x_iconst C (v := nI 2) D_X9_balance_5.2.1 (by decide +kernel) ?_
      refine x_aload_n C D_X9_balance_5.2.2.1 rfl rfl (by first | exact Or.inr ⟨_, rfl⟩ | exact va_rf_or _ | exact Or.inl rfl) ?_
      refine x_iconst C (v := nI 4) D_X9_balance_5.2.2.2.1 (by decide +kernel) ?_
      refine x_iload_n C D_X9_balance_5.2.2.2.2.1 rfl rfl ?_
      refine x_imul C D_X9_balance_5.2.2.2.2.2.1 ?_
      first
      | refine x_eqi _ (pk_mul _ _) ?_
      | skip
      refine x_callVi C (y := yX9_load) (c_X9_load l G m n (4 * p0) ar tu hM hn hnb (fun i hi => ⟨(htu i hi).1, by have := (htu i hi).2; omega⟩) (by omega)) (ci := 8) hM.1 (by decide) rfl rfl k_1001 k_1003 k_42 k_67 k_1004 hd_X9_load ⟨(Nat.le_of_ble_eq_true rfl), (Nat.le_of_ble_eq_true rfl)⟩ rfl (by first | exact Nat.le_of_ble_eq_true rfl | simp [x_crf, Value.category]) rfl rfl D_X9_balance_5.2.2.2.2.2.2.1 ⟨(Nat.le_of_ble_eq_true rfl), (Nat.le_of_ble_eq_true rfl)⟩ (fun r_88 S_88 h_88 => ?_)
      obtain ⟨rfl, rfl⟩ := h_88
      refine x_eqi (nI (cnW n tu (4 * p0) + 1)) rfl ?_
      have hw_88 := cnW_le n tu (4 * p0)
      refine x_imul C D_X9_balance_5.2.2.2.2.2.2.2.1 ?_
      first
      | refine x_eqi _ (pk_mul _ _) ?_
      | skip
      refine x_icmp_lt C 103 D_X9_balance_5.2.2.2.2.2.2.2.2.1 (by decide) (fun c_92 => ?_) (fun c_92 => ?_)
      · skip
        first
        | have d_92 := cv_lt c_92 (by omega) (by omega)
        | skip
        refine x_aload_n C D_X9_balance_6.2.2.2.1 rfl rfl (by first | exact Or.inr ⟨_, rfl⟩ | exact va_rf_or _ | exact Or.inl rfl) ?_
        refine x_iload_n C D_X9_balance_6.2.2.2.2.1 rfl rfl ?_
        refine x_iconst C (v := nI 0) D_X9_balance_6.2.2.2.2.2.1 (by decide +kernel) ?_
        refine x_callVv C (y := yX9_turn) (c_X9_turn_0 l G m n (p0) ar (tu) hM hn hnb (fun i hi => ⟨(htu i hi).1, by have := (htu i hi).2; omega⟩) (by omega) (by omega)) (ci := 8) hM.1 (by decide) rfl rfl k_1014 k_1016 k_43 k_67 k_1017 hd_X9_turn ⟨(Nat.le_of_ble_eq_true rfl), (Nat.le_of_ble_eq_true rfl)⟩ rfl (by first | exact Nat.le_of_ble_eq_true rfl | simp [x_crf, Value.category]) rfl rfl D_X9_balance_6.2.2.2.2.2.2.1 ⟨(Nat.le_of_ble_eq_true rfl), (Nat.le_of_ble_eq_true rfl)⟩ (fun _ S_106 h_106 => ?_)
        obtain ⟨I_106, rfl, f1_106, f2_106, f3_106⟩ := h_106
        refine ret _ _ _ _ _ rfl D_X9_balance_6.2.2.2.2.2.2.2 (Nat.le_of_ble_eq_true rfl) (Nat.le_of_ble_eq_true rfl) ?_
        refine ⟨I_106, rfl, fun i hi => ?_, ?_, f3_106⟩
        · rw [f1_106 i hi]; unfold balM; rw [if_neg (by omega), if_pos (by omega), if_neg (by omega)]
        · rw [f2_106]; unfold balM; rw [if_neg (by omega), if_pos (by omega), if_neg (by omega)]
      · skip
        first
        | have d_92 := cv_nlt c_92 (by omega) (by omega)
        | skip
        refine x_aload_n C D_X9_balance_5.2.2.2.2.2.2.2.2.2.1 rfl rfl (by first | exact Or.inr ⟨_, rfl⟩ | exact va_rf_or _ | exact Or.inl rfl) ?_
        refine x_iconst C (v := nI 2) D_X9_balance_5.2.2.2.2.2.2.2.2.2.2.1 (by decide +kernel) ?_
        refine x_iload_n C D_X9_balance_5.2.2.2.2.2.2.2.2.2.2.2 rfl rfl ?_
        refine x_imul C D_X9_balance_6.1 ?_
        first
        | refine x_eqi _ (pk_mul _ _) ?_
        | skip
        refine x_iconst C (v := nI 1) D_X9_balance_6.2.1 (by decide +kernel) ?_
        refine x_callVv C (y := yX9_turn) (c_X9_turn_1 l G m n (2 * p0) ar (tu) hM hn hnb (fun i hi => ⟨(htu i hi).1, by have := (htu i hi).2; omega⟩) (by omega) (by omega)) (ci := 8) hM.1 (by decide) rfl rfl k_1014 k_1016 k_43 k_67 k_1017 hd_X9_turn ⟨(Nat.le_of_ble_eq_true rfl), (Nat.le_of_ble_eq_true rfl)⟩ rfl (by first | exact Nat.le_of_ble_eq_true rfl | simp [x_crf, Value.category]) rfl rfl D_X9_balance_6.2.2.1 ⟨(Nat.le_of_ble_eq_true rfl), (Nat.le_of_ble_eq_true rfl)⟩ (fun _ S_100 h_100 => ?_)
        obtain ⟨I_100, rfl, f1_100, f2_100, f3_100⟩ := h_100
        have hn100 : I_100 m 0 = nI n := by rw [f3_100 m 0 (fun e => hm8 e.1.symm) (fun e => by omega)]; exact hn
        refine x_aload_n C D_X9_balance_6.2.2.2.1 rfl rfl (by first | exact Or.inr ⟨_, rfl⟩ | exact va_rf_or _ | exact Or.inl rfl) ?_
        refine x_iload_n C D_X9_balance_6.2.2.2.2.1 rfl rfl ?_
        refine x_iconst C (v := nI 0) D_X9_balance_6.2.2.2.2.2.1 (by decide +kernel) ?_
        refine x_callVv C (y := yX9_turn) (c_X9_turn_0 l G m n (p0) ar (fun i => turnM 1 0 (2 * p0) (tu i)) hM hn100 hnb (fun i hi => ⟨f1_100 i hi, by have := turnM_lt (e1 := 1) (e0 := 0) (p := 2 * p0) (by omega) (by omega) (by omega) (by omega) (htu i hi).2; omega⟩) (by omega) (by omega)) (ci := 8) hM.1 (by decide) rfl rfl k_1014 k_1016 k_43 k_67 k_1017 hd_X9_turn ⟨(Nat.le_of_ble_eq_true rfl), (Nat.le_of_ble_eq_true rfl)⟩ rfl (by first | exact Nat.le_of_ble_eq_true rfl | simp [x_crf, Value.category]) rfl rfl D_X9_balance_6.2.2.2.2.2.2.1 ⟨(Nat.le_of_ble_eq_true rfl), (Nat.le_of_ble_eq_true rfl)⟩ (fun _ S_106 h_106 => ?_)
        obtain ⟨I_106, rfl, f1_106, f2_106, f3_106⟩ := h_106
        refine ret _ _ _ _ _ rfl D_X9_balance_6.2.2.2.2.2.2.2 (Nat.le_of_ble_eq_true rfl) (Nat.le_of_ble_eq_true rfl) ?_
        refine ⟨I_106, rfl, fun i hi => ?_, ?_, fun a j h1 h2 => ?_⟩
        · rw [f1_106 i hi]; unfold balM; rw [if_neg (by omega), if_pos (by omega), if_pos (by omega)]
        · rw [f2_106, f2_100, Int32.add_assoc, nI_add]; unfold balM; rw [if_neg (by omega), if_pos (by omega), if_pos (by omega)]
        · rw [f3_106 a j h1 h2, f3_100 a j h1 h2]
  · skip
    first
    | have d_22 := cv_nle c_22 (by omega) (by omega)
    | skip
    refine x_aload_n C D_X9_balance_1.2.2.2.2.2.2.2.1 rfl rfl (by first | exact Or.inr ⟨_, rfl⟩ | exact va_rf_or _ | exact Or.inl rfl) ?_
    refine x_iconst C (v := nI 4) D_X9_balance_1.2.2.2.2.2.2.2.2.1 (by decide +kernel) ?_
    refine x_iload_n C D_X9_balance_1.2.2.2.2.2.2.2.2.2.1 rfl rfl ?_
    refine x_imul C D_X9_balance_1.2.2.2.2.2.2.2.2.2.2.1 ?_
    first
    | refine x_eqi _ (pk_mul _ _) ?_
    | skip
    refine x_iconst C (v := nI 2) D_X9_balance_1.2.2.2.2.2.2.2.2.2.2.2 (by decide +kernel) ?_
    refine x_iadd C D_X9_balance_2.1 ?_
    first
    | refine x_eqi _ (nI_add _ _) ?_
    | skip
    refine x_callVi C (y := yX9_load) (c_X9_load l G m n (4 * p0 + 2) ar tu hM hn hnb (fun i hi => ⟨(htu i hi).1, by have := (htu i hi).2; omega⟩) (by omega)) (ci := 8) hM.1 (by decide) rfl rfl k_1001 k_1003 k_42 k_67 k_1004 hd_X9_load ⟨(Nat.le_of_ble_eq_true rfl), (Nat.le_of_ble_eq_true rfl)⟩ rfl (by first | exact Nat.le_of_ble_eq_true rfl | simp [x_crf, Value.category]) rfl rfl D_X9_balance_2.2.1 ⟨(Nat.le_of_ble_eq_true rfl), (Nat.le_of_ble_eq_true rfl)⟩ (fun r_31 S_31 h_31 => ?_)
    obtain ⟨rfl, rfl⟩ := h_31
    refine x_eqi (nI (cnW n tu (4 * p0 + 2) + 1)) rfl ?_
    have hw_31 := cnW_le n tu (4 * p0 + 2)
    refine x_iconst C (v := nI 2) D_X9_balance_2.2.2.1 (by decide +kernel) ?_
    refine x_aload_n C D_X9_balance_2.2.2.2.1 rfl rfl (by first | exact Or.inr ⟨_, rfl⟩ | exact va_rf_or _ | exact Or.inl rfl) ?_
    refine x_iconst C (v := nI 4) D_X9_balance_2.2.2.2.2.1 (by decide +kernel) ?_
    refine x_iload_n C D_X9_balance_2.2.2.2.2.2.1 rfl rfl ?_
    refine x_imul C D_X9_balance_2.2.2.2.2.2.2.1 ?_
    first
    | refine x_eqi _ (pk_mul _ _) ?_
    | skip
    refine x_iconst C (v := nI 3) D_X9_balance_2.2.2.2.2.2.2.2.1 (by decide +kernel) ?_
    refine x_iadd C D_X9_balance_2.2.2.2.2.2.2.2.2.1 ?_
    first
    | refine x_eqi _ (nI_add _ _) ?_
    | skip
    refine x_callVi C (y := yX9_load) (c_X9_load l G m n (4 * p0 + 3) ar tu hM hn hnb (fun i hi => ⟨(htu i hi).1, by have := (htu i hi).2; omega⟩) (by omega)) (ci := 8) hM.1 (by decide) rfl rfl k_1001 k_1003 k_42 k_67 k_1004 hd_X9_load ⟨(Nat.le_of_ble_eq_true rfl), (Nat.le_of_ble_eq_true rfl)⟩ rfl (by first | exact Nat.le_of_ble_eq_true rfl | simp [x_crf, Value.category]) rfl rfl D_X9_balance_2.2.2.2.2.2.2.2.2.2.1 ⟨(Nat.le_of_ble_eq_true rfl), (Nat.le_of_ble_eq_true rfl)⟩ (fun r_41 S_41 h_41 => ?_)
    obtain ⟨rfl, rfl⟩ := h_41
    refine x_eqi (nI (cnW n tu (4 * p0 + 3) + 1)) rfl ?_
    have hw_41 := cnW_le n tu (4 * p0 + 3)
    refine x_imul C D_X9_balance_2.2.2.2.2.2.2.2.2.2.2.1 ?_
    first
    | refine x_eqi _ (pk_mul _ _) ?_
    | skip
    refine x_icmp_lt C 58 D_X9_balance_2.2.2.2.2.2.2.2.2.2.2.2 (by decide) (fun c_45 => ?_) (fun c_45 => ?_)
    · skip
      first
      | have d_45 := cv_lt c_45 (by omega) (by omega)
      | skip
      refine x_aload_n C D_X9_balance_3.2.2.2.2.2.2.2.2.1 rfl rfl (by first | exact Or.inr ⟨_, rfl⟩ | exact va_rf_or _ | exact Or.inl rfl) ?_
      refine x_iload_n C D_X9_balance_3.2.2.2.2.2.2.2.2.2.1 rfl rfl ?_
      refine x_iconst C (v := nI 1) D_X9_balance_3.2.2.2.2.2.2.2.2.2.2.1 (by decide +kernel) ?_
      refine x_callVv C (y := yX9_turn) (c_X9_turn_1 l G m n (p0) ar (tu) hM hn hnb (fun i hi => ⟨(htu i hi).1, by have := (htu i hi).2; omega⟩) (by omega) (by omega)) (ci := 8) hM.1 (by decide) rfl rfl k_1014 k_1016 k_43 k_67 k_1017 hd_X9_turn ⟨(Nat.le_of_ble_eq_true rfl), (Nat.le_of_ble_eq_true rfl)⟩ rfl (by first | exact Nat.le_of_ble_eq_true rfl | simp [x_crf, Value.category]) rfl rfl D_X9_balance_3.2.2.2.2.2.2.2.2.2.2.2 ⟨(Nat.le_of_ble_eq_true rfl), (Nat.le_of_ble_eq_true rfl)⟩ (fun _ S_61 h_61 => ?_)
      obtain ⟨I_61, rfl, f1_61, f2_61, f3_61⟩ := h_61
      refine x_goto C 109 D_X9_balance_4.1 (by decide) ?_
      refine ret _ _ _ _ _ rfl D_X9_balance_6.2.2.2.2.2.2.2 (Nat.le_of_ble_eq_true rfl) (Nat.le_of_ble_eq_true rfl) ?_
      refine ⟨I_61, rfl, fun i hi => ?_, ?_, f3_61⟩
      · rw [f1_61 i hi]; unfold balM; rw [if_pos (by omega), if_neg (by omega)]
      · rw [f2_61]; unfold balM; rw [if_pos (by omega), if_neg (by omega)]
    · skip
      first
      | have d_45 := cv_nlt c_45 (by omega) (by omega)
      | skip
      refine x_aload_n C D_X9_balance_3.1 rfl rfl (by first | exact Or.inr ⟨_, rfl⟩ | exact va_rf_or _ | exact Or.inl rfl) ?_
      refine x_iconst C (v := nI 2) D_X9_balance_3.2.1 (by decide +kernel) ?_
      refine x_iload_n C D_X9_balance_3.2.2.1 rfl rfl ?_
      refine x_imul C D_X9_balance_3.2.2.2.1 ?_
      first
      | refine x_eqi _ (pk_mul _ _) ?_
      | skip
      refine x_iconst C (v := nI 1) D_X9_balance_3.2.2.2.2.1 (by decide +kernel) ?_
      refine x_iadd C D_X9_balance_3.2.2.2.2.2.1 ?_
      first
      | refine x_eqi _ (nI_add _ _) ?_
      | skip
      refine x_iconst C (v := nI 0) D_X9_balance_3.2.2.2.2.2.2.1 (by decide +kernel) ?_
      refine x_callVv C (y := yX9_turn) (c_X9_turn_0 l G m n (2 * p0 + 1) ar (tu) hM hn hnb (fun i hi => ⟨(htu i hi).1, by have := (htu i hi).2; omega⟩) (by omega) (by omega)) (ci := 8) hM.1 (by decide) rfl rfl k_1014 k_1016 k_43 k_67 k_1017 hd_X9_turn ⟨(Nat.le_of_ble_eq_true rfl), (Nat.le_of_ble_eq_true rfl)⟩ rfl (by first | exact Nat.le_of_ble_eq_true rfl | simp [x_crf, Value.category]) rfl rfl D_X9_balance_3.2.2.2.2.2.2.2.1 ⟨(Nat.le_of_ble_eq_true rfl), (Nat.le_of_ble_eq_true rfl)⟩ (fun _ S_55 h_55 => ?_)
      obtain ⟨I_55, rfl, f1_55, f2_55, f3_55⟩ := h_55
      have hn55 : I_55 m 0 = nI n := by rw [f3_55 m 0 (fun e => hm8 e.1.symm) (fun e => by omega)]; exact hn
      refine x_aload_n C D_X9_balance_3.2.2.2.2.2.2.2.2.1 rfl rfl (by first | exact Or.inr ⟨_, rfl⟩ | exact va_rf_or _ | exact Or.inl rfl) ?_
      refine x_iload_n C D_X9_balance_3.2.2.2.2.2.2.2.2.2.1 rfl rfl ?_
      refine x_iconst C (v := nI 1) D_X9_balance_3.2.2.2.2.2.2.2.2.2.2.1 (by decide +kernel) ?_
      refine x_callVv C (y := yX9_turn) (c_X9_turn_1 l G m n (p0) ar (fun i => turnM 0 1 (2 * p0 + 1) (tu i)) hM hn55 hnb (fun i hi => ⟨f1_55 i hi, by have := turnM_lt (e1 := 0) (e0 := 1) (p := 2 * p0 + 1) (by omega) (by omega) (by omega) (by omega) (htu i hi).2; omega⟩) (by omega) (by omega)) (ci := 8) hM.1 (by decide) rfl rfl k_1014 k_1016 k_43 k_67 k_1017 hd_X9_turn ⟨(Nat.le_of_ble_eq_true rfl), (Nat.le_of_ble_eq_true rfl)⟩ rfl (by first | exact Nat.le_of_ble_eq_true rfl | simp [x_crf, Value.category]) rfl rfl D_X9_balance_3.2.2.2.2.2.2.2.2.2.2.2 ⟨(Nat.le_of_ble_eq_true rfl), (Nat.le_of_ble_eq_true rfl)⟩ (fun _ S_61 h_61 => ?_)
      obtain ⟨I_61, rfl, f1_61, f2_61, f3_61⟩ := h_61
      refine x_goto C 109 D_X9_balance_4.1 (by decide) ?_
      refine ret _ _ _ _ _ rfl D_X9_balance_6.2.2.2.2.2.2.2 (Nat.le_of_ble_eq_true rfl) (Nat.le_of_ble_eq_true rfl) ?_
      refine ⟨I_61, rfl, fun i hi => ?_, ?_, fun a j h1 h2 => ?_⟩
      · rw [f1_61 i hi]; unfold balM; rw [if_pos (by omega), if_pos (by omega)]
      · rw [f2_61, f2_55, Int32.add_assoc, nI_add]; unfold balM; rw [if_pos (by omega), if_pos (by omega)]
      · rw [f3_61 a j h1 h2, f3_55 a j h1 h2]
abbrev rm_X9_balancesAbove : Room := { frames := 5, cells := 0, slots := 0, locals := 111 }
theorem hd_X9_balance : yX9_balance.cls ≠ "java/lang/invoke/MethodHandle" ∧ yX9_balance.cls ≠ "java/lang/invoke/VarHandle" ∧ (parseMethodDescriptor yX9_balance.desc).map (fun d => d.parameters.length) = some 1 := by decide +kernel
set_option maxHeartbeats 4000000 in
set_option maxRecDepth 100000 in
theorem c_X9_balancesAbove (l : Launch) (G : xG) {K N : Nat → Nat} {I : Nat → Nat → Int32} {Q : Nat → Nat → Option Nat} {J : Nat → Nat → Int64} (m n p0 : Nat) (ar tu : Nat → Nat) (hM : MZ K N Q m ar) (hn : I m 0 = nI n) (hnb : n ≤ 202) (htu : ∀ i, i < n → I (ar 8) i = nI (tu i)) (hp : p0 < 2 ^ 25) (hB : balOK n 26 tu (p0 / 2)) : XM l yX9_balancesAbove cX9_balancesAbove 3 none rm_X9_balancesAbove G Rv [.ref m, .int (nI p0)] (K, N, I, Q, J) (fun _ S1 => ∃ I1, S1 = (K, N, I1, Q, J) ∧ (∀ i, i < n → I1 (ar 8) i = nI ((balsM n 26 tu (p0 / 2)).1 i)) ∧ I1 m 3 = I m 3 + nI (balsM n 26 tu (p0 / 2)).2 ∧ (∀ a j, ¬ (a = ar 8 ∧ j < n) → ¬ (a = m ∧ j = 3) → I1 a j = I a j)) := by
  refine x_metv (lv := [_, _, _]) (by decide +kernel) (x_cc (by first | rfl | exact x_crf _) (x_cc (by first | rfl | exact x_crf _) x_cn)) (Nat.le_of_ble_eq_true rfl) rfl ?_
  intro pP eE sS mM aA bB hH cC Z C hini ret
  have hk9 := hM.1
  have hm8 := hM.nm 8 (by decide)
  refine x_iload_n C D_X9_balancesAbove_0.1 rfl rfl ?_
  refine x_iconst C (v := nI 2) D_X9_balancesAbove_0.2.1 (by decide +kernel) ?_
  refine x_idiv C D_X9_balancesAbove_0.2.2.1 (by decide) ?_
  first
  | refine x_eqi _ (pk_div (by omega) (by decide) (by decide)) ?_
  | skip
  refine x_istore_n C (lv' := [_, _, _]) D_X9_balancesAbove_0.2.2.2.1 rfl (Nat.le_of_ble_eq_true rfl) (by first | rfl | exact x_ok_q rfl) rfl ?_
  have L_4 : ∀ (w_4 : Nat) (f u k1 : Nat) (tu1 : Nat → Nat) (I1 : Nat → Nat → Int32), u < w_4 → (u < 2 ^ 24) → (∀ i, i < n → I1 (ar 8) i = nI (tu1 i)) → (∀ a j, ¬ (a = ar 8 ∧ j < n) → ¬ (a = m ∧ j = 3) → I1 a j = I a j) → (I1 m 3 = I m 3 + nI k1) → (balOK n f tu1 u) → ((balsM n f tu1 u).1 = (balsM n 26 tu (p0 / 2)).1) → (k1 + (balsM n f tu1 u).2 = (balsM n 26 tu (p0 / 2)).2) → XW pP l eE rm_X9_balancesAbove sS mM aA bB hH cC G Z 0 0 (K, N, I1, Q, J) 4 [some (.ref m), some (.int (nI p0)), some (.int (nI u))] [] := by
    intro w_4
    induction w_4 with
    | zero =>
      intro f u k1 tu1 I1 hw_4
      exact absurd hw_4 (Nat.not_lt_zero _)
    | succ w_4 ih_4 =>
      intro f u k1 tu1 I1 hw_4 hu hI1 hfr hmc hBf hF1 hF2
      have hn1 : I1 m 0 = nI n := by rw [hfr m 0 (fun e => hm8 e.1.symm) (fun e => by omega)]; exact hn
      refine x_iload_n C D_X9_balancesAbove_0.2.2.2.2.1 rfl rfl ?_
      refine x_if_le C 20 D_X9_balancesAbove_0.2.2.2.2.2.1 (by decide) (fun c_5 => ?_) (fun c_5 => ?_)
      · skip
        first
        | have d_5 := cz_le c_5 (by omega)
        | skip
        subst d_5
        refine ret _ _ _ _ _ rfl D_X9_balancesAbove_1.2.2 (Nat.le_of_ble_eq_true rfl) (Nat.le_of_ble_eq_true rfl) ?_
        refine ⟨I1, rfl, fun i hi => ?_, ?_, hfr⟩
        · rw [← hF1, balsM_0]; exact hI1 i hi
        · rw [hmc, ← hF2, balsM_0]; rfl
      · skip
        first
        | have d_5 := cz_nle c_5 (by omega)
        | skip
        obtain ⟨g, rfl⟩ : ∃ g, f = g + 1 := by
          cases f with
          | zero => exact absurd hBf (by show ¬ u = 0; omega)
          | succ g => exact ⟨g, rfl⟩
        have hBf2 : (∀ i, i < n → tu1 i < 2 ^ 25) ∧ balOK n g (balM n tu1 u).1 (u / 2) := hBf.resolve_left (by omega)
        rw [balsM_go d_5] at hF1 hF2
        refine x_aload_n C D_X9_balancesAbove_0.2.2.2.2.2.2.1 rfl rfl (by first | exact Or.inr ⟨_, rfl⟩ | exact va_rf_or _ | exact Or.inl rfl) ?_
        refine x_iload_n C D_X9_balancesAbove_0.2.2.2.2.2.2.2.1 rfl rfl ?_
        refine x_callVv C (y := yX9_balance) (c_X9_balance l G m n u ar tu1 hM hn1 hnb (fun i hi => ⟨hI1 i hi, hBf2.1 i hi⟩) (by omega) (by omega)) (ci := 8) hM.1 (by decide) rfl rfl k_997 k_999 k_41 k_67 k_1000 hd_X9_balance ⟨(Nat.le_of_ble_eq_true rfl), (Nat.le_of_ble_eq_true rfl)⟩ rfl (by first | exact Nat.le_of_ble_eq_true rfl | simp [x_crf, Value.category]) rfl rfl D_X9_balancesAbove_0.2.2.2.2.2.2.2.2.1 ⟨(Nat.le_of_ble_eq_true rfl), (Nat.le_of_ble_eq_true rfl)⟩ (fun _ S_10 h_10 => ?_)
        obtain ⟨I2, rfl, f1, f2, f3⟩ := h_10
        refine x_iload_n C D_X9_balancesAbove_0.2.2.2.2.2.2.2.2.2.1 rfl rfl ?_
        refine x_iconst C (v := nI 2) D_X9_balancesAbove_0.2.2.2.2.2.2.2.2.2.2.1 (by decide +kernel) ?_
        refine x_idiv C D_X9_balancesAbove_0.2.2.2.2.2.2.2.2.2.2.2 (by decide) ?_
        first
        | refine x_eqi _ (pk_div (by omega) (by decide) (by decide)) ?_
        | skip
        refine x_istore_n C (lv' := [_, _, _]) D_X9_balancesAbove_1.1 rfl (Nat.le_of_ble_eq_true rfl) (by first | rfl | exact x_ok_q rfl) rfl ?_
        refine x_goto C 4 D_X9_balancesAbove_1.2.1 (by decide) ?_
        refine ih_4 g (u / 2) (k1 + (balM n tu1 u).2) (balM n tu1 u).1 I2 (by omega) (by omega) f1 (fun a j h1 h2 => by rw [f3 a j h1 h2]; exact hfr a j h1 h2) (by rw [f2, hmc, Int32.add_assoc, nI_add]) hBf2.2 hF1 ?_
        rw [← hF2]; simp only []; omega
  exact L_4 _ 26 (p0 / 2) 0 tu I (Nat.lt_succ_self _) (by omega) htu (fun _ _ _ _ => rfl) (by rw [nI_0, Int32.add_zero]) hB rfl (Nat.zero_add _)
abbrev rm_X9_grows : Room := { frames := 6, cells := 0, slots := 0, locals := 133 }
theorem hd_X9_balancesAbove : yX9_balancesAbove.cls ≠ "java/lang/invoke/MethodHandle" ∧ yX9_balancesAbove.cls ≠ "java/lang/invoke/VarHandle" ∧ (parseMethodDescriptor yX9_balancesAbove.desc).map (fun d => d.parameters.length) = some 1 := by decide +kernel
theorem hd_X9_leaf : yX9_leaf.cls ≠ "java/lang/invoke/MethodHandle" ∧ yX9_leaf.cls ≠ "java/lang/invoke/VarHandle" ∧ (parseMethodDescriptor yX9_leaf.desc).map (fun d => d.parameters.length) = some 2 := by decide +kernel
set_option maxHeartbeats 4000000 in
set_option maxRecDepth 100000 in
theorem c_X9_grows (l : Launch) (G : xG) {K N : Nat → Nat} {I : Nat → Nat → Int32} {Q : Nat → Nat → Option Nat} {J : Nat → Nat → Int64} (m n k pl : Nat) (ar tu : Nat → Nat) (hM : MZ K N Q m ar) (hn : I m 0 = nI n) (hnb : n ≤ 202) (htu : ∀ i, i < n → I (ar 8) i = nI (tu i) ∧ tu i < 2 ^ 25) (hk : k < n) (hlf : leafW (fun p => lastF (fun i => decide (tu i = p)) n) (fun j => decide (I (ar 5) k < I (ar 5) j)) 28 1 = some pl) (hpl : pl < 2 ^ 25) (hB : balOK n 26 (x_up tu k pl) (pl / 2)) : XM l yX9_grows cX9_grows 3 none rm_X9_grows G Rv [.ref m, .int (nI k)] (K, N, I, Q, J) (fun _ S1 => ∃ I1, S1 = (K, N, I1, Q, J) ∧ (∀ i, i < n → I1 (ar 8) i = nI ((balsM n 26 (x_up tu k pl) (pl / 2)).1 i)) ∧ I1 m 3 = I m 3 + nI (balsM n 26 (x_up tu k pl) (pl / 2)).2 ∧ (∀ a j, ¬ (a = ar 8 ∧ j < n) → ¬ (a = m ∧ j = 3) → I1 a j = I a j)) := by
  refine x_metv (lv := [_, _, _]) (by decide +kernel) (x_cc (by first | rfl | exact x_crf _) (x_cc (by first | rfl | exact x_crf _) x_cn)) (Nat.le_of_ble_eq_true rfl) rfl ?_
  intro pP eE sS mM aA bB hH cC Z C hini ret
  have hk9 := hM.1
  have h202 := hM.nk 8 (by decide)
  have hm8 := hM.nm 8 (by decide)
  refine x_aload_n C D_X9_grows_0.1 rfl rfl (by first | exact Or.inr ⟨_, rfl⟩ | exact va_rf_or _ | exact Or.inl rfl) ?_
  refine x_aload_n C D_X9_grows_0.2.1 rfl rfl (by first | exact Or.inr ⟨_, rfl⟩ | exact va_rf_or _ | exact Or.inl rfl) ?_
  refine x_getQ C (ci := 8) (k0 := 8) (by assumption) (by decide) rfl (by decide) in_X9 k_910 rfl rfl D_X9_grows_0.2.2.1 ?_
  refine x_eqr (hM.2.1 8 (by decide)).1 ?_
  refine x_aload_n C D_X9_grows_0.2.2.2.1 rfl rfl (by first | exact Or.inr ⟨_, rfl⟩ | exact va_rf_or _ | exact Or.inl rfl) ?_
  refine x_getQ C (ci := 8) (k0 := 5) (by assumption) (by decide) rfl (by decide) in_X9 k_907 rfl rfl D_X9_grows_0.2.2.2.2.1 ?_
  refine x_eqr (hM.2.1 5 (by decide)).1 ?_
  refine x_iload_n C D_X9_grows_0.2.2.2.2.2.1 rfl rfl ?_
  refine x_iald C _ (by first | assumption | exact (hM.2.1 _ (by decide)).2.1) rfl (by first | omega | (rw [hM.nk _ (by decide)]; omega) | (rw [hM.np _ (by decide)]; omega)) (by first | omega | (rw [hM.nk _ (by decide)]; omega) | (rw [hM.np _ (by decide)]; omega)) D_X9_grows_0.2.2.2.2.2.2.1 ?_
  first
  | refine x_eqi _ (hn) ?_
  | skip
  refine x_callVi C (y := yX9_leaf) (c_X9_leaf l G m n (ar 8) pl ar tu (I (ar 5) k) hM hn hnb (hM.2.1 8 (by decide)).2.1 h202 (fun i hi => ⟨(htu i hi).1, by have := (htu i hi).2; omega⟩) hlf) (ci := 8) hM.1 (by decide) rfl rfl k_986 k_988 k_39 k_67 k_989 hd_X9_leaf ⟨(Nat.le_of_ble_eq_true rfl), (Nat.le_of_ble_eq_true rfl)⟩ rfl (by first | exact Nat.le_of_ble_eq_true rfl | simp [x_crf, Value.category]) rfl rfl D_X9_grows_0.2.2.2.2.2.2.2.1 ⟨(Nat.le_of_ble_eq_true rfl), (Nat.le_of_ble_eq_true rfl)⟩ (fun r_11 S_11 h_11 => ?_)
  obtain ⟨rfl, rfl⟩ := h_11
  refine x_istore_n C (lv' := [_, _, _]) D_X9_grows_0.2.2.2.2.2.2.2.2.1 rfl (Nat.le_of_ble_eq_true rfl) (by first | rfl | exact x_ok_q rfl) rfl ?_
  refine x_aload_n C D_X9_grows_0.2.2.2.2.2.2.2.2.2.1 rfl rfl (by first | exact Or.inr ⟨_, rfl⟩ | exact va_rf_or _ | exact Or.inl rfl) ?_
  refine x_getQ C (ci := 8) (k0 := 8) (by assumption) (by decide) rfl (by decide) in_X9 k_910 rfl rfl D_X9_grows_0.2.2.2.2.2.2.2.2.2.2.1 ?_
  refine x_eqr (hM.2.1 8 (by decide)).1 ?_
  refine x_iload_n C D_X9_grows_0.2.2.2.2.2.2.2.2.2.2.2 rfl rfl ?_
  refine x_iload_n C D_X9_grows_1.1 rfl rfl ?_
  refine x_iast C _ (by first | assumption | exact (hM.2.1 _ (by decide)).2.1) rfl (by first | omega | (rw [hM.nk _ (by decide)]; omega) | (rw [hM.np _ (by decide)]; omega)) (by first | omega | (rw [hM.nk _ (by decide)]; omega) | (rw [hM.np _ (by decide)]; omega)) D_X9_grows_1.2.1 (fun I2 eI2 => ?_)
  refine x_aload_n C D_X9_grows_1.2.2.1 rfl rfl (by first | exact Or.inr ⟨_, rfl⟩ | exact va_rf_or _ | exact Or.inl rfl) ?_
  refine x_iload_n C D_X9_grows_1.2.2.2.1 rfl rfl ?_
  refine x_callVv C (y := yX9_balancesAbove) (c_X9_balancesAbove l G m n pl ar (x_up tu k pl) hM (by rw [eI2, x_u2_a _ _ hm8.symm]; exact hn) hnb (fun i hi => by
    rw [eI2]
    by_cases e : i = k
    · subst e; rw [x_u2_s, x_up_s]
    · rw [x_u2_j _ _ e, x_up_n _ _ e]; exact (htu i hi).1) hpl hB) (ci := 8) hM.1 (by decide) rfl rfl k_993 k_995 k_40 k_67 k_996 hd_X9_balancesAbove ⟨(Nat.le_of_ble_eq_true rfl), (Nat.le_of_ble_eq_true rfl)⟩ rfl (by first | exact Nat.le_of_ble_eq_true rfl | simp [x_crf, Value.category]) rfl rfl D_X9_grows_1.2.2.2.2.1 ⟨(Nat.le_of_ble_eq_true rfl), (Nat.le_of_ble_eq_true rfl)⟩ (fun _ S_24 h_24 => ?_)
  obtain ⟨I3, rfl, f1, f2, f3⟩ := h_24
  refine ret _ _ _ _ _ rfl D_X9_grows_1.2.2.2.2.2 (Nat.le_of_ble_eq_true rfl) (Nat.le_of_ble_eq_true rfl) ?_
  refine ⟨I3, rfl, f1, ?_, fun a j h1 h2 => ?_⟩
  · rw [f2, eI2, x_u2_a _ _ hm8.symm]
  · rw [f3 a j h1 h2, eI2]
    by_cases e : a = ar 8
    · subst e; exact x_u2_j _ _ (fun z => h1 ⟨rfl, by omega⟩)
    · rw [x_u2_a _ _ e]
