theorem D_X9_leaves_0 : decode cX9_leaves 0 = .ok (.aload_n 0, 1) ∧ decode cX9_leaves 1 = .ok (.getfield 20, 3) ∧ decode cX9_leaves 4 = .ok (.iload_n 1, 1) ∧ decode cX9_leaves 5 = .ok (.iaload, 1) ∧ decode cX9_leaves 6 = .ok (.istore_n 2, 1) ∧ decode cX9_leaves 7 = .ok (.aload_n 0, 1) ∧ decode cX9_leaves 8 = .ok (.getfield 20, 3) ∧ decode cX9_leaves 11 = .ok (.aload_n 0, 1) ∧ decode cX9_leaves 12 = .ok (.getfield 60, 3) ∧ decode cX9_leaves 15 = .ok (.iconst 2, 1) ∧ decode cX9_leaves 16 = .ok (.iload_n 2, 1) ∧ decode cX9_leaves 17 = .ok (.imul, 1) := by decide +kernel
theorem D_X9_leaves_1 : decode cX9_leaves 18 = .ok (.invokestatic 67, 3) ∧ decode cX9_leaves 21 = .ok (.istore_n 3, 1) ∧ decode cX9_leaves 22 = .ok (.aload_n 0, 1) ∧ decode cX9_leaves 23 = .ok (.getfield 20, 3) ∧ decode cX9_leaves 26 = .ok (.aload_n 0, 1) ∧ decode cX9_leaves 27 = .ok (.getfield 60, 3) ∧ decode cX9_leaves 30 = .ok (.iconst 2, 1) ∧ decode cX9_leaves 31 = .ok (.iload_n 2, 1) ∧ decode cX9_leaves 32 = .ok (.imul, 1) ∧ decode cX9_leaves 33 = .ok (.iconst 1, 1) ∧ decode cX9_leaves 34 = .ok (.iadd, 1) ∧ decode cX9_leaves 35 = .ok (.invokestatic 67, 3) := by decide +kernel
theorem D_X9_leaves_2 : decode cX9_leaves 38 = .ok (.istore 4, 2) ∧ decode cX9_leaves 40 = .ok (.aload_n 0, 1) ∧ decode cX9_leaves 41 = .ok (.getfield 20, 3) ∧ decode cX9_leaves 44 = .ok (.iload_n 1, 1) ∧ decode cX9_leaves 45 = .ok (.iconst 0, 1) ∧ decode cX9_leaves 46 = .ok (.iastore, 1) ∧ decode cX9_leaves 47 = .ok (.iload_n 3, 1) ∧ decode cX9_leaves 48 = .ok (.ifCond .le 126, 3) ∧ decode cX9_leaves 51 = .ok (.iload 4, 2) ∧ decode cX9_leaves 53 = .ok (.ifCond .le 121, 3) ∧ decode cX9_leaves 56 = .ok (.iload_n 3, 1) ∧ decode cX9_leaves 57 = .ok (.iload 4, 2) := by decide +kernel
theorem D_X9_leaves_3 : decode cX9_leaves 59 = .ok (.if_icmp .le 9, 3) ∧ decode cX9_leaves 62 = .ok (.iconst 2, 1) ∧ decode cX9_leaves 63 = .ok (.iload_n 2, 1) ∧ decode cX9_leaves 64 = .ok (.imul, 1) ∧ decode cX9_leaves 65 = .ok (.goto 8, 3) ∧ decode cX9_leaves 68 = .ok (.iconst 2, 1) ∧ decode cX9_leaves 69 = .ok (.iload_n 2, 1) ∧ decode cX9_leaves 70 = .ok (.imul, 1) ∧ decode cX9_leaves 71 = .ok (.iconst 1, 1) ∧ decode cX9_leaves 72 = .ok (.iadd, 1) ∧ decode cX9_leaves 73 = .ok (.istore 5, 2) ∧ decode cX9_leaves 75 = .ok (.iconst (-1), 1) := by decide +kernel
theorem D_X9_leaves_4 : decode cX9_leaves 76 = .ok (.istore 6, 2) ∧ decode cX9_leaves 78 = .ok (.iconst 0, 1) ∧ decode cX9_leaves 79 = .ok (.istore 7, 2) ∧ decode cX9_leaves 81 = .ok (.iload 7, 2) ∧ decode cX9_leaves 83 = .ok (.aload_n 0, 1) ∧ decode cX9_leaves 84 = .ok (.getfield 60, 3) ∧ decode cX9_leaves 87 = .ok (.if_icmp .ge 67, 3) ∧ decode cX9_leaves 90 = .ok (.aload_n 0, 1) ∧ decode cX9_leaves 91 = .ok (.getfield 20, 3) ∧ decode cX9_leaves 94 = .ok (.iload 7, 2) ∧ decode cX9_leaves 96 = .ok (.iaload, 1) ∧ decode cX9_leaves 97 = .ok (.ifCond .le 22, 3) := by decide +kernel
theorem D_X9_leaves_5 : decode cX9_leaves 100 = .ok (.aload_n 0, 1) ∧ decode cX9_leaves 101 = .ok (.getfield 20, 3) ∧ decode cX9_leaves 104 = .ok (.iload 7, 2) ∧ decode cX9_leaves 106 = .ok (.iaload, 1) ∧ decode cX9_leaves 107 = .ok (.iload 5, 2) ∧ decode cX9_leaves 109 = .ok (.invokestatic 52, 3) ∧ decode cX9_leaves 112 = .ok (.ifCond .eq 7, 3) ∧ decode cX9_leaves 115 = .ok (.iconst 1, 1) ∧ decode cX9_leaves 116 = .ok (.goto 4, 3) ∧ decode cX9_leaves 119 = .ok (.iconst 0, 1) ∧ decode cX9_leaves 120 = .ok (.istore 8, 2) ∧ decode cX9_leaves 122 = .ok (.iload 8, 2) := by decide +kernel
theorem D_X9_leaves_6 : decode cX9_leaves 124 = .ok (.ifCond .eq 20, 3) ∧ decode cX9_leaves 127 = .ok (.iload 6, 2) ∧ decode cX9_leaves 129 = .ok (.iconst (-1), 1) ∧ decode cX9_leaves 130 = .ok (.if_icmp .eq 9, 3) ∧ decode cX9_leaves 133 = .ok (.iload_n 3, 1) ∧ decode cX9_leaves 134 = .ok (.iload 4, 2) ∧ decode cX9_leaves 136 = .ok (.if_icmp .le 8, 3) ∧ decode cX9_leaves 139 = .ok (.iload 7, 2) ∧ decode cX9_leaves 141 = .ok (.goto 5, 3) ∧ decode cX9_leaves 144 = .ok (.iload 6, 2) ∧ decode cX9_leaves 146 = .ok (.istore 6, 2) ∧ decode cX9_leaves 148 = .ok (.iinc 7 1, 3) := by decide +kernel
theorem D_X9_leaves_7 : decode cX9_leaves 151 = .ok (.goto (-70), 3) ∧ decode cX9_leaves 154 = .ok (.aload_n 0, 1) ∧ decode cX9_leaves 155 = .ok (.getfield 20, 3) ∧ decode cX9_leaves 158 = .ok (.iload 6, 2) ∧ decode cX9_leaves 160 = .ok (.iaload, 1) ∧ decode cX9_leaves 161 = .ok (.istore 7, 2) ∧ decode cX9_leaves 163 = .ok (.aload_n 0, 1) ∧ decode cX9_leaves 164 = .ok (.getfield 20, 3) ∧ decode cX9_leaves 167 = .ok (.iload 6, 2) ∧ decode cX9_leaves 169 = .ok (.iload_n 2, 1) ∧ decode cX9_leaves 170 = .ok (.iastore, 1) ∧ decode cX9_leaves 171 = .ok (.iload 7, 2) := by decide +kernel
theorem D_X9_leaves_8 : decode cX9_leaves 173 = .ok (.istore_n 2, 1) ∧ decode cX9_leaves 174 = .ok (.aload_n 0, 1) ∧ decode cX9_leaves 175 = .ok (.getfield 20, 3) ∧ decode cX9_leaves 178 = .ok (.aload_n 0, 1) ∧ decode cX9_leaves 179 = .ok (.getfield 60, 3) ∧ decode cX9_leaves 182 = .ok (.iconst 2, 1) ∧ decode cX9_leaves 183 = .ok (.iload_n 2, 1) ∧ decode cX9_leaves 184 = .ok (.imul, 1) ∧ decode cX9_leaves 185 = .ok (.invokestatic 67, 3) ∧ decode cX9_leaves 188 = .ok (.ifCond .le 9, 3) ∧ decode cX9_leaves 191 = .ok (.iconst 2, 1) ∧ decode cX9_leaves 192 = .ok (.iload_n 2, 1) := by decide +kernel
theorem D_X9_leaves_9 : decode cX9_leaves 193 = .ok (.imul, 1) ∧ decode cX9_leaves 194 = .ok (.goto 8, 3) ∧ decode cX9_leaves 197 = .ok (.iconst 2, 1) ∧ decode cX9_leaves 198 = .ok (.iload_n 2, 1) ∧ decode cX9_leaves 199 = .ok (.imul, 1) ∧ decode cX9_leaves 200 = .ok (.iconst 1, 1) ∧ decode cX9_leaves 201 = .ok (.iadd, 1) ∧ decode cX9_leaves 202 = .ok (.istore 5, 2) ∧ decode cX9_leaves 204 = .ok (.iconst 0, 1) ∧ decode cX9_leaves 205 = .ok (.istore 6, 2) ∧ decode cX9_leaves 207 = .ok (.iload 6, 2) ∧ decode cX9_leaves 209 = .ok (.aload_n 0, 1) := by decide +kernel
theorem D_X9_leaves_10 : decode cX9_leaves 210 = .ok (.getfield 60, 3) ∧ decode cX9_leaves 213 = .ok (.if_icmp .ge 64, 3) ∧ decode cX9_leaves 216 = .ok (.aload_n 0, 1) ∧ decode cX9_leaves 217 = .ok (.getfield 20, 3) ∧ decode cX9_leaves 220 = .ok (.iload 6, 2) ∧ decode cX9_leaves 222 = .ok (.aload_n 0, 1) ∧ decode cX9_leaves 223 = .ok (.getfield 20, 3) ∧ decode cX9_leaves 226 = .ok (.iload 6, 2) ∧ decode cX9_leaves 228 = .ok (.iaload, 1) ∧ decode cX9_leaves 229 = .ok (.ifCond .le 34, 3) ∧ decode cX9_leaves 232 = .ok (.aload_n 0, 1) ∧ decode cX9_leaves 233 = .ok (.getfield 20, 3) := by decide +kernel
theorem D_X9_leaves_11 : decode cX9_leaves 236 = .ok (.iload 6, 2) ∧ decode cX9_leaves 238 = .ok (.iaload, 1) ∧ decode cX9_leaves 239 = .ok (.iload 5, 2) ∧ decode cX9_leaves 241 = .ok (.invokestatic 52, 3) ∧ decode cX9_leaves 244 = .ok (.ifCond .eq 19, 3) ∧ decode cX9_leaves 247 = .ok (.aload_n 0, 1) ∧ decode cX9_leaves 248 = .ok (.getfield 20, 3) ∧ decode cX9_leaves 251 = .ok (.iload 6, 2) ∧ decode cX9_leaves 253 = .ok (.iaload, 1) ∧ decode cX9_leaves 254 = .ok (.iload 5, 2) ∧ decode cX9_leaves 256 = .ok (.iload_n 2, 1) ∧ decode cX9_leaves 257 = .ok (.invokestatic 86, 3) := by decide +kernel
theorem D_X9_leaves_12 : decode cX9_leaves 260 = .ok (.goto 10, 3) ∧ decode cX9_leaves 263 = .ok (.aload_n 0, 1) ∧ decode cX9_leaves 264 = .ok (.getfield 20, 3) ∧ decode cX9_leaves 267 = .ok (.iload 6, 2) ∧ decode cX9_leaves 269 = .ok (.iaload, 1) ∧ decode cX9_leaves 270 = .ok (.iastore, 1) ∧ decode cX9_leaves 271 = .ok (.iinc 6 1, 3) ∧ decode cX9_leaves 274 = .ok (.goto (-67), 3) ∧ decode cX9_leaves 277 = .ok (.aload_n 0, 1) ∧ decode cX9_leaves 278 = .ok (.iload_n 2, 1) ∧ decode cX9_leaves 279 = .ok (.invokevirtual 107, 3) ∧ decode cX9_leaves 282 = .ok (.return_, 1) := by decide +kernel
abbrev rm_X9_leaves : Room := { frames := 6, cells := 0, slots := 0, locals := 133 }
set_option maxHeartbeats 4000000 in
set_option maxRecDepth 100000 in
theorem c_X9_leaves (l : Launch) (G : xG) {K N : Nat → Nat} {I : Nat → Nat → Int32} {Q : Nat → Nat → Option Nat} {J : Nat → Nat → Int64} (m n k : Nat) (ar tu : Nat → Nat) (hM : MZ K N Q m ar) (hn : I m 0 = nI n) (hnb : n ≤ 202) (htu : ∀ i, i < n → I (ar 8) i = nI (tu i) ∧ tu i < 2 ^ 24) (hk : k < n) (hk0 : 0 < tu k) (hB : balOK n 26 (mvuM n (levM n tu k).1 (levM n tu k).2) ((levM n tu k).2 / 2)) : XM l yX9_leaves cX9_leaves 9 none rm_X9_leaves G Rv [.ref m, .int (nI k)] (K, N, I, Q, J) (fun _ S1 => ∃ I1, S1 = (K, N, I1, Q, J) ∧ (∀ i, i < n → I1 (ar 8) i = nI ((balsM n 26 (mvuM n (levM n tu k).1 (levM n tu k).2) ((levM n tu k).2 / 2)).1 i)) ∧ I1 m 3 = I m 3 + nI (balsM n 26 (mvuM n (levM n tu k).1 (levM n tu k).2) ((levM n tu k).2 / 2)).2 ∧ (∀ a j, ¬ (a = ar 8 ∧ j < n) → ¬ (a = m ∧ j = 3) → I1 a j = I a j)) := by
  refine x_metv (lv := [_, _, _, _, _, _, _, _, _]) (by decide +kernel) (x_cc (by first | rfl | exact x_crf _) (x_cc (by first | rfl | exact x_crf _) x_cn)) (Nat.le_of_ble_eq_true rfl) rfl ?_
  intro pP eE sS mM aA bB hH cC Z C hini ret
  have hk9 := hM.1
  have h202 := hM.nk 8 (by decide)
  have hm8 := hM.nm 8 (by decide)
  obtain ⟨hsk, hskb⟩ := htu k hk
  have hcl1 := cnW_le n tu (2 * tu k)
  have hcl2 := cnW_le n tu (2 * tu k + 1)
  obtain ⟨lb, elb⟩ : ∃ lb, lb = decide (cnW n tu (2 * tu k + 1) < cnW n tu (2 * tu k)) := ⟨_, rfl⟩
  obtain ⟨fr, efr⟩ : ∃ fr, fr = (if cnW n tu (2 * tu k + 1) < cnW n tu (2 * tu k) then 2 * tu k else 2 * tu k + 1) := ⟨_, rfl⟩
  have hfrb : 2 * tu k ≤ fr ∧ fr ≤ 2 * tu k + 1 := by rw [efr]; split <;> omega
  obtain ⟨q0, eq0⟩ : ∃ q0, q0 = lvQ (x_up tu k 0) fr := ⟨_, rfl⟩
  have htu1 : ∀ i, i < n → x_up tu k 0 i < 2 ^ 24 := fun i hi => by
    by_cases e : i = k
    · rw [e, x_up_s]; omega
    · rw [x_up_n _ _ e]; exact (htu i hi).2
  refine x_aload_n C D_X9_leaves_0.1 rfl rfl (by first | exact Or.inr ⟨_, rfl⟩ | exact va_rf_or _ | exact Or.inl rfl) ?_
  refine x_getQ C (ci := 8) (k0 := 8) (by assumption) (by decide) rfl (by decide) in_X9 k_910 rfl rfl D_X9_leaves_0.2.1 ?_
  refine x_eqr (hM.2.1 8 (by decide)).1 ?_
  refine x_iload_n C D_X9_leaves_0.2.2.1 rfl rfl ?_
  refine x_iald C _ (by first | assumption | exact (hM.2.1 _ (by decide)).2.1) rfl (by first | omega | (rw [hM.nk _ (by decide)]; omega) | (rw [hM.np _ (by decide)]; omega)) (by first | omega | (rw [hM.nk _ (by decide)]; omega) | (rw [hM.np _ (by decide)]; omega)) D_X9_leaves_0.2.2.2.1 ?_
  first
  | refine x_eqi _ (hn) ?_
  | refine x_eqi _ (hn1) ?_
  | refine x_eqi _ (hn2_) ?_
  | refine x_eqi _ (hs1) ?_
  | refine x_eqi _ (hs2) ?_
  | refine x_eqi _ (hs3) ?_
  | refine x_eqi _ (hsk) ?_
  | skip
  refine x_istore_n C (lv' := [_, _, _, _, _, _, _, _, _]) D_X9_leaves_0.2.2.2.2.1 rfl (Nat.le_of_ble_eq_true rfl) (by first | rfl | exact x_ok_q rfl) rfl ?_
  refine x_aload_n C D_X9_leaves_0.2.2.2.2.2.1 rfl rfl (by first | exact Or.inr ⟨_, rfl⟩ | exact va_rf_or _ | exact Or.inl rfl) ?_
  refine x_getQ C (ci := 8) (k0 := 8) (by assumption) (by decide) rfl (by decide) in_X9 k_910 rfl rfl D_X9_leaves_0.2.2.2.2.2.2.1 ?_
  refine x_eqr (hM.2.1 8 (by decide)).1 ?_
  refine x_aload_n C D_X9_leaves_0.2.2.2.2.2.2.2.1 rfl rfl (by first | exact Or.inr ⟨_, rfl⟩ | exact va_rf_or _ | exact Or.inl rfl) ?_
  refine x_getI C (ci := 8) (k0 := 0) (by assumption) (by decide) rfl (by decide) in_X9 k_902 rfl rfl D_X9_leaves_0.2.2.2.2.2.2.2.2.1 ?_
  first
  | refine x_eqi _ (hn) ?_
  | refine x_eqi _ (hn1) ?_
  | refine x_eqi _ (hn2_) ?_
  | refine x_eqi _ (hs1) ?_
  | refine x_eqi _ (hs2) ?_
  | refine x_eqi _ (hs3) ?_
  | refine x_eqi _ (hsk) ?_
  | skip
  refine x_iconst C (v := nI 2) D_X9_leaves_0.2.2.2.2.2.2.2.2.2.1 (by decide +kernel) ?_
  refine x_iload_n C D_X9_leaves_0.2.2.2.2.2.2.2.2.2.2.1 rfl rfl ?_
  refine x_imul C D_X9_leaves_0.2.2.2.2.2.2.2.2.2.2.2 ?_
  first
  | refine x_eqi _ (pk_mul _ _) ?_
  | skip
  refine x_callSi C (y := yX9_weightAt) (c_X9_weightAt l G (ar 8) n (2 * tu k) (tu) (hM.2.1 8 (by decide)).2.1 (by omega) (by omega) (by omega) (by omega) (fun i hi => ⟨(htu i hi).1, by have := (htu i hi).2; omega⟩)) k_1005 k_1006 k_67 k_1007 hd_X9_weightAt ⟨(Nat.le_of_ble_eq_true rfl), (Nat.le_of_ble_eq_true rfl)⟩ rfl (by first | exact Nat.le_of_ble_eq_true rfl | simp [x_crf, Value.category]) rfl rfl D_X9_leaves_1.1 ⟨(Nat.le_of_ble_eq_true rfl), (Nat.le_of_ble_eq_true rfl)⟩ (fun r_18 S_18 h_18 => ?_)
  obtain ⟨rfl, rfl⟩ := h_18
  refine x_eqi (nI (cnW n (tu) (2 * tu k))) rfl ?_
  have hw_18 := cnW_le n (tu) (2 * tu k)
  refine x_istore_n C (lv' := [_, _, _, _, _, _, _, _, _]) D_X9_leaves_1.2.1 rfl (Nat.le_of_ble_eq_true rfl) (by first | rfl | exact x_ok_q rfl) rfl ?_
  refine x_aload_n C D_X9_leaves_1.2.2.1 rfl rfl (by first | exact Or.inr ⟨_, rfl⟩ | exact va_rf_or _ | exact Or.inl rfl) ?_
  refine x_getQ C (ci := 8) (k0 := 8) (by assumption) (by decide) rfl (by decide) in_X9 k_910 rfl rfl D_X9_leaves_1.2.2.2.1 ?_
  refine x_eqr (hM.2.1 8 (by decide)).1 ?_
  refine x_aload_n C D_X9_leaves_1.2.2.2.2.1 rfl rfl (by first | exact Or.inr ⟨_, rfl⟩ | exact va_rf_or _ | exact Or.inl rfl) ?_
  refine x_getI C (ci := 8) (k0 := 0) (by assumption) (by decide) rfl (by decide) in_X9 k_902 rfl rfl D_X9_leaves_1.2.2.2.2.2.1 ?_
  first
  | refine x_eqi _ (hn) ?_
  | refine x_eqi _ (hn1) ?_
  | refine x_eqi _ (hn2_) ?_
  | refine x_eqi _ (hs1) ?_
  | refine x_eqi _ (hs2) ?_
  | refine x_eqi _ (hs3) ?_
  | refine x_eqi _ (hsk) ?_
  | skip
  refine x_iconst C (v := nI 2) D_X9_leaves_1.2.2.2.2.2.2.1 (by decide +kernel) ?_
  refine x_iload_n C D_X9_leaves_1.2.2.2.2.2.2.2.1 rfl rfl ?_
  refine x_imul C D_X9_leaves_1.2.2.2.2.2.2.2.2.1 ?_
  first
  | refine x_eqi _ (pk_mul _ _) ?_
  | skip
  refine x_iconst C (v := nI 1) D_X9_leaves_1.2.2.2.2.2.2.2.2.2.1 (by decide +kernel) ?_
  refine x_iadd C D_X9_leaves_1.2.2.2.2.2.2.2.2.2.2.1 ?_
  first
  | refine x_eqi _ (nI_add _ _) ?_
  | skip
  refine x_callSi C (y := yX9_weightAt) (c_X9_weightAt l G (ar 8) n (2 * tu k + 1) (tu) (hM.2.1 8 (by decide)).2.1 (by omega) (by omega) (by omega) (by omega) (fun i hi => ⟨(htu i hi).1, by have := (htu i hi).2; omega⟩)) k_1005 k_1006 k_67 k_1007 hd_X9_weightAt ⟨(Nat.le_of_ble_eq_true rfl), (Nat.le_of_ble_eq_true rfl)⟩ rfl (by first | exact Nat.le_of_ble_eq_true rfl | simp [x_crf, Value.category]) rfl rfl D_X9_leaves_1.2.2.2.2.2.2.2.2.2.2.2 ⟨(Nat.le_of_ble_eq_true rfl), (Nat.le_of_ble_eq_true rfl)⟩ (fun r_35 S_35 h_35 => ?_)
  obtain ⟨rfl, rfl⟩ := h_35
  refine x_eqi (nI (cnW n (tu) (2 * tu k + 1))) rfl ?_
  have hw_35 := cnW_le n (tu) (2 * tu k + 1)
  refine x_istore C (lv' := [_, _, _, _, _, _, _, _, _]) D_X9_leaves_2.1 (Nat.le_of_ble_eq_true rfl) (by first | rfl | exact x_ok_q rfl) rfl ?_
  refine x_aload_n C D_X9_leaves_2.2.1 rfl rfl (by first | exact Or.inr ⟨_, rfl⟩ | exact va_rf_or _ | exact Or.inl rfl) ?_
  refine x_getQ C (ci := 8) (k0 := 8) (by assumption) (by decide) rfl (by decide) in_X9 k_910 rfl rfl D_X9_leaves_2.2.2.1 ?_
  refine x_eqr (hM.2.1 8 (by decide)).1 ?_
  refine x_iload_n C D_X9_leaves_2.2.2.2.1 rfl rfl ?_
  refine x_iconst C (v := nI 0) D_X9_leaves_2.2.2.2.2.1 (by decide +kernel) ?_
  refine x_iast C _ (by first | assumption | exact (hM.2.1 _ (by decide)).2.1) rfl (by first | omega | (rw [hM.nk _ (by decide)]; omega) | (rw [hM.np _ (by decide)]; omega)) (by first | omega | (rw [hM.nk _ (by decide)]; omega) | (rw [hM.np _ (by decide)]; omega)) D_X9_leaves_2.2.2.2.2.2.1 (fun I1 eI1 => ?_)
  have hI1 : ∀ i, i < n → I1 (ar 8) i = nI (x_up tu k 0 i) := fun i hi => by
    rw [eI1]
    by_cases e : i = k
    · subst e; rw [x_u2_s, x_up_s]
    · rw [x_u2_j _ _ e, x_up_n _ _ e]; exact (htu i hi).1
  have hfr1 : ∀ a j, ¬ (a = ar 8 ∧ j < n) → I1 a j = I a j := fun a j hj => by
    rw [eI1]
    by_cases e : a = ar 8
    · subst e; exact x_u2_j _ _ (fun z => hj ⟨rfl, by omega⟩)
    · rw [x_u2_a _ _ e]
  have hn1 : I1 m 0 = nI n := by rw [hfr1 m 0 (fun e => hm8 e.1.symm)]; exact hn
  have L_174 : ∀ (tu2 : Nat → Nat) (pl2 : Nat) (I2 : Nat → Nat → Int32) (v5 v6 v7 v8 : Option Value), (∀ i, i < n → I2 (ar 8) i = nI (tu2 i)) → (∀ i, i < n → tu2 i < 2 ^ 24) → (0 < pl2) → (pl2 < 2 ^ 24) → (∀ a j, ¬ (a = ar 8 ∧ j < n) → I2 a j = I a j) → (tu2 = (levM n tu k).1) → (pl2 = (levM n tu k).2) → XW pP l eE rm_X9_leaves sS mM aA bB hH cC G Z 0 0 (K, N, I2, Q, J) 174 [some (.ref m), some (.int (nI k)), some (.int (nI pl2)), some (.int (nI (cnW n tu (2 * tu k)))), some (.int (nI (cnW n tu (2 * tu k + 1)))), v5, v6, v7, v8] [] := by
    intro tu2 pl2 I2 v5 v6 v7 v8 hI2 htb2 hpl0 hpl2 hfr2 eL1 eL2
    have hn2b : I2 m 0 = nI n := by rw [hfr2 m 0 (fun e => hm8 e.1.symm)]; exact hn
    have hn1 := hn2b
    have hob : 2 * pl2 ≤ othM n tu2 pl2 ∧ othM n tu2 pl2 ≤ 2 * pl2 + 1 := by unfold othM; split <;> omega
    have hB2 : balOK n 26 (mvuM n tu2 pl2) (pl2 / 2) := by rw [eL1, eL2]; exact hB
    refine x_aload_n C D_X9_leaves_8.2.1 rfl rfl (by first | exact Or.inr ⟨_, rfl⟩ | exact va_rf_or _ | exact Or.inl rfl) ?_
    refine x_getQ C (ci := 8) (k0 := 8) (by assumption) (by decide) rfl (by decide) in_X9 k_910 rfl rfl D_X9_leaves_8.2.2.1 ?_
    refine x_eqr (hM.2.1 8 (by decide)).1 ?_
    refine x_aload_n C D_X9_leaves_8.2.2.2.1 rfl rfl (by first | exact Or.inr ⟨_, rfl⟩ | exact va_rf_or _ | exact Or.inl rfl) ?_
    refine x_getI C (ci := 8) (k0 := 0) (by assumption) (by decide) rfl (by decide) in_X9 k_902 rfl rfl D_X9_leaves_8.2.2.2.2.1 ?_
    first
    | refine x_eqi _ (hn) ?_
    | refine x_eqi _ (hn1) ?_
    | refine x_eqi _ (hn2_) ?_
    | refine x_eqi _ (hs1) ?_
    | refine x_eqi _ (hs2) ?_
    | refine x_eqi _ (hs3) ?_
    | refine x_eqi _ (hsk) ?_
    | skip
    refine x_iconst C (v := nI 2) D_X9_leaves_8.2.2.2.2.2.1 (by decide +kernel) ?_
    refine x_iload_n C D_X9_leaves_8.2.2.2.2.2.2.1 rfl rfl ?_
    refine x_imul C D_X9_leaves_8.2.2.2.2.2.2.2.1 ?_
    first
    | refine x_eqi _ (pk_mul _ _) ?_
    | skip
    refine x_callSi C (y := yX9_weightAt) (c_X9_weightAt l G (ar 8) n (2 * pl2) (tu2) (hM.2.1 8 (by decide)).2.1 (by omega) (by omega) (by omega) (by omega) (fun i hi => ⟨hI2 i hi, by have := htb2 i hi; omega⟩)) k_1005 k_1006 k_67 k_1007 hd_X9_weightAt ⟨(Nat.le_of_ble_eq_true rfl), (Nat.le_of_ble_eq_true rfl)⟩ rfl (by first | exact Nat.le_of_ble_eq_true rfl | simp [x_crf, Value.category]) rfl rfl D_X9_leaves_8.2.2.2.2.2.2.2.2.1 ⟨(Nat.le_of_ble_eq_true rfl), (Nat.le_of_ble_eq_true rfl)⟩ (fun r_185 S_185 h_185 => ?_)
    obtain ⟨rfl, rfl⟩ := h_185
    refine x_eqi (nI (cnW n (tu2) (2 * pl2))) rfl ?_
    have hw_185 := cnW_le n (tu2) (2 * pl2)
    have L_207 : ∀ (w_207 : Nat) (j0 : Nat) (I3 : Nat → Nat → Int32), n - j0 < w_207 → (j0 ≤ n) → (∀ i, i < j0 → I3 (ar 8) i = nI (mvuM n tu2 pl2 i)) → (∀ a j, ¬ (a = ar 8 ∧ j < j0) → I3 a j = I2 a j) → XW pP l eE rm_X9_leaves sS mM aA bB hH cC G Z 0 0 (K, N, I3, Q, J) 207 [some (.ref m), some (.int (nI k)), some (.int (nI pl2)), some (.int (nI (cnW n tu (2 * tu k)))), some (.int (nI (cnW n tu (2 * tu k + 1)))), some (.int (nI (othM n tu2 pl2))), some (.int (nI j0)), v7, v8] [] := by
      intro w_207
      induction w_207 with
      | zero =>
        intro j0 I3 hw_207
        exact absurd hw_207 (Nat.not_lt_zero _)
      | succ w_207 ih_207 =>
        intro j0 I3 hw_207 hj0 hI3 hfr3
        have hn2_ : I3 m 0 = nI n := by rw [hfr3 m 0 (fun e => hm8 e.1.symm)]; exact hn2b
        refine x_iload C D_X9_leaves_9.2.2.2.2.2.2.2.2.2.2.1 rfl ?_
        refine x_aload_n C D_X9_leaves_9.2.2.2.2.2.2.2.2.2.2.2 rfl rfl (by first | exact Or.inr ⟨_, rfl⟩ | exact va_rf_or _ | exact Or.inl rfl) ?_
        refine x_getI C (ci := 8) (k0 := 0) (by assumption) (by decide) rfl (by decide) in_X9 k_902 rfl rfl D_X9_leaves_10.1 ?_
        first
        | refine x_eqi _ (hn) ?_
        | refine x_eqi _ (hn1) ?_
        | refine x_eqi _ (hn2_) ?_
        | refine x_eqi _ (hs1) ?_
        | refine x_eqi _ (hs2) ?_
        | refine x_eqi _ (hs3) ?_
        | refine x_eqi _ (hsk) ?_
        | skip
        refine x_icmp_ge C 277 D_X9_leaves_10.2.1 (by decide) (fun c_213 => ?_) (fun c_213 => ?_)
        · skip
          first
          | have d_213 := cv_le c_213 (by omega) (by omega)
          | skip
          obtain rfl : j0 = n := by omega
          refine x_aload_n C D_X9_leaves_12.2.2.2.2.2.2.2.2.1 rfl rfl (by first | exact Or.inr ⟨_, rfl⟩ | exact va_rf_or _ | exact Or.inl rfl) ?_
          refine x_iload_n C D_X9_leaves_12.2.2.2.2.2.2.2.2.2.1 rfl rfl ?_
          refine x_callVv C (y := yX9_balancesAbove) (c_X9_balancesAbove l G m j0 pl2 ar (mvuM j0 tu2 pl2) hM hn2_ hnb hI3 (by omega) hB2) (ci := 8) hM.1 (by decide) rfl rfl k_993 k_995 k_40 k_67 k_996 hd_X9_balancesAbove ⟨(Nat.le_of_ble_eq_true rfl), (Nat.le_of_ble_eq_true rfl)⟩ rfl (by first | exact Nat.le_of_ble_eq_true rfl | simp [x_crf, Value.category]) rfl rfl D_X9_leaves_12.2.2.2.2.2.2.2.2.2.2.1 ⟨(Nat.le_of_ble_eq_true rfl), (Nat.le_of_ble_eq_true rfl)⟩ (fun _ S_279 h_279 => ?_)
          obtain ⟨I5, rfl, f1, f2, f3⟩ := h_279
          refine ret _ _ _ _ _ rfl D_X9_leaves_12.2.2.2.2.2.2.2.2.2.2.2 (Nat.le_of_ble_eq_true rfl) (Nat.le_of_ble_eq_true rfl) ?_
          refine ⟨I5, rfl, fun i hi => ?_, ?_, fun a j h1 h2 => ?_⟩
          · rw [f1 i hi, ← eL1, ← eL2]
          · rw [f2, hfr3 m 3 (fun e => hm8 e.1.symm), hfr2 m 3 (fun e => hm8 e.1.symm), ← eL1, ← eL2]
          · rw [f3 a j h1 h2, hfr3 a j h1, hfr2 a j h1]
        · skip
          first
          | have d_213 := cv_nle c_213 (by omega) (by omega)
          | skip
          have hs2 : I3 (ar 8) j0 = nI (tu2 j0) := by rw [hfr3 (ar 8) j0 (fun e => by omega)]; exact hI2 j0 (by omega)
          have hb2 := htb2 j0 (by omega)
          refine x_aload_n C D_X9_leaves_10.2.2.1 rfl rfl (by first | exact Or.inr ⟨_, rfl⟩ | exact va_rf_or _ | exact Or.inl rfl) ?_
          refine x_getQ C (ci := 8) (k0 := 8) (by assumption) (by decide) rfl (by decide) in_X9 k_910 rfl rfl D_X9_leaves_10.2.2.2.1 ?_
          refine x_eqr (hM.2.1 8 (by decide)).1 ?_
          refine x_iload C D_X9_leaves_10.2.2.2.2.1 rfl ?_
          refine x_aload_n C D_X9_leaves_10.2.2.2.2.2.1 rfl rfl (by first | exact Or.inr ⟨_, rfl⟩ | exact va_rf_or _ | exact Or.inl rfl) ?_
          refine x_getQ C (ci := 8) (k0 := 8) (by assumption) (by decide) rfl (by decide) in_X9 k_910 rfl rfl D_X9_leaves_10.2.2.2.2.2.2.1 ?_
          refine x_eqr (hM.2.1 8 (by decide)).1 ?_
          refine x_iload C D_X9_leaves_10.2.2.2.2.2.2.2.1 rfl ?_
          refine x_iald C _ (by first | assumption | exact (hM.2.1 _ (by decide)).2.1) rfl (by first | omega | (rw [hM.nk _ (by decide)]; omega) | (rw [hM.np _ (by decide)]; omega)) (by first | omega | (rw [hM.nk _ (by decide)]; omega) | (rw [hM.np _ (by decide)]; omega)) D_X9_leaves_10.2.2.2.2.2.2.2.2.1 ?_
          first
          | refine x_eqi _ (hn) ?_
          | refine x_eqi _ (hn1) ?_
          | refine x_eqi _ (hn2_) ?_
          | refine x_eqi _ (hs1) ?_
          | refine x_eqi _ (hs2) ?_
          | refine x_eqi _ (hs3) ?_
          | refine x_eqi _ (hsk) ?_
          | skip
          refine x_if_le C 263 D_X9_leaves_10.2.2.2.2.2.2.2.2.2.1 (by decide) (fun c_229 => ?_) (fun c_229 => ?_)
          · skip
            first
            | have d_229 := cz_le c_229 (by omega)
            | skip
            have hv9 : mvuM n tu2 pl2 j0 = tu2 j0 := by unfold mvuM; rw [if_neg (by rw [d_229]; simp)]
            refine x_aload_n C D_X9_leaves_12.2.1 rfl rfl (by first | exact Or.inr ⟨_, rfl⟩ | exact va_rf_or _ | exact Or.inl rfl) ?_
            refine x_getQ C (ci := 8) (k0 := 8) (by assumption) (by decide) rfl (by decide) in_X9 k_910 rfl rfl D_X9_leaves_12.2.2.1 ?_
            refine x_eqr (hM.2.1 8 (by decide)).1 ?_
            refine x_iload C D_X9_leaves_12.2.2.2.1 rfl ?_
            refine x_iald C _ (by first | assumption | exact (hM.2.1 _ (by decide)).2.1) rfl (by first | omega | (rw [hM.nk _ (by decide)]; omega) | (rw [hM.np _ (by decide)]; omega)) (by first | omega | (rw [hM.nk _ (by decide)]; omega) | (rw [hM.np _ (by decide)]; omega)) D_X9_leaves_12.2.2.2.2.1 ?_
            first
            | refine x_eqi _ (hn) ?_
            | refine x_eqi _ (hn1) ?_
            | refine x_eqi _ (hn2_) ?_
            | refine x_eqi _ (hs1) ?_
            | refine x_eqi _ (hs2) ?_
            | refine x_eqi _ (hs3) ?_
            | refine x_eqi _ (hsk) ?_
            | skip
            refine x_iast C _ (by first | assumption | exact (hM.2.1 _ (by decide)).2.1) rfl (by first | omega | (rw [hM.nk _ (by decide)]; omega) | (rw [hM.np _ (by decide)]; omega)) (by first | omega | (rw [hM.nk _ (by decide)]; omega) | (rw [hM.np _ (by decide)]; omega)) D_X9_leaves_12.2.2.2.2.2.1 (fun I4 eI4 => ?_)
            first
            | refine x_iinc C (lv' := [_, _, _, _, _, _, _, _, _]) D_X9_leaves_12.2.2.2.2.2.2.1 rfl (x_incN_1 _) (by first | rfl | exact x_ok_q rfl) rfl ?_
            | refine x_iinc C (lv' := [_, _, _, _, _, _, _, _, _]) D_X9_leaves_12.2.2.2.2.2.2.1 rfl (x_inc_1 _) (by first | rfl | exact x_ok_q rfl) rfl ?_
            refine x_goto C 207 D_X9_leaves_12.2.2.2.2.2.2.2.1 (by decide) ?_
            exact ih_207 (j0 + 1) I4 (by omega) (by omega) (st_in eI4 hI3 (by rw [hv9])) (st_fr eI4 hfr3)
          · skip
            first
            | have d_229 := cz_nle c_229 (by omega)
            | skip
            refine x_aload_n C D_X9_leaves_10.2.2.2.2.2.2.2.2.2.2.1 rfl rfl (by first | exact Or.inr ⟨_, rfl⟩ | exact va_rf_or _ | exact Or.inl rfl) ?_
            refine x_getQ C (ci := 8) (k0 := 8) (by assumption) (by decide) rfl (by decide) in_X9 k_910 rfl rfl D_X9_leaves_10.2.2.2.2.2.2.2.2.2.2.2 ?_
            refine x_eqr (hM.2.1 8 (by decide)).1 ?_
            refine x_iload C D_X9_leaves_11.1 rfl ?_
            refine x_iald C _ (by first | assumption | exact (hM.2.1 _ (by decide)).2.1) rfl (by first | omega | (rw [hM.nk _ (by decide)]; omega) | (rw [hM.np _ (by decide)]; omega)) (by first | omega | (rw [hM.nk _ (by decide)]; omega) | (rw [hM.np _ (by decide)]; omega)) D_X9_leaves_11.2.1 ?_
            first
            | refine x_eqi _ (hn) ?_
            | refine x_eqi _ (hn1) ?_
            | refine x_eqi _ (hn2_) ?_
            | refine x_eqi _ (hs1) ?_
            | refine x_eqi _ (hs2) ?_
            | refine x_eqi _ (hs3) ?_
            | refine x_eqi _ (hsk) ?_
            | skip
            refine x_iload C D_X9_leaves_11.2.2.1 rfl ?_
            refine x_callSz C (y := yX9_isBelow) (c_X9_isBelow l G (tu2 j0) (othM n tu2 pl2) (by omega) (by omega)) k_1008 k_1009 k_67 k_1010 hd_X9_isBelow ⟨(Nat.le_of_ble_eq_true rfl), (Nat.le_of_ble_eq_true rfl)⟩ rfl (by first | exact Nat.le_of_ble_eq_true rfl | simp [x_crf, Value.category]) rfl rfl D_X9_leaves_11.2.2.2.1 ⟨(Nat.le_of_ble_eq_true rfl), (Nat.le_of_ble_eq_true rfl)⟩ (fun r_241 S_241 h_241 => ?_)
            obtain ⟨rfl, rfl⟩ := h_241
            refine x_if_eq C 263 D_X9_leaves_11.2.2.2.2.1 (by decide) (fun c_244 => ?_) (fun c_244 => ?_)
            · skip
              first
              | have d_244 := cz_eq c_244 (by omega)
              | have d_244 := cb_eq c_244
              | skip
              have hv9 : mvuM n tu2 pl2 j0 = tu2 j0 := by unfold mvuM; rw [if_neg (by rw [d_244, Bool.and_false]; decide)]
              refine x_aload_n C D_X9_leaves_12.2.1 rfl rfl (by first | exact Or.inr ⟨_, rfl⟩ | exact va_rf_or _ | exact Or.inl rfl) ?_
              refine x_getQ C (ci := 8) (k0 := 8) (by assumption) (by decide) rfl (by decide) in_X9 k_910 rfl rfl D_X9_leaves_12.2.2.1 ?_
              refine x_eqr (hM.2.1 8 (by decide)).1 ?_
              refine x_iload C D_X9_leaves_12.2.2.2.1 rfl ?_
              refine x_iald C _ (by first | assumption | exact (hM.2.1 _ (by decide)).2.1) rfl (by first | omega | (rw [hM.nk _ (by decide)]; omega) | (rw [hM.np _ (by decide)]; omega)) (by first | omega | (rw [hM.nk _ (by decide)]; omega) | (rw [hM.np _ (by decide)]; omega)) D_X9_leaves_12.2.2.2.2.1 ?_
              first
              | refine x_eqi _ (hn) ?_
              | refine x_eqi _ (hn1) ?_
              | refine x_eqi _ (hn2_) ?_
              | refine x_eqi _ (hs1) ?_
              | refine x_eqi _ (hs2) ?_
              | refine x_eqi _ (hs3) ?_
              | refine x_eqi _ (hsk) ?_
              | skip
              refine x_iast C _ (by first | assumption | exact (hM.2.1 _ (by decide)).2.1) rfl (by first | omega | (rw [hM.nk _ (by decide)]; omega) | (rw [hM.np _ (by decide)]; omega)) (by first | omega | (rw [hM.nk _ (by decide)]; omega) | (rw [hM.np _ (by decide)]; omega)) D_X9_leaves_12.2.2.2.2.2.1 (fun I4 eI4 => ?_)
              first
              | refine x_iinc C (lv' := [_, _, _, _, _, _, _, _, _]) D_X9_leaves_12.2.2.2.2.2.2.1 rfl (x_incN_1 _) (by first | rfl | exact x_ok_q rfl) rfl ?_
              | refine x_iinc C (lv' := [_, _, _, _, _, _, _, _, _]) D_X9_leaves_12.2.2.2.2.2.2.1 rfl (x_inc_1 _) (by first | rfl | exact x_ok_q rfl) rfl ?_
              refine x_goto C 207 D_X9_leaves_12.2.2.2.2.2.2.2.1 (by decide) ?_
              exact ih_207 (j0 + 1) I4 (by omega) (by omega) (st_in eI4 hI3 (by rw [hv9])) (st_fr eI4 hfr3)
            · skip
              first
              | have d_244 := cz_ne c_244 (by omega)
              | have d_244 := cb_ne c_244
              | skip
              have hv9 : mvuM n tu2 pl2 j0 = mvd (tu2 j0) (othM n tu2 pl2) pl2 := by unfold mvuM; rw [if_pos (by rw [d_244, Bool.and_true]; exact decide_eq_true d_229)]
              refine x_aload_n C D_X9_leaves_11.2.2.2.2.2.1 rfl rfl (by first | exact Or.inr ⟨_, rfl⟩ | exact va_rf_or _ | exact Or.inl rfl) ?_
              refine x_getQ C (ci := 8) (k0 := 8) (by assumption) (by decide) rfl (by decide) in_X9 k_910 rfl rfl D_X9_leaves_11.2.2.2.2.2.2.1 ?_
              refine x_eqr (hM.2.1 8 (by decide)).1 ?_
              refine x_iload C D_X9_leaves_11.2.2.2.2.2.2.2.1 rfl ?_
              refine x_iald C _ (by first | assumption | exact (hM.2.1 _ (by decide)).2.1) rfl (by first | omega | (rw [hM.nk _ (by decide)]; omega) | (rw [hM.np _ (by decide)]; omega)) (by first | omega | (rw [hM.nk _ (by decide)]; omega) | (rw [hM.np _ (by decide)]; omega)) D_X9_leaves_11.2.2.2.2.2.2.2.2.1 ?_
              first
              | refine x_eqi _ (hn) ?_
              | refine x_eqi _ (hn1) ?_
              | refine x_eqi _ (hn2_) ?_
              | refine x_eqi _ (hs1) ?_
              | refine x_eqi _ (hs2) ?_
              | refine x_eqi _ (hs3) ?_
              | refine x_eqi _ (hsk) ?_
              | skip
              refine x_iload C D_X9_leaves_11.2.2.2.2.2.2.2.2.2.1 rfl ?_
              refine x_iload_n C D_X9_leaves_11.2.2.2.2.2.2.2.2.2.2.1 rfl rfl ?_
              refine x_callSi C (y := yX9_moved) (c_X9_moved l G (tu2 j0) (othM n tu2 pl2) pl2 (by omega) (by omega) (bel_dep d_244) (bel_le d_244) (mv_ok d_244 (by omega) (by omega))) k_1018 k_1019 k_67 k_1020 hd_X9_moved ⟨(Nat.le_of_ble_eq_true rfl), (Nat.le_of_ble_eq_true rfl)⟩ rfl (by first | exact Nat.le_of_ble_eq_true rfl | simp [x_crf, Value.category]) rfl rfl D_X9_leaves_11.2.2.2.2.2.2.2.2.2.2.2 ⟨(Nat.le_of_ble_eq_true rfl), (Nat.le_of_ble_eq_true rfl)⟩ (fun r_257 S_257 h_257 => ?_)
              obtain ⟨rfl, rfl⟩ := h_257
              refine x_goto C 270 D_X9_leaves_12.1 (by decide) ?_
              refine x_iast C _ (by first | assumption | exact (hM.2.1 _ (by decide)).2.1) rfl (by first | omega | (rw [hM.nk _ (by decide)]; omega) | (rw [hM.np _ (by decide)]; omega)) (by first | omega | (rw [hM.nk _ (by decide)]; omega) | (rw [hM.np _ (by decide)]; omega)) D_X9_leaves_12.2.2.2.2.2.1 (fun I4 eI4 => ?_)
              first
              | refine x_iinc C (lv' := [_, _, _, _, _, _, _, _, _]) D_X9_leaves_12.2.2.2.2.2.2.1 rfl (x_incN_1 _) (by first | rfl | exact x_ok_q rfl) rfl ?_
              | refine x_iinc C (lv' := [_, _, _, _, _, _, _, _, _]) D_X9_leaves_12.2.2.2.2.2.2.1 rfl (x_inc_1 _) (by first | rfl | exact x_ok_q rfl) rfl ?_
              refine x_goto C 207 D_X9_leaves_12.2.2.2.2.2.2.2.1 (by decide) ?_
              exact ih_207 (j0 + 1) I4 (by omega) (by omega) (st_in eI4 hI3 (by rw [hv9])) (st_fr eI4 hfr3)
    refine x_if_le C 197 D_X9_leaves_8.2.2.2.2.2.2.2.2.2.1 (by decide) (fun c_188 => ?_) (fun c_188 => ?_)
    · skip
      first
      | have d_188 := cz_le c_188 (by omega)
      | skip
      have e5 : 2 * pl2 + 1 = othM n tu2 pl2 := by unfold othM; rw [if_neg (by omega)]
      refine x_iconst C (v := nI 2) D_X9_leaves_9.2.2.1 (by decide +kernel) ?_
      refine x_iload_n C D_X9_leaves_9.2.2.2.1 rfl rfl ?_
      refine x_imul C D_X9_leaves_9.2.2.2.2.1 ?_
      first
      | refine x_eqi _ (pk_mul _ _) ?_
      | skip
      refine x_iconst C (v := nI 1) D_X9_leaves_9.2.2.2.2.2.1 (by decide +kernel) ?_
      refine x_iadd C D_X9_leaves_9.2.2.2.2.2.2.1 ?_
      first
      | refine x_eqi _ (nI_add _ _) ?_
      | skip
      refine x_istore C (lv' := [_, _, _, _, _, _, _, _, _]) D_X9_leaves_9.2.2.2.2.2.2.2.1 (Nat.le_of_ble_eq_true rfl) (by first | rfl | exact x_ok_q rfl) rfl ?_
      refine x_iconst C (v := nI 0) D_X9_leaves_9.2.2.2.2.2.2.2.2.1 (by decide +kernel) ?_
      refine x_istore C (lv' := [_, _, _, _, _, _, _, _, _]) D_X9_leaves_9.2.2.2.2.2.2.2.2.2.1 (Nat.le_of_ble_eq_true rfl) (by first | rfl | exact x_ok_q rfl) rfl ?_
      rw [e5]
      exact L_207 _ 0 I2 (Nat.lt_succ_self _) (Nat.zero_le _) (fun i hi => by omega) (fun _ _ _ => rfl)
    · skip
      first
      | have d_188 := cz_nle c_188 (by omega)
      | skip
      have e5 : 2 * pl2 = othM n tu2 pl2 := by unfold othM; rw [if_pos d_188]
      refine x_iconst C (v := nI 2) D_X9_leaves_8.2.2.2.2.2.2.2.2.2.2.1 (by decide +kernel) ?_
      refine x_iload_n C D_X9_leaves_8.2.2.2.2.2.2.2.2.2.2.2 rfl rfl ?_
      refine x_imul C D_X9_leaves_9.1 ?_
      first
      | refine x_eqi _ (pk_mul _ _) ?_
      | skip
      refine x_goto C 202 D_X9_leaves_9.2.1 (by decide) ?_
      refine x_istore C (lv' := [_, _, _, _, _, _, _, _, _]) D_X9_leaves_9.2.2.2.2.2.2.2.1 (Nat.le_of_ble_eq_true rfl) (by first | rfl | exact x_ok_q rfl) rfl ?_
      refine x_iconst C (v := nI 0) D_X9_leaves_9.2.2.2.2.2.2.2.2.1 (by decide +kernel) ?_
      refine x_istore C (lv' := [_, _, _, _, _, _, _, _, _]) D_X9_leaves_9.2.2.2.2.2.2.2.2.2.1 (Nat.le_of_ble_eq_true rfl) (by first | rfl | exact x_ok_q rfl) rfl ?_
      rw [e5]
      exact L_207 _ 0 I2 (Nat.lt_succ_self _) (Nat.zero_le _) (fun i hi => by omega) (fun _ _ _ => rfl)
  refine x_iload_n C D_X9_leaves_2.2.2.2.2.2.2.1 rfl rfl ?_
  refine x_if_le C 174 D_X9_leaves_2.2.2.2.2.2.2.2.1 (by decide) (fun c_48 => ?_) (fun c_48 => ?_)
  · skip
    first
    | have d_48 := cz_le c_48 (by omega)
    | skip
    exact L_174 (x_up tu k 0) (tu k) I1 _ _ _ _ hI1 htu1 hk0 hskb hfr1 (by unfold levM; rw [if_neg (by omega)]) (by unfold levM; rw [if_neg (by omega)])
  · skip
    first
    | have d_48 := cz_nle c_48 (by omega)
    | skip
    refine x_iload C D_X9_leaves_2.2.2.2.2.2.2.2.2.1 rfl ?_
    refine x_if_le C 174 D_X9_leaves_2.2.2.2.2.2.2.2.2.2.1 (by decide) (fun c_53 => ?_) (fun c_53 => ?_)
    · skip
      first
      | have d_53 := cz_le c_53 (by omega)
      | skip
      exact L_174 (x_up tu k 0) (tu k) I1 _ _ _ _ hI1 htu1 hk0 hskb hfr1 (by unfold levM; rw [if_neg (by omega)]) (by unfold levM; rw [if_neg (by omega)])
    · skip
      first
      | have d_53 := cz_nle c_53 (by omega)
      | skip
      refine x_iload_n C D_X9_leaves_2.2.2.2.2.2.2.2.2.2.2.1 rfl rfl ?_
      refine x_iload C D_X9_leaves_2.2.2.2.2.2.2.2.2.2.2.2 rfl ?_
      have L_81 : ∀ (w_81 : Nat) (k0 : Nat) (v8 : Option Value), n - k0 < w_81 → (k0 ≤ n) → XW pP l eE rm_X9_leaves sS mM aA bB hH cC G Z 0 0 (K, N, I1, Q, J) 81 [some (.ref m), some (.int (nI k)), some (.int (nI (tu k))), some (.int (nI (cnW n tu (2 * tu k)))), some (.int (nI (cnW n tu (2 * tu k + 1)))), some (.int (nI fr)), some (.int (oI (fdF lb q0 k0))), some (.int (nI k0)), v8] [] := by
        intro w_81
        induction w_81 with
        | zero =>
          intro k0 v8 hw_81
          exact absurd hw_81 (Nat.not_lt_zero _)
        | succ w_81 ih_81 =>
          intro k0 v8 hw_81 hk0n
          refine x_iload C D_X9_leaves_4.2.2.2.1 rfl ?_
          refine x_aload_n C D_X9_leaves_4.2.2.2.2.1 rfl rfl (by first | exact Or.inr ⟨_, rfl⟩ | exact va_rf_or _ | exact Or.inl rfl) ?_
          refine x_getI C (ci := 8) (k0 := 0) (by assumption) (by decide) rfl (by decide) in_X9 k_902 rfl rfl D_X9_leaves_4.2.2.2.2.2.1 ?_
          first
          | refine x_eqi _ (hn) ?_
          | refine x_eqi _ (hn1) ?_
          | refine x_eqi _ (hn2_) ?_
          | refine x_eqi _ (hs1) ?_
          | refine x_eqi _ (hs2) ?_
          | refine x_eqi _ (hs3) ?_
          | refine x_eqi _ (hsk) ?_
          | skip
          refine x_icmp_ge C 154 D_X9_leaves_4.2.2.2.2.2.2.1 (by decide) (fun c_87 => ?_) (fun c_87 => ?_)
          · skip
            first
            | have d_87 := cv_le c_87 (by omega) (by omega)
            | skip
            obtain rfl : k0 = n := by omega
            have hfd : ∃ fd, fdF lb q0 k0 = some fd := by
              rcases hc9 : fdF lb q0 k0 with _ | fd
              · exfalso
                have h8 := fdF_none hc9
                have h7 : 0 < cnW k0 tu fr := by rw [efr]; split <;> omega
                obtain ⟨i, hi, hpi⟩ := cn_pos h7
                simp only [Bool.and_eq_true, decide_eq_true_eq] at hpi
                have hik : i ≠ k := fun e => by
                  rw [e, bel_up (by omega)] at hpi
                  exact absurd hpi.2 (by decide)
                have h6 := h8 i hi
                rw [eq0] at h6
                simp only [lvQ, x_up_n _ _ hik, hpi.1, hpi.2, decide_true, Bool.and_self] at h6
                cases h6
              · exact ⟨fd, rfl⟩
            obtain ⟨fd, hfd⟩ := hfd
            obtain ⟨hfdn, hfdq⟩ := fdF_lt hfd
            rw [hfd]
            have hs3 : I1 (ar 8) fd = nI (x_up tu k 0 fd) := hI1 fd hfdn
            have hb3 := htu1 fd hfdn
            refine x_aload_n C D_X9_leaves_7.2.1 rfl rfl (by first | exact Or.inr ⟨_, rfl⟩ | exact va_rf_or _ | exact Or.inl rfl) ?_
            refine x_getQ C (ci := 8) (k0 := 8) (by assumption) (by decide) rfl (by decide) in_X9 k_910 rfl rfl D_X9_leaves_7.2.2.1 ?_
            refine x_eqr (hM.2.1 8 (by decide)).1 ?_
            refine x_iload C D_X9_leaves_7.2.2.2.1 rfl ?_
            refine x_iald C _ (by first | assumption | exact (hM.2.1 _ (by decide)).2.1) rfl (by first | omega | (rw [hM.nk _ (by decide)]; omega) | (rw [hM.np _ (by decide)]; omega)) (by first | omega | (rw [hM.nk _ (by decide)]; omega) | (rw [hM.np _ (by decide)]; omega)) D_X9_leaves_7.2.2.2.2.1 ?_
            first
            | refine x_eqi _ (hn) ?_
            | refine x_eqi _ (hn1) ?_
            | refine x_eqi _ (hn2_) ?_
            | refine x_eqi _ (hs1) ?_
            | refine x_eqi _ (hs2) ?_
            | refine x_eqi _ (hs3) ?_
            | refine x_eqi _ (hsk) ?_
            | skip
            refine x_istore C (lv' := [_, _, _, _, _, _, _, _, _]) D_X9_leaves_7.2.2.2.2.2.1 (Nat.le_of_ble_eq_true rfl) (by first | rfl | exact x_ok_q rfl) rfl ?_
            refine x_aload_n C D_X9_leaves_7.2.2.2.2.2.2.1 rfl rfl (by first | exact Or.inr ⟨_, rfl⟩ | exact va_rf_or _ | exact Or.inl rfl) ?_
            refine x_getQ C (ci := 8) (k0 := 8) (by assumption) (by decide) rfl (by decide) in_X9 k_910 rfl rfl D_X9_leaves_7.2.2.2.2.2.2.2.1 ?_
            refine x_eqr (hM.2.1 8 (by decide)).1 ?_
            refine x_iload C D_X9_leaves_7.2.2.2.2.2.2.2.2.1 rfl ?_
            refine x_iload_n C D_X9_leaves_7.2.2.2.2.2.2.2.2.2.1 rfl rfl ?_
            refine x_iast C _ (by first | assumption | exact (hM.2.1 _ (by decide)).2.1) rfl (by first | omega | (rw [hM.nk _ (by decide)]; omega) | (rw [hM.np _ (by decide)]; omega)) (by first | omega | (rw [hM.nk _ (by decide)]; omega) | (rw [hM.np _ (by decide)]; omega)) D_X9_leaves_7.2.2.2.2.2.2.2.2.2.2.1 (fun I2 eI2 => ?_)
            refine x_iload C D_X9_leaves_7.2.2.2.2.2.2.2.2.2.2.2 rfl ?_
            refine x_istore_n C (lv' := [_, _, _, _, _, _, _, _, _]) D_X9_leaves_8.1 rfl (Nat.le_of_ble_eq_true rfl) (by first | rfl | exact x_ok_q rfl) rfl ?_
            have hq9 : 0 < x_up tu k 0 fd := by
              rw [eq0] at hfdq
              simp only [lvQ, Bool.and_eq_true, decide_eq_true_eq] at hfdq
              exact hfdq.1
            have hlev : levM k0 tu k = (x_up (x_up tu k 0) fd (tu k), x_up tu k 0 fd) := by
              unfold levM
              rw [if_pos ⟨by omega, by omega⟩, ← elb, ← efr, ← eq0, hfd]; rfl
            refine L_174 (x_up (x_up tu k 0) fd (tu k)) (x_up tu k 0 fd) I2 _ _ _ _ (fun i hi => ?_) (fun i hi => ?_) hq9 hb3 (fun a j hj => ?_) (by rw [hlev]) (by rw [hlev])
            · rw [eI2]
              by_cases e : i = fd
              · subst e; rw [x_u2_s, x_up_s]
              · rw [x_u2_j _ _ e, x_up_n _ _ e]; exact hI1 i hi
            · by_cases e : i = fd
              · rw [e, x_up_s]; exact hskb
              · rw [x_up_n _ _ e]; exact htu1 i hi
            · rw [eI2]
              by_cases e : a = ar 8
              · subst e; rw [x_u2_j _ _ (fun z => hj ⟨rfl, by omega⟩)]; exact hfr1 _ j hj
              · rw [x_u2_a _ _ e]; exact hfr1 a j hj
          · skip
            first
            | have d_87 := cv_nle c_87 (by omega) (by omega)
            | skip
            have hs1 : I1 (ar 8) k0 = nI (x_up tu k 0 k0) := hI1 k0 (by omega)
            have hb1 := htu1 k0 (by omega)
            refine x_aload_n C D_X9_leaves_4.2.2.2.2.2.2.2.1 rfl rfl (by first | exact Or.inr ⟨_, rfl⟩ | exact va_rf_or _ | exact Or.inl rfl) ?_
            refine x_getQ C (ci := 8) (k0 := 8) (by assumption) (by decide) rfl (by decide) in_X9 k_910 rfl rfl D_X9_leaves_4.2.2.2.2.2.2.2.2.1 ?_
            refine x_eqr (hM.2.1 8 (by decide)).1 ?_
            refine x_iload C D_X9_leaves_4.2.2.2.2.2.2.2.2.2.1 rfl ?_
            refine x_iald C _ (by first | assumption | exact (hM.2.1 _ (by decide)).2.1) rfl (by first | omega | (rw [hM.nk _ (by decide)]; omega) | (rw [hM.np _ (by decide)]; omega)) (by first | omega | (rw [hM.nk _ (by decide)]; omega) | (rw [hM.np _ (by decide)]; omega)) D_X9_leaves_4.2.2.2.2.2.2.2.2.2.2.1 ?_
            first
            | refine x_eqi _ (hn) ?_
            | refine x_eqi _ (hn1) ?_
            | refine x_eqi _ (hn2_) ?_
            | refine x_eqi _ (hs1) ?_
            | refine x_eqi _ (hs2) ?_
            | refine x_eqi _ (hs3) ?_
            | refine x_eqi _ (hsk) ?_
            | skip
            refine x_if_le C 119 D_X9_leaves_4.2.2.2.2.2.2.2.2.2.2.2 (by decide) (fun c_97 => ?_) (fun c_97 => ?_)
            · skip
              first
              | have d_97 := cz_le c_97 (by omega)
              | skip
              have hq : q0 k0 = false := by rw [eq0]; simp [lvQ, d_97]
              refine x_iconst C (v := nI 0) D_X9_leaves_5.2.2.2.2.2.2.2.2.2.1 (by decide +kernel) ?_
              refine x_istore C (lv' := [_, _, _, _, _, _, _, _, _]) D_X9_leaves_5.2.2.2.2.2.2.2.2.2.2.1 (Nat.le_of_ble_eq_true rfl) (by first | rfl | exact x_ok_q rfl) rfl ?_
              refine x_iload C D_X9_leaves_5.2.2.2.2.2.2.2.2.2.2.2 rfl ?_
              refine x_if_eq C 144 D_X9_leaves_6.1 (by decide) (fun c_124 => ?_) (fun c_124 => ?_)
              · skip
                first
                | have d_124 := cz_eq c_124 (by omega)
                | have d_124 := cb_eq c_124
                | skip
                refine x_iload C D_X9_leaves_6.2.2.2.2.2.2.2.2.2.1 rfl ?_
                refine x_istore C (lv' := [_, _, _, _, _, _, _, _, _]) D_X9_leaves_6.2.2.2.2.2.2.2.2.2.2.1 (Nat.le_of_ble_eq_true rfl) (by first | rfl | exact x_ok_q rfl) rfl ?_
                first
                | refine x_iinc C (lv' := [_, _, _, _, _, _, _, _, _]) D_X9_leaves_6.2.2.2.2.2.2.2.2.2.2.2 rfl (x_incN_1 _) (by first | rfl | exact x_ok_q rfl) rfl ?_
                | refine x_iinc C (lv' := [_, _, _, _, _, _, _, _, _]) D_X9_leaves_6.2.2.2.2.2.2.2.2.2.2.2 rfl (x_inc_1 _) (by first | rfl | exact x_ok_q rfl) rfl ?_
                refine x_goto C 81 D_X9_leaves_7.1 (by decide) ?_
                rw [← fdF_no (l := lb) hq]
                exact ih_81 (k0 + 1) _ (by omega) (by omega)
              · skip
                exact absurd c_124 (by decide)
            · skip
              first
              | have d_97 := cz_nle c_97 (by omega)
              | skip
              refine x_aload_n C D_X9_leaves_5.1 rfl rfl (by first | exact Or.inr ⟨_, rfl⟩ | exact va_rf_or _ | exact Or.inl rfl) ?_
              refine x_getQ C (ci := 8) (k0 := 8) (by assumption) (by decide) rfl (by decide) in_X9 k_910 rfl rfl D_X9_leaves_5.2.1 ?_
              refine x_eqr (hM.2.1 8 (by decide)).1 ?_
              refine x_iload C D_X9_leaves_5.2.2.1 rfl ?_
              refine x_iald C _ (by first | assumption | exact (hM.2.1 _ (by decide)).2.1) rfl (by first | omega | (rw [hM.nk _ (by decide)]; omega) | (rw [hM.np _ (by decide)]; omega)) (by first | omega | (rw [hM.nk _ (by decide)]; omega) | (rw [hM.np _ (by decide)]; omega)) D_X9_leaves_5.2.2.2.1 ?_
              first
              | refine x_eqi _ (hn) ?_
              | refine x_eqi _ (hn1) ?_
              | refine x_eqi _ (hn2_) ?_
              | refine x_eqi _ (hs1) ?_
              | refine x_eqi _ (hs2) ?_
              | refine x_eqi _ (hs3) ?_
              | refine x_eqi _ (hsk) ?_
              | skip
              refine x_iload C D_X9_leaves_5.2.2.2.2.1 rfl ?_
              refine x_callSz C (y := yX9_isBelow) (c_X9_isBelow l G (x_up tu k 0 k0) fr (by omega) (by omega)) k_1008 k_1009 k_67 k_1010 hd_X9_isBelow ⟨(Nat.le_of_ble_eq_true rfl), (Nat.le_of_ble_eq_true rfl)⟩ rfl (by first | exact Nat.le_of_ble_eq_true rfl | simp [x_crf, Value.category]) rfl rfl D_X9_leaves_5.2.2.2.2.2.1 ⟨(Nat.le_of_ble_eq_true rfl), (Nat.le_of_ble_eq_true rfl)⟩ (fun r_109 S_109 h_109 => ?_)
              obtain ⟨rfl, rfl⟩ := h_109
              refine x_if_eq C 119 D_X9_leaves_5.2.2.2.2.2.2.1 (by decide) (fun c_112 => ?_) (fun c_112 => ?_)
              · skip
                first
                | have d_112 := cz_eq c_112 (by omega)
                | have d_112 := cb_eq c_112
                | skip
                have hq : q0 k0 = false := by rw [eq0]; simp [lvQ, d_112]
                refine x_iconst C (v := nI 0) D_X9_leaves_5.2.2.2.2.2.2.2.2.2.1 (by decide +kernel) ?_
                refine x_istore C (lv' := [_, _, _, _, _, _, _, _, _]) D_X9_leaves_5.2.2.2.2.2.2.2.2.2.2.1 (Nat.le_of_ble_eq_true rfl) (by first | rfl | exact x_ok_q rfl) rfl ?_
                refine x_iload C D_X9_leaves_5.2.2.2.2.2.2.2.2.2.2.2 rfl ?_
                refine x_if_eq C 144 D_X9_leaves_6.1 (by decide) (fun c_124 => ?_) (fun c_124 => ?_)
                · skip
                  first
                  | have d_124 := cz_eq c_124 (by omega)
                  | have d_124 := cb_eq c_124
                  | skip
                  refine x_iload C D_X9_leaves_6.2.2.2.2.2.2.2.2.2.1 rfl ?_
                  refine x_istore C (lv' := [_, _, _, _, _, _, _, _, _]) D_X9_leaves_6.2.2.2.2.2.2.2.2.2.2.1 (Nat.le_of_ble_eq_true rfl) (by first | rfl | exact x_ok_q rfl) rfl ?_
                  first
                  | refine x_iinc C (lv' := [_, _, _, _, _, _, _, _, _]) D_X9_leaves_6.2.2.2.2.2.2.2.2.2.2.2 rfl (x_incN_1 _) (by first | rfl | exact x_ok_q rfl) rfl ?_
                  | refine x_iinc C (lv' := [_, _, _, _, _, _, _, _, _]) D_X9_leaves_6.2.2.2.2.2.2.2.2.2.2.2 rfl (x_inc_1 _) (by first | rfl | exact x_ok_q rfl) rfl ?_
                  refine x_goto C 81 D_X9_leaves_7.1 (by decide) ?_
                  rw [← fdF_no (l := lb) hq]
                  exact ih_81 (k0 + 1) _ (by omega) (by omega)
                · skip
                  exact absurd c_124 (by decide)
              · skip
                first
                | have d_112 := cz_ne c_112 (by omega)
                | have d_112 := cb_ne c_112
                | skip
                have hq : q0 k0 = true := by rw [eq0]; simp [lvQ, d_112, d_97]
                refine x_iconst C (v := nI 1) D_X9_leaves_5.2.2.2.2.2.2.2.1 (by decide +kernel) ?_
                refine x_goto C 120 D_X9_leaves_5.2.2.2.2.2.2.2.2.1 (by decide) ?_
                refine x_istore C (lv' := [_, _, _, _, _, _, _, _, _]) D_X9_leaves_5.2.2.2.2.2.2.2.2.2.2.1 (Nat.le_of_ble_eq_true rfl) (by first | rfl | exact x_ok_q rfl) rfl ?_
                refine x_iload C D_X9_leaves_5.2.2.2.2.2.2.2.2.2.2.2 rfl ?_
                refine x_if_eq C 144 D_X9_leaves_6.1 (by decide) (fun c_124 => ?_) (fun c_124 => ?_)
                · skip
                  exact absurd c_124 (by decide)
                · skip
                  first
                  | have d_124 := cz_ne c_124 (by omega)
                  | have d_124 := cb_ne c_124
                  | skip
                  refine x_iload C D_X9_leaves_6.2.1 rfl ?_
                  refine x_iconst C (v := (-1)) D_X9_leaves_6.2.2.1 (by decide +kernel) ?_
                  refine x_icmp_eq C 139 D_X9_leaves_6.2.2.2.1 (by decide) (fun c_130 => ?_) (fun c_130 => ?_)
                  · skip
                    have hfn : fdF lb q0 k0 = none := oI_none c_130 (fun k hk => by have := (fdF_lt hk).1; omega)
                    refine x_iload C D_X9_leaves_6.2.2.2.2.2.2.2.1 rfl ?_
                    refine x_goto C 146 D_X9_leaves_6.2.2.2.2.2.2.2.2.1 (by decide) ?_
                    refine x_istore C (lv' := [_, _, _, _, _, _, _, _, _]) D_X9_leaves_6.2.2.2.2.2.2.2.2.2.2.1 (Nat.le_of_ble_eq_true rfl) (by first | rfl | exact x_ok_q rfl) rfl ?_
                    first
                    | refine x_iinc C (lv' := [_, _, _, _, _, _, _, _, _]) D_X9_leaves_6.2.2.2.2.2.2.2.2.2.2.2 rfl (x_incN_1 _) (by first | rfl | exact x_ok_q rfl) rfl ?_
                    | refine x_iinc C (lv' := [_, _, _, _, _, _, _, _, _]) D_X9_leaves_6.2.2.2.2.2.2.2.2.2.2.2 rfl (x_inc_1 _) (by first | rfl | exact x_ok_q rfl) rfl ?_
                    refine x_goto C 81 D_X9_leaves_7.1 (by decide) ?_
                    refine x_lv (lv := [_, _, _, _, _, _, some (.int (oI (fdF lb q0 (k0 + 1)))), _, _]) (by rw [fdF_yes hq (Or.inr hfn)]; rfl) ?_
                    exact ih_81 (k0 + 1) _ (by omega) (by omega)
                  · skip
                    obtain ⟨j9, hfs⟩ := oI_some c_130
                    refine x_iload_n C D_X9_leaves_6.2.2.2.2.1 rfl rfl ?_
                    refine x_iload C D_X9_leaves_6.2.2.2.2.2.1 rfl ?_
                    refine x_icmp_le C 144 D_X9_leaves_6.2.2.2.2.2.2.1 (by decide) (fun c_136 => ?_) (fun c_136 => ?_)
                    · skip
                      first
                      | have d_136 := cv_le c_136 (by omega) (by omega)
                      | skip
                      have hlb : lb = false := by rw [elb]; simp; omega
                      refine x_iload C D_X9_leaves_6.2.2.2.2.2.2.2.2.2.1 rfl ?_
                      refine x_istore C (lv' := [_, _, _, _, _, _, _, _, _]) D_X9_leaves_6.2.2.2.2.2.2.2.2.2.2.1 (Nat.le_of_ble_eq_true rfl) (by first | rfl | exact x_ok_q rfl) rfl ?_
                      first
                      | refine x_iinc C (lv' := [_, _, _, _, _, _, _, _, _]) D_X9_leaves_6.2.2.2.2.2.2.2.2.2.2.2 rfl (x_incN_1 _) (by first | rfl | exact x_ok_q rfl) rfl ?_
                      | refine x_iinc C (lv' := [_, _, _, _, _, _, _, _, _]) D_X9_leaves_6.2.2.2.2.2.2.2.2.2.2.2 rfl (x_inc_1 _) (by first | rfl | exact x_ok_q rfl) rfl ?_
                      refine x_goto C 81 D_X9_leaves_7.1 (by decide) ?_
                      refine x_lv (lv := [_, _, _, _, _, _, some (.int (oI (fdF lb q0 (k0 + 1)))), _, _]) (by rw [hlb] at hfs ⊢; rw [hfs, fdF_keep hfs]) ?_
                      exact ih_81 (k0 + 1) _ (by omega) (by omega)
                    · skip
                      first
                      | have d_136 := cv_nle c_136 (by omega) (by omega)
                      | skip
                      have hlb : lb = true := by rw [elb]; simp; omega
                      refine x_iload C D_X9_leaves_6.2.2.2.2.2.2.2.1 rfl ?_
                      refine x_goto C 146 D_X9_leaves_6.2.2.2.2.2.2.2.2.1 (by decide) ?_
                      refine x_istore C (lv' := [_, _, _, _, _, _, _, _, _]) D_X9_leaves_6.2.2.2.2.2.2.2.2.2.2.1 (Nat.le_of_ble_eq_true rfl) (by first | rfl | exact x_ok_q rfl) rfl ?_
                      first
                      | refine x_iinc C (lv' := [_, _, _, _, _, _, _, _, _]) D_X9_leaves_6.2.2.2.2.2.2.2.2.2.2.2 rfl (x_incN_1 _) (by first | rfl | exact x_ok_q rfl) rfl ?_
                      | refine x_iinc C (lv' := [_, _, _, _, _, _, _, _, _]) D_X9_leaves_6.2.2.2.2.2.2.2.2.2.2.2 rfl (x_inc_1 _) (by first | rfl | exact x_ok_q rfl) rfl ?_
                      refine x_goto C 81 D_X9_leaves_7.1 (by decide) ?_
                      refine x_lv (lv := [_, _, _, _, _, _, some (.int (oI (fdF lb q0 (k0 + 1)))), _, _]) (by rw [fdF_yes hq (Or.inl hlb)]; rfl) ?_
                      exact ih_81 (k0 + 1) _ (by omega) (by omega)
      refine x_icmp_le C 68 D_X9_leaves_3.1 (by decide) (fun c_59 => ?_) (fun c_59 => ?_)
      · skip
        first
        | have d_59 := cv_le c_59 (by omega) (by omega)
        | skip
        have e5 : 2 * tu k + 1 = fr := by rw [efr, if_neg (by omega)]
        refine x_iconst C (v := nI 2) D_X9_leaves_3.2.2.2.2.2.1 (by decide +kernel) ?_
        refine x_iload_n C D_X9_leaves_3.2.2.2.2.2.2.1 rfl rfl ?_
        refine x_imul C D_X9_leaves_3.2.2.2.2.2.2.2.1 ?_
        first
        | refine x_eqi _ (pk_mul _ _) ?_
        | skip
        refine x_iconst C (v := nI 1) D_X9_leaves_3.2.2.2.2.2.2.2.2.1 (by decide +kernel) ?_
        refine x_iadd C D_X9_leaves_3.2.2.2.2.2.2.2.2.2.1 ?_
        first
        | refine x_eqi _ (nI_add _ _) ?_
        | skip
        refine x_istore C (lv' := [_, _, _, _, _, _, _, _, _]) D_X9_leaves_3.2.2.2.2.2.2.2.2.2.2.1 (Nat.le_of_ble_eq_true rfl) (by first | rfl | exact x_ok_q rfl) rfl ?_
        refine x_iconst C (v := (-1)) D_X9_leaves_3.2.2.2.2.2.2.2.2.2.2.2 (by decide +kernel) ?_
        refine x_istore C (lv' := [_, _, _, _, _, _, _, _, _]) D_X9_leaves_4.1 (Nat.le_of_ble_eq_true rfl) (by first | rfl | exact x_ok_q rfl) rfl ?_
        refine x_iconst C (v := nI 0) D_X9_leaves_4.2.1 (by decide +kernel) ?_
        refine x_istore C (lv' := [_, _, _, _, _, _, _, _, _]) D_X9_leaves_4.2.2.1 (Nat.le_of_ble_eq_true rfl) (by first | rfl | exact x_ok_q rfl) rfl ?_
        refine x_lv (lv := [_, _, _, _, _, some (.int (nI fr)), some (.int (oI (fdF lb q0 0))), _, _]) (by rw [← e5]; cases lb <;> rfl) ?_
        exact L_81 _ 0 _ (Nat.lt_succ_self _) (Nat.zero_le _)
      · skip
        first
        | have d_59 := cv_nle c_59 (by omega) (by omega)
        | skip
        have e5 : 2 * tu k = fr := by rw [efr, if_pos d_59]
        refine x_iconst C (v := nI 2) D_X9_leaves_3.2.1 (by decide +kernel) ?_
        refine x_iload_n C D_X9_leaves_3.2.2.1 rfl rfl ?_
        refine x_imul C D_X9_leaves_3.2.2.2.1 ?_
        first
        | refine x_eqi _ (pk_mul _ _) ?_
        | skip
        refine x_goto C 73 D_X9_leaves_3.2.2.2.2.1 (by decide) ?_
        refine x_istore C (lv' := [_, _, _, _, _, _, _, _, _]) D_X9_leaves_3.2.2.2.2.2.2.2.2.2.2.1 (Nat.le_of_ble_eq_true rfl) (by first | rfl | exact x_ok_q rfl) rfl ?_
        refine x_iconst C (v := (-1)) D_X9_leaves_3.2.2.2.2.2.2.2.2.2.2.2 (by decide +kernel) ?_
        refine x_istore C (lv' := [_, _, _, _, _, _, _, _, _]) D_X9_leaves_4.1 (Nat.le_of_ble_eq_true rfl) (by first | rfl | exact x_ok_q rfl) rfl ?_
        refine x_iconst C (v := nI 0) D_X9_leaves_4.2.1 (by decide +kernel) ?_
        refine x_istore C (lv' := [_, _, _, _, _, _, _, _, _]) D_X9_leaves_4.2.2.1 (Nat.le_of_ble_eq_true rfl) (by first | rfl | exact x_ok_q rfl) rfl ?_
        refine x_lv (lv := [_, _, _, _, _, some (.int (nI fr)), some (.int (oI (fdF lb q0 0))), _, _]) (by rw [← e5]; cases lb <;> rfl) ?_
        exact L_81 _ 0 _ (Nat.lt_succ_self _) (Nat.zero_le _)
