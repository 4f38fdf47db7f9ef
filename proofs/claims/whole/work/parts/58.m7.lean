theorem D_X9_add_0 : decode cX9_add 0 = .ok (.aload_n 0, 1) ∧ decode cX9_add 1 = .ok (.iload_n 1, 1) ∧ decode cX9_add 2 = .ok (.invokevirtual 110, 3) ∧ decode cX9_add 5 = .ok (.istore_n 2, 1) ∧ decode cX9_add 6 = .ok (.iload_n 2, 1) ∧ decode cX9_add 7 = .ok (.iconst (-1), 1) ∧ decode cX9_add 8 = .ok (.if_icmp .eq 16, 3) ∧ decode cX9_add 11 = .ok (.aload_n 0, 1) ∧ decode cX9_add 12 = .ok (.getfield 13, 3) ∧ decode cX9_add 15 = .ok (.iload_n 2, 1) ∧ decode cX9_add 16 = .ok (.baload, 1) ∧ decode cX9_add 17 = .ok (.ifCond .eq 7, 3) := by decide +kernel
theorem D_X9_add_1 : decode cX9_add 20 = .ok (.iconst 1, 1) ∧ decode cX9_add 21 = .ok (.goto 4, 3) ∧ decode cX9_add 24 = .ok (.iconst 0, 1) ∧ decode cX9_add 25 = .ok (.istore_n 3, 1) ∧ decode cX9_add 26 = .ok (.aload_n 0, 1) ∧ decode cX9_add 27 = .ok (.iload_n 1, 1) ∧ decode cX9_add 28 = .ok (.sipush (-999), 3) ∧ decode cX9_add 31 = .ok (.if_icmp .lt 10, 3) ∧ decode cX9_add 34 = .ok (.iload_n 1, 1) ∧ decode cX9_add 35 = .ok (.sipush 999, 3) ∧ decode cX9_add 38 = .ok (.if_icmp .le 7, 3) ∧ decode cX9_add 41 = .ok (.iconst 1, 1) := by decide +kernel
theorem D_X9_add_2 : decode cX9_add 42 = .ok (.goto 21, 3) ∧ decode cX9_add 45 = .ok (.iload_n 3, 1) ∧ decode cX9_add 46 = .ok (.ifCond .ne 16, 3) ∧ decode cX9_add 49 = .ok (.aload_n 0, 1) ∧ decode cX9_add 50 = .ok (.invokevirtual 113, 3) ∧ decode cX9_add 53 = .ok (.bipush 100, 2) ∧ decode cX9_add 55 = .ok (.if_icmp .ne 7, 3) ∧ decode cX9_add 58 = .ok (.iconst 2, 1) ∧ decode cX9_add 59 = .ok (.goto 4, 3) ∧ decode cX9_add 62 = .ok (.iconst 0, 1) ∧ decode cX9_add 63 = .ok (.invokevirtual 117, 3) ∧ decode cX9_add 66 = .ok (.ifCond .eq 7, 3) := by decide +kernel
theorem D_X9_add_3 : decode cX9_add 69 = .ok (.iload_n 3, 1) ∧ decode cX9_add 70 = .ok (.ifCond .eq 5, 3) ∧ decode cX9_add 73 = .ok (.iconst 0, 1) ∧ decode cX9_add 74 = .ok (.ireturn, 1) ∧ decode cX9_add 75 = .ok (.iload_n 2, 1) ∧ decode cX9_add 76 = .ok (.iconst (-1), 1) ∧ decode cX9_add 77 = .ok (.if_icmp .eq 17, 3) ∧ decode cX9_add 80 = .ok (.aload_n 0, 1) ∧ decode cX9_add 81 = .ok (.getfield 13, 3) ∧ decode cX9_add 84 = .ok (.iload_n 2, 1) ∧ decode cX9_add 85 = .ok (.iconst 1, 1) ∧ decode cX9_add 86 = .ok (.bastore, 1) := by decide +kernel
theorem D_X9_add_4 : decode cX9_add 87 = .ok (.aload_n 0, 1) ∧ decode cX9_add 88 = .ok (.iload_n 2, 1) ∧ decode cX9_add 89 = .ok (.invokevirtual 121, 3) ∧ decode cX9_add 92 = .ok (.iconst 1, 1) ∧ decode cX9_add 93 = .ok (.ireturn, 1) ∧ decode cX9_add 94 = .ok (.aload_n 0, 1) ∧ decode cX9_add 95 = .ok (.aload_n 0, 1) ∧ decode cX9_add 96 = .ok (.getfield 17, 3) ∧ decode cX9_add 99 = .ok (.iload_n 1, 1) ∧ decode cX9_add 100 = .ok (.invokevirtual 103, 3) ∧ decode cX9_add 103 = .ok (.istore 4, 2) ∧ decode cX9_add 105 = .ok (.aload_n 0, 1) := by decide +kernel
theorem D_X9_add_5 : decode cX9_add 106 = .ok (.getfield 60, 3) ∧ decode cX9_add 109 = .ok (.istore 5, 2) ∧ decode cX9_add 111 = .ok (.iload 5, 2) ∧ decode cX9_add 113 = .ok (.ifCond .le 32, 3) ∧ decode cX9_add 116 = .ok (.aload_n 0, 1) ∧ decode cX9_add 117 = .ok (.getfield 7, 3) ∧ decode cX9_add 120 = .ok (.iload 5, 2) ∧ decode cX9_add 122 = .ok (.iconst 1, 1) ∧ decode cX9_add 123 = .ok (.isub, 1) ∧ decode cX9_add 124 = .ok (.iaload, 1) ∧ decode cX9_add 125 = .ok (.iload_n 1, 1) ∧ decode cX9_add 126 = .ok (.if_icmp .le 19, 3) := by decide +kernel
theorem D_X9_add_6 : decode cX9_add 129 = .ok (.aload_n 0, 1) ∧ decode cX9_add 130 = .ok (.iload 5, 2) ∧ decode cX9_add 132 = .ok (.iconst 1, 1) ∧ decode cX9_add 133 = .ok (.isub, 1) ∧ decode cX9_add 134 = .ok (.iload 5, 2) ∧ decode cX9_add 136 = .ok (.invokevirtual 124, 3) ∧ decode cX9_add 139 = .ok (.iinc 5 (-1), 3) ∧ decode cX9_add 142 = .ok (.goto (-31), 3) ∧ decode cX9_add 145 = .ok (.aload_n 0, 1) ∧ decode cX9_add 146 = .ok (.getfield 7, 3) ∧ decode cX9_add 149 = .ok (.iload 5, 2) ∧ decode cX9_add 151 = .ok (.iload_n 1, 1) := by decide +kernel
theorem D_X9_add_7 : decode cX9_add 152 = .ok (.iastore, 1) ∧ decode cX9_add 153 = .ok (.aload_n 0, 1) ∧ decode cX9_add 154 = .ok (.getfield 13, 3) ∧ decode cX9_add 157 = .ok (.iload 5, 2) ∧ decode cX9_add 159 = .ok (.iconst 1, 1) ∧ decode cX9_add 160 = .ok (.bastore, 1) ∧ decode cX9_add 161 = .ok (.aload_n 0, 1) ∧ decode cX9_add 162 = .ok (.getfield 17, 3) ∧ decode cX9_add 165 = .ok (.iload 5, 2) ∧ decode cX9_add 167 = .ok (.iload 4, 2) ∧ decode cX9_add 169 = .ok (.iastore, 1) ∧ decode cX9_add 170 = .ok (.aload_n 0, 1) := by decide +kernel
theorem D_X9_add_8 : decode cX9_add 171 = .ok (.getfield 20, 3) ∧ decode cX9_add 174 = .ok (.iload 5, 2) ∧ decode cX9_add 176 = .ok (.iconst 0, 1) ∧ decode cX9_add 177 = .ok (.iastore, 1) ∧ decode cX9_add 178 = .ok (.aload_n 0, 1) ∧ decode cX9_add 179 = .ok (.getfield 23, 3) ∧ decode cX9_add 182 = .ok (.iload 5, 2) ∧ decode cX9_add 184 = .ok (.iconst 0, 1) ∧ decode cX9_add 185 = .ok (.iastore, 1) ∧ decode cX9_add 186 = .ok (.aload_n 0, 1) ∧ decode cX9_add 187 = .ok (.dup, 1) ∧ decode cX9_add 188 = .ok (.getfield 60, 3) := by decide +kernel
theorem D_X9_add_9 : decode cX9_add 191 = .ok (.iconst 1, 1) ∧ decode cX9_add 192 = .ok (.iadd, 1) ∧ decode cX9_add 193 = .ok (.putfield 60, 3) ∧ decode cX9_add 196 = .ok (.aload_n 0, 1) ∧ decode cX9_add 197 = .ok (.iload 5, 2) ∧ decode cX9_add 199 = .ok (.invokevirtual 128, 3) ∧ decode cX9_add 202 = .ok (.aload_n 0, 1) ∧ decode cX9_add 203 = .ok (.invokevirtual 131, 3) ∧ decode cX9_add 206 = .ok (.aload_n 0, 1) ∧ decode cX9_add 207 = .ok (.iload 5, 2) ∧ decode cX9_add 209 = .ok (.invokevirtual 121, 3) ∧ decode cX9_add 212 = .ok (.iconst 1, 1) := by decide +kernel
theorem D_X9_add_10 : decode cX9_add 213 = .ok (.ireturn, 1) := by decide +kernel
abbrev rm_X9_addR : Room := { frames := 1, cells := 0, slots := 0, locals := 23 }
theorem hd_X9_can : yX9_can.cls ≠ "java/lang/invoke/MethodHandle" ∧ yX9_can.cls ≠ "java/lang/invoke/VarHandle" ∧ (parseMethodDescriptor yX9_can.desc).map (fun d => d.parameters.length) = some 1 := by decide +kernel
theorem hd_X9_nodeOf : yX9_nodeOf.cls ≠ "java/lang/invoke/MethodHandle" ∧ yX9_nodeOf.cls ≠ "java/lang/invoke/VarHandle" ∧ (parseMethodDescriptor yX9_nodeOf.desc).map (fun d => d.parameters.length) = some 1 := by decide +kernel
set_option maxHeartbeats 4000000 in
set_option maxRecDepth 100000 in
theorem c_X9_addR (l : Launch) (G : xG) {K N : Nat → Nat} {I : Nat → Nat → Int32} {Q : Nat → Nat → Option Nat} {J : Nat → Nat → Int64} (m n : Nat) (ar kc sp tu pt : Nat → Nat) (al : Nat → Bool) (x : Int32) (hM : MZ K N Q m ar) (hK : KV I m ar n kc al sp tu pt) (hB : KB n kc sp tu pt) (hx : x < -999 ∨ nI 999 < x) (hnd : lastF (fun i => decide (I (ar 5) i = x)) n = none) : XM l yX9_add cX9_add 6 (some .boolean) rm_X9_addR G Rz [.ref m, .int x] (K, N, I, Q, J) (fun r S1 => r = false ∧ S1 = (K, N, x_u2 I m 18 (nI 1), Q, J)) := by
  refine x_metz (lv := [_, _, _, _, _, _]) (by decide +kernel) (x_cc (by first | rfl | exact x_crf _) (x_cc (by first | rfl | exact x_crf _) x_cn)) (Nat.le_of_ble_eq_true rfl) rfl ?_
  intro pP eE sS mM aA bB hH cC Z C hini ret
  have hk9 := hM.1
  obtain ⟨hn, hn201, hk5, hk6, hk7, hk8, hk9_⟩ := hK
  
  refine x_aload_n C D_X9_add_0.1 rfl rfl (by first | exact Or.inr ⟨_, rfl⟩ | exact va_rf_or _ | exact Or.inl rfl) ?_
  refine x_iload_n C D_X9_add_0.2.1 rfl rfl ?_
  refine x_callVi C (y := yX9_nodeOf) (c_X9_nodeOf l G m n ar x hM hn (by omega)) (ci := 8) hM.1 (by decide) rfl rfl k_970 k_972 k_35 k_67 k_973 hd_X9_nodeOf ⟨(Nat.le_of_ble_eq_true rfl), (Nat.le_of_ble_eq_true rfl)⟩ rfl (by first | exact Nat.le_of_ble_eq_true rfl | simp [x_crf, Value.category]) rfl rfl D_X9_add_0.2.2.1 ⟨(Nat.le_of_ble_eq_true rfl), (Nat.le_of_ble_eq_true rfl)⟩ (fun r_2 S_2 h_2 => ?_)
  obtain ⟨rfl, rfl⟩ := h_2
  refine x_eqi (oI none) (by rw [hnd]) ?_
  refine x_istore_n C (lv' := [_, _, _, _, _, _]) D_X9_add_0.2.2.2.1 rfl (Nat.le_of_ble_eq_true rfl) (by first | rfl | exact x_ok_q rfl) rfl ?_
  refine x_iload_n C D_X9_add_0.2.2.2.2.1 rfl rfl ?_
  refine x_iconst C (v := (-1)) D_X9_add_0.2.2.2.2.2.1 (by decide +kernel) ?_
  refine x_icmp_eq C 24 D_X9_add_0.2.2.2.2.2.2.1 (by decide) (fun c_8 => ?_) (fun c_8 => ?_)
  · skip
    first
    | have d_8 := cv_eq c_8 (by omega) (by omega)
    | skip
    refine x_iconst C (v := nI 0) D_X9_add_1.2.2.1 (by decide +kernel) ?_
    refine x_istore_n C (lv' := [_, _, _, _, _, _]) D_X9_add_1.2.2.2.1 rfl (Nat.le_of_ble_eq_true rfl) (by first | rfl | exact x_ok_q rfl) rfl ?_
    refine x_aload_n C D_X9_add_1.2.2.2.2.1 rfl rfl (by first | exact Or.inr ⟨_, rfl⟩ | exact va_rf_or _ | exact Or.inl rfl) ?_
    refine x_iload_n C D_X9_add_1.2.2.2.2.2.1 rfl rfl ?_
    refine x_sipush C (v := (-999)) D_X9_add_1.2.2.2.2.2.2.1 (by decide +kernel) ?_
    refine x_icmp_lt C 41 D_X9_add_1.2.2.2.2.2.2.2.1 (by decide) (fun c_31 => ?_) (fun c_31 => ?_)
    · skip
      refine x_iconst C (v := nI 1) D_X9_add_1.2.2.2.2.2.2.2.2.2.2.2 (by decide +kernel) ?_
      refine x_goto C 63 D_X9_add_2.1 (by decide) ?_
      refine x_callVz C (y := yX9_can) (c_X9_can l G m _ hM.1) (ci := 8) hM.1 (by decide) rfl rfl k_978 k_980 k_37 k_67 k_981 hd_X9_can ⟨(Nat.le_of_ble_eq_true rfl), (Nat.le_of_ble_eq_true rfl)⟩ rfl (by first | exact Nat.le_of_ble_eq_true rfl | simp [x_crf, Value.category]) rfl rfl D_X9_add_2.2.2.2.2.2.2.2.2.2.2.1 ⟨(Nat.le_of_ble_eq_true rfl), (Nat.le_of_ble_eq_true rfl)⟩ (fun r_63 S_63 h_63 => ?_)
      obtain ⟨rfl, rfl⟩ := h_63
      refine x_if_eq C 73 D_X9_add_2.2.2.2.2.2.2.2.2.2.2.2 (by decide) (fun c_66 => ?_) (fun c_66 => ?_)
      · skip
        first
        | have d_66 := cz_eq c_66 (by omega)
        | have d_66 := cb_eq c_66
        | skip
        refine x_iconst C (v := nI 0) D_X9_add_3.2.2.1 (by decide +kernel) ?_
        refine ret _ _ _ _ _ _ false rfl D_X9_add_3.2.2.2.1 (Nat.le_of_ble_eq_true rfl) (Nat.le_of_ble_eq_true rfl) rfl ?_
        exact ⟨rfl, rfl⟩
      · skip
        exact absurd c_66 (by decide)
    · skip
      refine x_iload_n C D_X9_add_1.2.2.2.2.2.2.2.2.1 rfl rfl ?_
      refine x_sipush C (v := nI 999) D_X9_add_1.2.2.2.2.2.2.2.2.2.1 (by decide +kernel) ?_
      refine x_icmp_le C 45 D_X9_add_1.2.2.2.2.2.2.2.2.2.2.1 (by decide) (fun c_38 => ?_) (fun c_38 => ?_)
      · skip
        rcases hx with h | h
        · exact absurd h c_31
        · exfalso; rw [i32_lt] at h; rw [i32_le] at c_38; omega
        --end
      · skip
        refine x_iconst C (v := nI 1) D_X9_add_1.2.2.2.2.2.2.2.2.2.2.2 (by decide +kernel) ?_
        refine x_goto C 63 D_X9_add_2.1 (by decide) ?_
        refine x_callVz C (y := yX9_can) (c_X9_can l G m _ hM.1) (ci := 8) hM.1 (by decide) rfl rfl k_978 k_980 k_37 k_67 k_981 hd_X9_can ⟨(Nat.le_of_ble_eq_true rfl), (Nat.le_of_ble_eq_true rfl)⟩ rfl (by first | exact Nat.le_of_ble_eq_true rfl | simp [x_crf, Value.category]) rfl rfl D_X9_add_2.2.2.2.2.2.2.2.2.2.2.1 ⟨(Nat.le_of_ble_eq_true rfl), (Nat.le_of_ble_eq_true rfl)⟩ (fun r_63 S_63 h_63 => ?_)
        obtain ⟨rfl, rfl⟩ := h_63
        refine x_if_eq C 73 D_X9_add_2.2.2.2.2.2.2.2.2.2.2.2 (by decide) (fun c_66 => ?_) (fun c_66 => ?_)
        · skip
          first
          | have d_66 := cz_eq c_66 (by omega)
          | have d_66 := cb_eq c_66
          | skip
          refine x_iconst C (v := nI 0) D_X9_add_3.2.2.1 (by decide +kernel) ?_
          refine ret _ _ _ _ _ _ false rfl D_X9_add_3.2.2.2.1 (Nat.le_of_ble_eq_true rfl) (Nat.le_of_ble_eq_true rfl) rfl ?_
          exact ⟨rfl, rfl⟩
        · skip
          exact absurd c_66 (by decide)
  · skip
    exact absurd c_8 (by decide)
abbrev rm_X9_addT : Room := { frames := 1, cells := 0, slots := 0, locals := 23 }
set_option maxHeartbeats 4000000 in
set_option maxRecDepth 100000 in
theorem c_X9_addT (l : Launch) (G : xG) {K N : Nat → Nat} {I : Nat → Nat → Int32} {Q : Nat → Nat → Option Nat} {J : Nat → Nat → Int64} (m n : Nat) (ar kc sp tu pt : Nat → Nat) (al : Nat → Bool) (c k : Nat) (hM : MZ K N Q m ar) (hK : KV I m ar n kc al sp tu pt) (hB : KB n kc sp tu pt) (hc : c < 1999) (hnd : lastF (fun i => decide (I (ar 5) i = cv1 c)) n = some k) (hal : al k = true) : XM l yX9_add cX9_add 6 (some .boolean) rm_X9_addT G Rz [.ref m, .int (cv1 c)] (K, N, I, Q, J) (fun r S1 => r = false ∧ S1 = (K, N, x_u2 I m 18 (nI 0), Q, J)) := by
  refine x_metz (lv := [_, _, _, _, _, _]) (by decide +kernel) (x_cc (by first | rfl | exact x_crf _) (x_cc (by first | rfl | exact x_crf _) x_cn)) (Nat.le_of_ble_eq_true rfl) rfl ?_
  intro pP eE sS mM aA bB hH cC Z C hini ret
  have hk9 := hM.1
  obtain ⟨hn, hn201, hk5, hk6, hk7, hk8, hk9_⟩ := hK
  have hkn := (lastF_lt hnd).1
  have h202 := hM.nk 6 (by decide)
  have hrg := rng_in hc
  refine x_aload_n C D_X9_add_0.1 rfl rfl (by first | exact Or.inr ⟨_, rfl⟩ | exact va_rf_or _ | exact Or.inl rfl) ?_
  refine x_iload_n C D_X9_add_0.2.1 rfl rfl ?_
  refine x_callVi C (y := yX9_nodeOf) (c_X9_nodeOf l G m n ar (cv1 c) hM hn (by omega)) (ci := 8) hM.1 (by decide) rfl rfl k_970 k_972 k_35 k_67 k_973 hd_X9_nodeOf ⟨(Nat.le_of_ble_eq_true rfl), (Nat.le_of_ble_eq_true rfl)⟩ rfl (by first | exact Nat.le_of_ble_eq_true rfl | simp [x_crf, Value.category]) rfl rfl D_X9_add_0.2.2.1 ⟨(Nat.le_of_ble_eq_true rfl), (Nat.le_of_ble_eq_true rfl)⟩ (fun r_2 S_2 h_2 => ?_)
  obtain ⟨rfl, rfl⟩ := h_2
  refine x_eqi (oI (some k)) (by rw [hnd]) ?_
  refine x_istore_n C (lv' := [_, _, _, _, _, _]) D_X9_add_0.2.2.2.1 rfl (Nat.le_of_ble_eq_true rfl) (by first | rfl | exact x_ok_q rfl) rfl ?_
  refine x_iload_n C D_X9_add_0.2.2.2.2.1 rfl rfl ?_
  refine x_iconst C (v := (-1)) D_X9_add_0.2.2.2.2.2.1 (by decide +kernel) ?_
  refine x_icmp_eq C 24 D_X9_add_0.2.2.2.2.2.2.1 (by decide) (fun c_8 => ?_) (fun c_8 => ?_)
  · skip
    exact absurd (oI_none c_8 (fun k hk => by cases hk; omega)) (by simp)
    --end
  · skip
    refine x_aload_n C D_X9_add_0.2.2.2.2.2.2.2.1 rfl rfl (by first | exact Or.inr ⟨_, rfl⟩ | exact va_rf_or _ | exact Or.inl rfl) ?_
    refine x_getQ C (ci := 8) (k0 := 6) (by assumption) (by decide) rfl (by decide) in_X9 k_908 rfl rfl D_X9_add_0.2.2.2.2.2.2.2.2.1 ?_
    refine x_eqr (hM.2.1 6 (by decide)).1 ?_
    refine x_iload_n C D_X9_add_0.2.2.2.2.2.2.2.2.2.1 rfl rfl ?_
    refine x_zald C _ (by first | assumption | exact (hM.2.1 _ (by decide)).2.1) rfl (by first | omega | (rw [hM.nk _ (by decide)]; omega) | (rw [hM.np _ (by decide)]; omega)) (by first | omega | (rw [hM.nk _ (by decide)]; omega) | (rw [hM.np _ (by decide)]; omega)) D_X9_add_0.2.2.2.2.2.2.2.2.2.2.1 ?_
    refine x_eqi _ (show I (ar 6) k = xb true by rw [hk6 k hkn, hal]) ?_
    refine x_if_eq C 24 D_X9_add_0.2.2.2.2.2.2.2.2.2.2.2 (by decide) (fun c_17 => ?_) (fun c_17 => ?_)
    · skip
      exact absurd c_17 (by decide)
    · skip
      first
      | have d_17 := cz_ne c_17 (by omega)
      | have d_17 := cb_ne c_17
      | skip
      refine x_iconst C (v := nI 1) D_X9_add_1.1 (by decide +kernel) ?_
      refine x_goto C 25 D_X9_add_1.2.1 (by decide) ?_
      refine x_istore_n C (lv' := [_, _, _, _, _, _]) D_X9_add_1.2.2.2.1 rfl (Nat.le_of_ble_eq_true rfl) (by first | rfl | exact x_ok_q rfl) rfl ?_
      refine x_aload_n C D_X9_add_1.2.2.2.2.1 rfl rfl (by first | exact Or.inr ⟨_, rfl⟩ | exact va_rf_or _ | exact Or.inl rfl) ?_
      refine x_iload_n C D_X9_add_1.2.2.2.2.2.1 rfl rfl ?_
      refine x_sipush C (v := (-999)) D_X9_add_1.2.2.2.2.2.2.1 (by decide +kernel) ?_
      refine x_icmp_lt C 41 D_X9_add_1.2.2.2.2.2.2.2.1 (by decide) (fun c_31 => ?_) (fun c_31 => ?_)
      · skip
        exact absurd c_31 hrg.1
        --end
      · skip
        refine x_iload_n C D_X9_add_1.2.2.2.2.2.2.2.2.1 rfl rfl ?_
        refine x_sipush C (v := nI 999) D_X9_add_1.2.2.2.2.2.2.2.2.2.1 (by decide +kernel) ?_
        refine x_icmp_le C 45 D_X9_add_1.2.2.2.2.2.2.2.2.2.2.1 (by decide) (fun c_38 => ?_) (fun c_38 => ?_)
        · skip
          refine x_iload_n C D_X9_add_2.2.1 rfl rfl ?_
          refine x_if_ne C 62 D_X9_add_2.2.2.1 (by decide) (fun c_46 => ?_) (fun c_46 => ?_)
          · skip
            first
            | have d_46 := cz_ne c_46 (by omega)
            | have d_46 := cb_ne c_46
            | skip
            refine x_iconst C (v := nI 0) D_X9_add_2.2.2.2.2.2.2.2.2.2.1 (by decide +kernel) ?_
            refine x_callVz C (y := yX9_can) (c_X9_can l G m _ hM.1) (ci := 8) hM.1 (by decide) rfl rfl k_978 k_980 k_37 k_67 k_981 hd_X9_can ⟨(Nat.le_of_ble_eq_true rfl), (Nat.le_of_ble_eq_true rfl)⟩ rfl (by first | exact Nat.le_of_ble_eq_true rfl | simp [x_crf, Value.category]) rfl rfl D_X9_add_2.2.2.2.2.2.2.2.2.2.2.1 ⟨(Nat.le_of_ble_eq_true rfl), (Nat.le_of_ble_eq_true rfl)⟩ (fun r_63 S_63 h_63 => ?_)
            obtain ⟨rfl, rfl⟩ := h_63
            refine x_if_eq C 73 D_X9_add_2.2.2.2.2.2.2.2.2.2.2.2 (by decide) (fun c_66 => ?_) (fun c_66 => ?_)
            · skip
              exact absurd c_66 (by decide)
            · skip
              first
              | have d_66 := cz_ne c_66 (by omega)
              | have d_66 := cb_ne c_66
              | skip
              refine x_iload_n C D_X9_add_3.1 rfl rfl ?_
              refine x_if_eq C 75 D_X9_add_3.2.1 (by decide) (fun c_70 => ?_) (fun c_70 => ?_)
              · skip
                exact absurd c_70 (by decide)
              · skip
                first
                | have d_70 := cz_ne c_70 (by omega)
                | have d_70 := cb_ne c_70
                | skip
                refine x_iconst C (v := nI 0) D_X9_add_3.2.2.1 (by decide +kernel) ?_
                refine ret _ _ _ _ _ _ false rfl D_X9_add_3.2.2.2.1 (Nat.le_of_ble_eq_true rfl) (Nat.le_of_ble_eq_true rfl) rfl ?_
                exact ⟨rfl, rfl⟩
          · skip
            exact absurd c_46 (by decide)
        · skip
          exact absurd hrg.2 c_38
          --end
abbrev rm_X9_addF : Room := { frames := 1, cells := 0, slots := 0, locals := 23 }
theorem hd_X9_living : yX9_living.cls ≠ "java/lang/invoke/MethodHandle" ∧ yX9_living.cls ≠ "java/lang/invoke/VarHandle" ∧ (parseMethodDescriptor yX9_living.desc).map (fun d => d.parameters.length) = some 0 := by decide +kernel
set_option maxHeartbeats 4000000 in
set_option maxRecDepth 100000 in
theorem c_X9_addF (l : Launch) (G : xG) {K N : Nat → Nat} {I : Nat → Nat → Int32} {Q : Nat → Nat → Option Nat} {J : Nat → Nat → Int64} (m n : Nat) (ar kc sp tu pt : Nat → Nat) (al : Nat → Bool) (c k : Nat) (hM : MZ K N Q m ar) (hK : KV I m ar n kc al sp tu pt) (hB : KB n kc sp tu pt) (hc : c < 1999) (hnd : lastF (fun i => decide (I (ar 5) i = cv1 c)) n = none) (hlv : cn al n = 100) : XM l yX9_add cX9_add 6 (some .boolean) rm_X9_addF G Rz [.ref m, .int (cv1 c)] (K, N, I, Q, J) (fun r S1 => r = false ∧ S1 = (K, N, x_u2 I m 18 (nI 2), Q, J)) := by
  refine x_metz (lv := [_, _, _, _, _, _]) (by decide +kernel) (x_cc (by first | rfl | exact x_crf _) (x_cc (by first | rfl | exact x_crf _) x_cn)) (Nat.le_of_ble_eq_true rfl) rfl ?_
  intro pP eE sS mM aA bB hH cC Z C hini ret
  have hk9 := hM.1
  obtain ⟨hn, hn201, hk5, hk6, hk7, hk8, hk9_⟩ := hK
  have hrg := rng_in hc
  refine x_aload_n C D_X9_add_0.1 rfl rfl (by first | exact Or.inr ⟨_, rfl⟩ | exact va_rf_or _ | exact Or.inl rfl) ?_
  refine x_iload_n C D_X9_add_0.2.1 rfl rfl ?_
  refine x_callVi C (y := yX9_nodeOf) (c_X9_nodeOf l G m n ar (cv1 c) hM hn (by omega)) (ci := 8) hM.1 (by decide) rfl rfl k_970 k_972 k_35 k_67 k_973 hd_X9_nodeOf ⟨(Nat.le_of_ble_eq_true rfl), (Nat.le_of_ble_eq_true rfl)⟩ rfl (by first | exact Nat.le_of_ble_eq_true rfl | simp [x_crf, Value.category]) rfl rfl D_X9_add_0.2.2.1 ⟨(Nat.le_of_ble_eq_true rfl), (Nat.le_of_ble_eq_true rfl)⟩ (fun r_2 S_2 h_2 => ?_)
  obtain ⟨rfl, rfl⟩ := h_2
  refine x_eqi (oI none) (by rw [hnd]) ?_
  refine x_istore_n C (lv' := [_, _, _, _, _, _]) D_X9_add_0.2.2.2.1 rfl (Nat.le_of_ble_eq_true rfl) (by first | rfl | exact x_ok_q rfl) rfl ?_
  refine x_iload_n C D_X9_add_0.2.2.2.2.1 rfl rfl ?_
  refine x_iconst C (v := (-1)) D_X9_add_0.2.2.2.2.2.1 (by decide +kernel) ?_
  refine x_icmp_eq C 24 D_X9_add_0.2.2.2.2.2.2.1 (by decide) (fun c_8 => ?_) (fun c_8 => ?_)
  · skip
    first
    | have d_8 := cv_eq c_8 (by omega) (by omega)
    | skip
    refine x_iconst C (v := nI 0) D_X9_add_1.2.2.1 (by decide +kernel) ?_
    refine x_istore_n C (lv' := [_, _, _, _, _, _]) D_X9_add_1.2.2.2.1 rfl (Nat.le_of_ble_eq_true rfl) (by first | rfl | exact x_ok_q rfl) rfl ?_
    refine x_aload_n C D_X9_add_1.2.2.2.2.1 rfl rfl (by first | exact Or.inr ⟨_, rfl⟩ | exact va_rf_or _ | exact Or.inl rfl) ?_
    refine x_iload_n C D_X9_add_1.2.2.2.2.2.1 rfl rfl ?_
    refine x_sipush C (v := (-999)) D_X9_add_1.2.2.2.2.2.2.1 (by decide +kernel) ?_
    refine x_icmp_lt C 41 D_X9_add_1.2.2.2.2.2.2.2.1 (by decide) (fun c_31 => ?_) (fun c_31 => ?_)
    · skip
      exact absurd c_31 hrg.1
      --end
    · skip
      refine x_iload_n C D_X9_add_1.2.2.2.2.2.2.2.2.1 rfl rfl ?_
      refine x_sipush C (v := nI 999) D_X9_add_1.2.2.2.2.2.2.2.2.2.1 (by decide +kernel) ?_
      refine x_icmp_le C 45 D_X9_add_1.2.2.2.2.2.2.2.2.2.2.1 (by decide) (fun c_38 => ?_) (fun c_38 => ?_)
      · skip
        refine x_iload_n C D_X9_add_2.2.1 rfl rfl ?_
        refine x_if_ne C 62 D_X9_add_2.2.2.1 (by decide) (fun c_46 => ?_) (fun c_46 => ?_)
        · skip
          exact absurd c_46 (by decide)
        · skip
          first
          | have d_46 := cz_eq c_46 (by omega)
          | have d_46 := cb_eq c_46
          | skip
          refine x_aload_n C D_X9_add_2.2.2.2.1 rfl rfl (by first | exact Or.inr ⟨_, rfl⟩ | exact va_rf_or _ | exact Or.inl rfl) ?_
          refine x_callVi C (y := yX9_living) (c_X9_living l G m n ar al hM hn (by omega) hk6) (ci := 8) hM.1 (by decide) rfl rfl k_974 k_976 k_36 k_67 k_977 hd_X9_living ⟨(Nat.le_of_ble_eq_true rfl), (Nat.le_of_ble_eq_true rfl)⟩ rfl (by first | exact Nat.le_of_ble_eq_true rfl | simp [x_crf, Value.category]) rfl rfl D_X9_add_2.2.2.2.2.1 ⟨(Nat.le_of_ble_eq_true rfl), (Nat.le_of_ble_eq_true rfl)⟩ (fun r_50 S_50 h_50 => ?_)
          obtain ⟨rfl, rfl⟩ := h_50
          refine x_bipush C (v := nI 100) D_X9_add_2.2.2.2.2.2.1 (by decide +kernel) ?_
          refine x_icmp_ne C 62 D_X9_add_2.2.2.2.2.2.2.1 (by decide) (fun c_55 => ?_) (fun c_55 => ?_)
          · skip
            first
            | have d_55 := cv_ne c_55 (by omega) (by omega)
            | skip
            exfalso; omega
            --end
          · skip
            first
            | have d_55 := cv_eq c_55 (by omega) (by omega)
            | skip
            refine x_iconst C (v := nI 2) D_X9_add_2.2.2.2.2.2.2.2.1 (by decide +kernel) ?_
            refine x_goto C 63 D_X9_add_2.2.2.2.2.2.2.2.2.1 (by decide) ?_
            refine x_callVz C (y := yX9_can) (c_X9_can l G m _ hM.1) (ci := 8) hM.1 (by decide) rfl rfl k_978 k_980 k_37 k_67 k_981 hd_X9_can ⟨(Nat.le_of_ble_eq_true rfl), (Nat.le_of_ble_eq_true rfl)⟩ rfl (by first | exact Nat.le_of_ble_eq_true rfl | simp [x_crf, Value.category]) rfl rfl D_X9_add_2.2.2.2.2.2.2.2.2.2.2.1 ⟨(Nat.le_of_ble_eq_true rfl), (Nat.le_of_ble_eq_true rfl)⟩ (fun r_63 S_63 h_63 => ?_)
            obtain ⟨rfl, rfl⟩ := h_63
            refine x_if_eq C 73 D_X9_add_2.2.2.2.2.2.2.2.2.2.2.2 (by decide) (fun c_66 => ?_) (fun c_66 => ?_)
            · skip
              first
              | have d_66 := cz_eq c_66 (by omega)
              | have d_66 := cb_eq c_66
              | skip
              refine x_iconst C (v := nI 0) D_X9_add_3.2.2.1 (by decide +kernel) ?_
              refine ret _ _ _ _ _ _ false rfl D_X9_add_3.2.2.2.1 (Nat.le_of_ble_eq_true rfl) (Nat.le_of_ble_eq_true rfl) rfl ?_
              exact ⟨rfl, rfl⟩
            · skip
              exact absurd c_66 (by decide)
      · skip
        exact absurd hrg.2 c_38
        --end
  · skip
    exact absurd c_8 (by decide)
abbrev rm_X9_addG : Room := { frames := 1, cells := 0, slots := 0, locals := 23 }
set_option maxHeartbeats 4000000 in
set_option maxRecDepth 100000 in
theorem c_X9_addG (l : Launch) (G : xG) {K N : Nat → Nat} {I : Nat → Nat → Int32} {Q : Nat → Nat → Option Nat} {J : Nat → Nat → Int64} (m n : Nat) (ar kc sp tu pt : Nat → Nat) (al : Nat → Bool) (c k : Nat) (hM : MZ K N Q m ar) (hK : KV I m ar n kc al sp tu pt) (hB : KB n kc sp tu pt) (hc : c < 1999) (hnd : lastF (fun i => decide (I (ar 5) i = cv1 c)) n = (some k)) (hal : al k = false) (hlv : cn al n = 100) : XM l yX9_add cX9_add 6 (some .boolean) rm_X9_addG G Rz [.ref m, .int (cv1 c)] (K, N, I, Q, J) (fun r S1 => r = false ∧ S1 = (K, N, x_u2 I m 18 (nI 2), Q, J)) := by
  refine x_metz (lv := [_, _, _, _, _, _]) (by decide +kernel) (x_cc (by first | rfl | exact x_crf _) (x_cc (by first | rfl | exact x_crf _) x_cn)) (Nat.le_of_ble_eq_true rfl) rfl ?_
  intro pP eE sS mM aA bB hH cC Z C hini ret
  have hk9 := hM.1
  obtain ⟨hn, hn201, hk5, hk6, hk7, hk8, hk9_⟩ := hK
  have hkn := (lastF_lt hnd).1
  have h202 := hM.nk 6 (by decide)
  have hrg := rng_in hc
  refine x_aload_n C D_X9_add_0.1 rfl rfl (by first | exact Or.inr ⟨_, rfl⟩ | exact va_rf_or _ | exact Or.inl rfl) ?_
  refine x_iload_n C D_X9_add_0.2.1 rfl rfl ?_
  refine x_callVi C (y := yX9_nodeOf) (c_X9_nodeOf l G m n ar (cv1 c) hM hn (by omega)) (ci := 8) hM.1 (by decide) rfl rfl k_970 k_972 k_35 k_67 k_973 hd_X9_nodeOf ⟨(Nat.le_of_ble_eq_true rfl), (Nat.le_of_ble_eq_true rfl)⟩ rfl (by first | exact Nat.le_of_ble_eq_true rfl | simp [x_crf, Value.category]) rfl rfl D_X9_add_0.2.2.1 ⟨(Nat.le_of_ble_eq_true rfl), (Nat.le_of_ble_eq_true rfl)⟩ (fun r_2 S_2 h_2 => ?_)
  obtain ⟨rfl, rfl⟩ := h_2
  refine x_eqi (oI (some k)) (by rw [hnd]) ?_
  refine x_istore_n C (lv' := [_, _, _, _, _, _]) D_X9_add_0.2.2.2.1 rfl (Nat.le_of_ble_eq_true rfl) (by first | rfl | exact x_ok_q rfl) rfl ?_
  refine x_iload_n C D_X9_add_0.2.2.2.2.1 rfl rfl ?_
  refine x_iconst C (v := (-1)) D_X9_add_0.2.2.2.2.2.1 (by decide +kernel) ?_
  refine x_icmp_eq C 24 D_X9_add_0.2.2.2.2.2.2.1 (by decide) (fun c_8 => ?_) (fun c_8 => ?_)
  · skip
    exact absurd (oI_none c_8 (fun k hk => by cases hk; omega)) (by simp)
    --end
  · skip
    refine x_aload_n C D_X9_add_0.2.2.2.2.2.2.2.1 rfl rfl (by first | exact Or.inr ⟨_, rfl⟩ | exact va_rf_or _ | exact Or.inl rfl) ?_
    refine x_getQ C (ci := 8) (k0 := 6) (by assumption) (by decide) rfl (by decide) in_X9 k_908 rfl rfl D_X9_add_0.2.2.2.2.2.2.2.2.1 ?_
    refine x_eqr (hM.2.1 6 (by decide)).1 ?_
    refine x_iload_n C D_X9_add_0.2.2.2.2.2.2.2.2.2.1 rfl rfl ?_
    refine x_zald C _ (by first | assumption | exact (hM.2.1 _ (by decide)).2.1) rfl (by first | omega | (rw [hM.nk _ (by decide)]; omega) | (rw [hM.np _ (by decide)]; omega)) (by first | omega | (rw [hM.nk _ (by decide)]; omega) | (rw [hM.np _ (by decide)]; omega)) D_X9_add_0.2.2.2.2.2.2.2.2.2.2.1 ?_
    refine x_eqi _ (show I (ar 6) k = xb false by rw [hk6 k hkn, hal]) ?_
    refine x_if_eq C 24 D_X9_add_0.2.2.2.2.2.2.2.2.2.2.2 (by decide) (fun c_17 => ?_) (fun c_17 => ?_)
    · skip
      first
      | have d_17 := cz_eq c_17 (by omega)
      | have d_17 := cb_eq c_17
      | skip
      refine x_iconst C (v := nI 0) D_X9_add_1.2.2.1 (by decide +kernel) ?_
      refine x_istore_n C (lv' := [_, _, _, _, _, _]) D_X9_add_1.2.2.2.1 rfl (Nat.le_of_ble_eq_true rfl) (by first | rfl | exact x_ok_q rfl) rfl ?_
      refine x_aload_n C D_X9_add_1.2.2.2.2.1 rfl rfl (by first | exact Or.inr ⟨_, rfl⟩ | exact va_rf_or _ | exact Or.inl rfl) ?_
      refine x_iload_n C D_X9_add_1.2.2.2.2.2.1 rfl rfl ?_
      refine x_sipush C (v := (-999)) D_X9_add_1.2.2.2.2.2.2.1 (by decide +kernel) ?_
      refine x_icmp_lt C 41 D_X9_add_1.2.2.2.2.2.2.2.1 (by decide) (fun c_31 => ?_) (fun c_31 => ?_)
      · skip
        exact absurd c_31 hrg.1
        --end
      · skip
        refine x_iload_n C D_X9_add_1.2.2.2.2.2.2.2.2.1 rfl rfl ?_
        refine x_sipush C (v := nI 999) D_X9_add_1.2.2.2.2.2.2.2.2.2.1 (by decide +kernel) ?_
        refine x_icmp_le C 45 D_X9_add_1.2.2.2.2.2.2.2.2.2.2.1 (by decide) (fun c_38 => ?_) (fun c_38 => ?_)
        · skip
          refine x_iload_n C D_X9_add_2.2.1 rfl rfl ?_
          refine x_if_ne C 62 D_X9_add_2.2.2.1 (by decide) (fun c_46 => ?_) (fun c_46 => ?_)
          · skip
            exact absurd c_46 (by decide)
          · skip
            first
            | have d_46 := cz_eq c_46 (by omega)
            | have d_46 := cb_eq c_46
            | skip
            refine x_aload_n C D_X9_add_2.2.2.2.1 rfl rfl (by first | exact Or.inr ⟨_, rfl⟩ | exact va_rf_or _ | exact Or.inl rfl) ?_
            refine x_callVi C (y := yX9_living) (c_X9_living l G m n ar al hM hn (by omega) hk6) (ci := 8) hM.1 (by decide) rfl rfl k_974 k_976 k_36 k_67 k_977 hd_X9_living ⟨(Nat.le_of_ble_eq_true rfl), (Nat.le_of_ble_eq_true rfl)⟩ rfl (by first | exact Nat.le_of_ble_eq_true rfl | simp [x_crf, Value.category]) rfl rfl D_X9_add_2.2.2.2.2.1 ⟨(Nat.le_of_ble_eq_true rfl), (Nat.le_of_ble_eq_true rfl)⟩ (fun r_50 S_50 h_50 => ?_)
            obtain ⟨rfl, rfl⟩ := h_50
            refine x_bipush C (v := nI 100) D_X9_add_2.2.2.2.2.2.1 (by decide +kernel) ?_
            refine x_icmp_ne C 62 D_X9_add_2.2.2.2.2.2.2.1 (by decide) (fun c_55 => ?_) (fun c_55 => ?_)
            · skip
              first
              | have d_55 := cv_ne c_55 (by omega) (by omega)
              | skip
              exfalso; omega
              --end
            · skip
              first
              | have d_55 := cv_eq c_55 (by omega) (by omega)
              | skip
              refine x_iconst C (v := nI 2) D_X9_add_2.2.2.2.2.2.2.2.1 (by decide +kernel) ?_
              refine x_goto C 63 D_X9_add_2.2.2.2.2.2.2.2.2.1 (by decide) ?_
              refine x_callVz C (y := yX9_can) (c_X9_can l G m _ hM.1) (ci := 8) hM.1 (by decide) rfl rfl k_978 k_980 k_37 k_67 k_981 hd_X9_can ⟨(Nat.le_of_ble_eq_true rfl), (Nat.le_of_ble_eq_true rfl)⟩ rfl (by first | exact Nat.le_of_ble_eq_true rfl | simp [x_crf, Value.category]) rfl rfl D_X9_add_2.2.2.2.2.2.2.2.2.2.2.1 ⟨(Nat.le_of_ble_eq_true rfl), (Nat.le_of_ble_eq_true rfl)⟩ (fun r_63 S_63 h_63 => ?_)
              obtain ⟨rfl, rfl⟩ := h_63
              refine x_if_eq C 73 D_X9_add_2.2.2.2.2.2.2.2.2.2.2.2 (by decide) (fun c_66 => ?_) (fun c_66 => ?_)
              · skip
                first
                | have d_66 := cz_eq c_66 (by omega)
                | have d_66 := cb_eq c_66
                | skip
                refine x_iconst C (v := nI 0) D_X9_add_3.2.2.1 (by decide +kernel) ?_
                refine ret _ _ _ _ _ _ false rfl D_X9_add_3.2.2.2.1 (Nat.le_of_ble_eq_true rfl) (Nat.le_of_ble_eq_true rfl) rfl ?_
                exact ⟨rfl, rfl⟩
              · skip
                exact absurd c_66 (by decide)
        · skip
          exact absurd hrg.2 c_38
          --end
    · skip
      exact absurd c_17 (by decide)
abbrev rm_X9_addD : Room := { frames := 7, cells := 0, slots := 0, locals := 155 }
theorem hd_X9_grows : yX9_grows.cls ≠ "java/lang/invoke/MethodHandle" ∧ yX9_grows.cls ≠ "java/lang/invoke/VarHandle" ∧ (parseMethodDescriptor yX9_grows.desc).map (fun d => d.parameters.length) = some 1 := by decide +kernel
set_option maxHeartbeats 4000000 in
set_option maxRecDepth 100000 in
theorem c_X9_addD (l : Launch) (G : xG) {K N : Nat → Nat} {I : Nat → Nat → Int32} {Q : Nat → Nat → Option Nat} {J : Nat → Nat → Int64} (m n : Nat) (ar kc sp tu pt : Nat → Nat) (al : Nat → Bool) (c k pl : Nat) (hM : MZ K N Q m ar) (hK : KV I m ar n kc al sp tu pt) (hB : KB n kc sp tu pt) (hc : c < 1999) (hnd : lastF (fun i => decide (I (ar 5) i = cv1 c)) n = some k) (hal : al k = false) (hlv : cn al n < 100) (hlf : leafW (fun p => lastF (fun i => decide (tu i = p)) n) (fun j => decide (kc k < kc j)) 28 1 = some pl) (hpl : pl < 2 ^ 24) (hBO : balOK n 26 (x_up tu k pl) (pl / 2)) : XM l yX9_add cX9_add 6 (some .boolean) rm_X9_addD G Rz [.ref m, .int (cv1 c)] (K, N, I, Q, J) (fun r S1 => r = true ∧ ∃ I1, S1 = (K, N, I1, Q, J) ∧ KV I1 m ar (n) (kc) (x_up al k true) (sp) ((balsM n 26 (x_up tu k pl) (pl / 2)).1) (pt) ∧ KFR I I1 m ar ∧ I1 m 18 = nI 0 ∧ I1 m 3 = I m 3 + nI (balsM n 26 (x_up tu k pl) (pl / 2)).2 ∧ (∀ j, j ≠ 18 → j ≠ 3 → I1 m j = I m j)) := by
  refine x_metz (lv := [_, _, _, _, _, _]) (by decide +kernel) (x_cc (by first | rfl | exact x_crf _) (x_cc (by first | rfl | exact x_crf _) x_cn)) (Nat.le_of_ble_eq_true rfl) rfl ?_
  intro pP eE sS mM aA bB hH cC Z C hini ret
  have hk9 := hM.1
  obtain ⟨hn, hn201, hk5, hk6, hk7, hk8, hk9_⟩ := hK
  have hkn := (lastF_lt hnd).1
  have h202 := hM.nk 6 (by decide)
  have hrg := rng_in hc
  have hm6 := hM.nm 6 (by decide)
  have hm8 := hM.nm 8 (by decide)
  have n86 := hM.ne 8 6 (by decide)
  have n56 := hM.ne 5 6 (by decide)
  have n76 := hM.ne 7 6 (by decide)
  have n96 := hM.ne 9 6 (by decide)
  have n58 := hM.ne 5 8 (by decide)
  have n78 := hM.ne 7 8 (by decide)
  have n98 := hM.ne 9 8 (by decide)
  have hm5 := hM.nm 5 (by decide)
  have hm7 := hM.nm 7 (by decide)
  have hm9 := hM.nm 9 (by decide)
  refine x_aload_n C D_X9_add_0.1 rfl rfl (by first | exact Or.inr ⟨_, rfl⟩ | exact va_rf_or _ | exact Or.inl rfl) ?_
  refine x_iload_n C D_X9_add_0.2.1 rfl rfl ?_
  refine x_callVi C (y := yX9_nodeOf) (c_X9_nodeOf l G m n ar (cv1 c) hM hn (by omega)) (ci := 8) hM.1 (by decide) rfl rfl k_970 k_972 k_35 k_67 k_973 hd_X9_nodeOf ⟨(Nat.le_of_ble_eq_true rfl), (Nat.le_of_ble_eq_true rfl)⟩ rfl (by first | exact Nat.le_of_ble_eq_true rfl | simp [x_crf, Value.category]) rfl rfl D_X9_add_0.2.2.1 ⟨(Nat.le_of_ble_eq_true rfl), (Nat.le_of_ble_eq_true rfl)⟩ (fun r_2 S_2 h_2 => ?_)
  obtain ⟨rfl, rfl⟩ := h_2
  refine x_eqi (oI (some k)) (by rw [hnd]) ?_
  refine x_istore_n C (lv' := [_, _, _, _, _, _]) D_X9_add_0.2.2.2.1 rfl (Nat.le_of_ble_eq_true rfl) (by first | rfl | exact x_ok_q rfl) rfl ?_
  refine x_iload_n C D_X9_add_0.2.2.2.2.1 rfl rfl ?_
  refine x_iconst C (v := (-1)) D_X9_add_0.2.2.2.2.2.1 (by decide +kernel) ?_
  refine x_icmp_eq C 24 D_X9_add_0.2.2.2.2.2.2.1 (by decide) (fun c_8 => ?_) (fun c_8 => ?_)
  · skip
    exact absurd (oI_none c_8 (fun k hk => by cases hk; omega)) (by simp)
    --end
  · skip
    refine x_aload_n C D_X9_add_0.2.2.2.2.2.2.2.1 rfl rfl (by first | exact Or.inr ⟨_, rfl⟩ | exact va_rf_or _ | exact Or.inl rfl) ?_
    refine x_getQ C (ci := 8) (k0 := 6) (by assumption) (by decide) rfl (by decide) in_X9 k_908 rfl rfl D_X9_add_0.2.2.2.2.2.2.2.2.1 ?_
    refine x_eqr (hM.2.1 6 (by decide)).1 ?_
    refine x_iload_n C D_X9_add_0.2.2.2.2.2.2.2.2.2.1 rfl rfl ?_
    refine x_zald C _ (by first | assumption | exact (hM.2.1 _ (by decide)).2.1) rfl (by first | omega | (rw [hM.nk _ (by decide)]; omega) | (rw [hM.np _ (by decide)]; omega)) (by first | omega | (rw [hM.nk _ (by decide)]; omega) | (rw [hM.np _ (by decide)]; omega)) D_X9_add_0.2.2.2.2.2.2.2.2.2.2.1 ?_
    refine x_eqi _ (show I (ar 6) k = xb false by rw [hk6 k hkn, hal]) ?_
    refine x_if_eq C 24 D_X9_add_0.2.2.2.2.2.2.2.2.2.2.2 (by decide) (fun c_17 => ?_) (fun c_17 => ?_)
    · skip
      first
      | have d_17 := cz_eq c_17 (by omega)
      | have d_17 := cb_eq c_17
      | skip
      refine x_iconst C (v := nI 0) D_X9_add_1.2.2.1 (by decide +kernel) ?_
      refine x_istore_n C (lv' := [_, _, _, _, _, _]) D_X9_add_1.2.2.2.1 rfl (Nat.le_of_ble_eq_true rfl) (by first | rfl | exact x_ok_q rfl) rfl ?_
      refine x_aload_n C D_X9_add_1.2.2.2.2.1 rfl rfl (by first | exact Or.inr ⟨_, rfl⟩ | exact va_rf_or _ | exact Or.inl rfl) ?_
      refine x_iload_n C D_X9_add_1.2.2.2.2.2.1 rfl rfl ?_
      refine x_sipush C (v := (-999)) D_X9_add_1.2.2.2.2.2.2.1 (by decide +kernel) ?_
      refine x_icmp_lt C 41 D_X9_add_1.2.2.2.2.2.2.2.1 (by decide) (fun c_31 => ?_) (fun c_31 => ?_)
      · skip
        exact absurd c_31 hrg.1
        --end
      · skip
        refine x_iload_n C D_X9_add_1.2.2.2.2.2.2.2.2.1 rfl rfl ?_
        refine x_sipush C (v := nI 999) D_X9_add_1.2.2.2.2.2.2.2.2.2.1 (by decide +kernel) ?_
        refine x_icmp_le C 45 D_X9_add_1.2.2.2.2.2.2.2.2.2.2.1 (by decide) (fun c_38 => ?_) (fun c_38 => ?_)
        · skip
          refine x_iload_n C D_X9_add_2.2.1 rfl rfl ?_
          refine x_if_ne C 62 D_X9_add_2.2.2.1 (by decide) (fun c_46 => ?_) (fun c_46 => ?_)
          · skip
            exact absurd c_46 (by decide)
          · skip
            first
            | have d_46 := cz_eq c_46 (by omega)
            | have d_46 := cb_eq c_46
            | skip
            refine x_aload_n C D_X9_add_2.2.2.2.1 rfl rfl (by first | exact Or.inr ⟨_, rfl⟩ | exact va_rf_or _ | exact Or.inl rfl) ?_
            refine x_callVi C (y := yX9_living) (c_X9_living l G m n ar al hM hn (by omega) hk6) (ci := 8) hM.1 (by decide) rfl rfl k_974 k_976 k_36 k_67 k_977 hd_X9_living ⟨(Nat.le_of_ble_eq_true rfl), (Nat.le_of_ble_eq_true rfl)⟩ rfl (by first | exact Nat.le_of_ble_eq_true rfl | simp [x_crf, Value.category]) rfl rfl D_X9_add_2.2.2.2.2.1 ⟨(Nat.le_of_ble_eq_true rfl), (Nat.le_of_ble_eq_true rfl)⟩ (fun r_50 S_50 h_50 => ?_)
            obtain ⟨rfl, rfl⟩ := h_50
            refine x_bipush C (v := nI 100) D_X9_add_2.2.2.2.2.2.1 (by decide +kernel) ?_
            have hcl9 := cn_le al n
            refine x_icmp_ne C 62 D_X9_add_2.2.2.2.2.2.2.1 (by decide) (fun c_55 => ?_) (fun c_55 => ?_)
            · skip
              first
              | have d_55 := cv_ne c_55 (by omega) (by omega)
              | skip
              refine x_iconst C (v := nI 0) D_X9_add_2.2.2.2.2.2.2.2.2.2.1 (by decide +kernel) ?_
              refine x_callVz C (y := yX9_can) (c_X9_can l G m _ hM.1) (ci := 8) hM.1 (by decide) rfl rfl k_978 k_980 k_37 k_67 k_981 hd_X9_can ⟨(Nat.le_of_ble_eq_true rfl), (Nat.le_of_ble_eq_true rfl)⟩ rfl (by first | exact Nat.le_of_ble_eq_true rfl | simp [x_crf, Value.category]) rfl rfl D_X9_add_2.2.2.2.2.2.2.2.2.2.2.1 ⟨(Nat.le_of_ble_eq_true rfl), (Nat.le_of_ble_eq_true rfl)⟩ (fun r_63 S_63 h_63 => ?_)
              obtain ⟨rfl, rfl⟩ := h_63
              obtain ⟨I2, eI2⟩ : ∃ I2, I2 = x_u2 I m 18 (nI 0) := ⟨_, rfl⟩
              rw [← eI2]
              have i2 : ∀ a, a ≠ m → I2 a = I a := fun a ha => by rw [eI2, x_u2_a _ _ ha]
              refine x_if_eq C 73 D_X9_add_2.2.2.2.2.2.2.2.2.2.2.2 (by decide) (fun c_66 => ?_) (fun c_66 => ?_)
              · skip
                exact absurd c_66 (by decide)
              · skip
                first
                | have d_66 := cz_ne c_66 (by omega)
                | have d_66 := cb_ne c_66
                | skip
                refine x_iload_n C D_X9_add_3.1 rfl rfl ?_
                refine x_if_eq C 75 D_X9_add_3.2.1 (by decide) (fun c_70 => ?_) (fun c_70 => ?_)
                · skip
                  first
                  | have d_70 := cz_eq c_70 (by omega)
                  | have d_70 := cb_eq c_70
                  | skip
                  refine x_iload_n C D_X9_add_3.2.2.2.2.1 rfl rfl ?_
                  refine x_iconst C (v := (-1)) D_X9_add_3.2.2.2.2.2.1 (by decide +kernel) ?_
                  refine x_icmp_eq C 94 D_X9_add_3.2.2.2.2.2.2.1 (by decide) (fun c_77 => ?_) (fun c_77 => ?_)
                  · skip
                    exact absurd (oI_none c_77 (fun k hk => by cases hk; omega)) (by simp)
                    --end
                  · skip
                    refine x_aload_n C D_X9_add_3.2.2.2.2.2.2.2.1 rfl rfl (by first | exact Or.inr ⟨_, rfl⟩ | exact va_rf_or _ | exact Or.inl rfl) ?_
                    refine x_getQ C (ci := 8) (k0 := 6) (by assumption) (by decide) rfl (by decide) in_X9 k_908 rfl rfl D_X9_add_3.2.2.2.2.2.2.2.2.1 ?_
                    refine x_eqr (hM.2.1 6 (by decide)).1 ?_
                    refine x_iload_n C D_X9_add_3.2.2.2.2.2.2.2.2.2.1 rfl rfl ?_
                    refine x_iconst C (v := nI 1) D_X9_add_3.2.2.2.2.2.2.2.2.2.2.1 (by decide +kernel) ?_
                    refine x_zast C _ true rfl (by first | assumption | exact (hM.2.1 _ (by decide)).2.1) rfl (by first | omega | (rw [hM.nk _ (by decide)]; omega) | (rw [hM.np _ (by decide)]; omega)) (by first | omega | (rw [hM.nk _ (by decide)]; omega) | (rw [hM.np _ (by decide)]; omega)) D_X9_add_3.2.2.2.2.2.2.2.2.2.2.2 (fun I3 eI3 => ?_)
                    have i3 : ∀ a, a ≠ m → a ≠ ar 6 → I3 a = I a := fun a h1 h2 => by rw [eI3, x_u2_a _ _ h2, i2 a h1]
                    have i3m : I3 m = I2 m := by rw [eI3, x_u2_a _ _ hm6.symm]
                    refine x_aload_n C D_X9_add_4.1 rfl rfl (by first | exact Or.inr ⟨_, rfl⟩ | exact va_rf_or _ | exact Or.inl rfl) ?_
                    refine x_iload_n C D_X9_add_4.2.1 rfl rfl ?_
                    refine x_callVv C (y := yX9_grows) (c_X9_grows l G m n k pl ar tu hM (by rw [i3m, eI2, x_u2_j _ _ (by omega)]; exact hn) (by omega) (fun i hi => ⟨by rw [i3 _ hm8 n86]; exact hk8 i hi, by have := (hB i hi).2.2.1; omega⟩) hkn (by
                      rw [← hlf]
                      refine leafW_congr (fun p j hj => ?_) _ _
                      have hjn := (lastF_lt hj).1
                      rw [i3 _ hm5 n56, hk5 k hkn, hk5 j hjn]
                      simp only [cv1_lt (hB k hkn).1 (hB j hjn).1]) (by omega) hBO) (ci := 8) hM.1 (by decide) rfl rfl k_982 k_984 k_38 k_67 k_985 hd_X9_grows ⟨(Nat.le_of_ble_eq_true rfl), (Nat.le_of_ble_eq_true rfl)⟩ rfl (by first | exact Nat.le_of_ble_eq_true rfl | simp [x_crf, Value.category]) rfl rfl D_X9_add_4.2.2.1 ⟨(Nat.le_of_ble_eq_true rfl), (Nat.le_of_ble_eq_true rfl)⟩ (fun _ S_89 h_89 => ?_)
                    obtain ⟨I4, rfl, f1, f2, f3⟩ := h_89
                    refine x_iconst C (v := nI 1) D_X9_add_4.2.2.2.1 (by decide +kernel) ?_
                    refine ret _ _ _ _ _ _ true rfl D_X9_add_4.2.2.2.2.1 (Nat.le_of_ble_eq_true rfl) (Nat.le_of_ble_eq_true rfl) rfl ?_
                    have g4 : ∀ a, a ≠ m → a ≠ ar 8 → I4 a = I3 a := fun a h1 h2 => by funext j; exact f3 a j (fun e => h2 e.1) (fun e => h1 e.1)
                    have g4m : ∀ j, j ≠ 3 → I4 m j = I3 m j := fun j hj => f3 m j (fun e => hm8 e.1.symm) (fun e => hj e.2)
                    refine ⟨rfl, I4, rfl, ⟨?_, hn201, fun i hi => ?_, fun i hi => ?_, fun i hi => ?_, f1, fun i hi => ?_⟩, fun a h1 h5 h6 h7 h8 h9 => ?_, ?_, ?_, fun j h1 h2 => ?_⟩
                    · rw [g4m 0 (by omega), i3m, eI2, x_u2_j _ _ (by omega)]; exact hn
                    · rw [g4 _ hm5 n58, i3 _ hm5 n56]; exact hk5 i hi
                    · rw [g4 _ hm6 n86.symm, eI3]
                      by_cases e : i = k
                      · subst e; rw [x_u2_s, x_up_s]; rfl
                      · rw [x_u2_j _ _ e, x_up_n _ _ e, i2 _ hm6]; exact hk6 i hi
                    · rw [g4 _ hm7 n78, i3 _ hm7 n76]; exact hk7 i hi
                    · rw [g4 _ hm9 n98, i3 _ hm9 n96]; exact hk9_ i hi
                    · rw [g4 a h1 h8, i3 a h1 h6]
                    · rw [g4m 18 (by omega), i3m, eI2, x_u2_s]
                    · rw [f2, i3m, eI2, x_u2_j _ _ (by omega)]
                    · rw [g4m j h2, i3m, eI2, x_u2_j _ _ h1]
                · skip
                  exact absurd c_70 (by decide)
            · skip
              first
              | have d_55 := cv_eq c_55 (by omega) (by omega)
              | skip
              exfalso; omega
              --end
        · skip
          exact absurd hrg.2 c_38
          --end
    · skip
      exact absurd c_17 (by decide)
