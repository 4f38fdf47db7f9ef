theorem KK1.bd {ow : xO} {S : xS} {t n : Nat} {c sp : Nat → Nat} {al : Nat → Bool} (h : KK1 ow S t n c al sp) (hn : n ≤ 200) : ∀ i, i < n → 0 < sp i ∧ sp i < 2 ^ 20 := by
  obtain ⟨cd, A, pq, pn, rw_, rn, h1, h2, h3, h4⟩ := h
  have := SI_ht h2 (by omega)
  exact fun i hi => ⟨h2.2.2.2.2.1 i hi, RT_lt h2.1 (k := 20) (by omega) i hi⟩
theorem KK7.bd {ow : xO} {S : xS} {t n : Nat} {c tu : Nat → Nat} (h : KK7 ow S t n c tu) : ∀ i, i < n → tu i < 2 ^ 20 := by
  obtain ⟨cd, A, pq, pn, h1, h2⟩ := h
  have := wb_ht h2.2.2.1 (by have := h2.2.2.2.1; omega)
  exact fun i hi => RT_lt h2.1 (k := 20) (by omega) i hi
theorem KK5.bd {ow : xO} {S : xS} {t n : Nat} {pc ps : Nat → Nat} {pa : Nat → Bool} (h : KK5 ow S t n pc pa ps) : ∀ i, i < n → pc i < 10000 ∧ 0 < ps i ∧ ps i < 2 ^ 20 := by
  have h9 := h.kc.2.2
  obtain ⟨cd, A, pq, pn, rw_, rn, h1, h2, h3, h4⟩ := h
  have := PI_ht h2 (by omega)
  exact fun i hi => ⟨h2.2.2.2.2.2.2 i hi, h2.2.2.2.2.1 i hi, RT_lt h2.1 (k := 20) (by omega) i hi⟩
theorem ni_m1 {j : Nat} (h : j < 1000) : ¬ nI j = -1 := oI_nn j h
theorem dep_b {p : Nat} (h : p < 2 ^ 20) : dep p < 1000 := by have := dep_lt h (by omega); omega
abbrev rm_X8_averageDepth : Room := { frames := 44, cells := 0, slots := 0, locals := 942 }
theorem hd_X2_sumOfDepths : yX2_sumOfDepths.cls ≠ "java/lang/invoke/MethodHandle" ∧ yX2_sumOfDepths.cls ≠ "java/lang/invoke/VarHandle" ∧ (parseMethodDescriptor yX2_sumOfDepths.desc).map (fun d => d.parameters.length) = some 0 := by decide +kernel
theorem hu_X2_sumOfDepths : "ScapegoatSpur$LazyTree" ≠ "java/lang/invoke/MethodHandle" ∧ "ScapegoatSpur$LazyTree" ≠ "java/lang/invoke/VarHandle" ∧ (parseMethodDescriptor "()I").map (fun d => d.parameters.length) = some 0 := by decide +kernel
set_option maxHeartbeats 4000000 in
set_option maxRecDepth 100000 in
theorem c_X8_averageDepth (l : Launch) (G : xG) {K N : Nat → Nat} {I : Nat → Nat → Int32} {Q : Nat → Nat → Option Nat} {J : Nat → Nat → Int64} (ow : xO) (x n m : Nat) (c : Nat → Nat) (al : Nat → Bool) (sp tu pt pc ps : Nat → Nat) (pa : Nat → Bool) (r d u g w : Int32) (hS : SY ow (K, N, I, Q, J) x n c al sp tu pt m pc pa ps r d u g w)  : XM l yX8_averageDepth cX8_averageDepth 2 (some .float) rm_X8_averageDepth G Rf [.ref x] (K, N, I, Q, J) (fun r_ S1 => r_ = avgF (smd sp n) n ∧ S1 = (K, N, I, Q, J)) := by
  refine x_metf (lv := [_, _]) (by decide +kernel) (x_cc (by first | rfl | exact x_crf _) x_cn) (Nat.le_of_ble_eq_true rfl) rfl ?_
  intro pP eE sS mM aA bB hH cC Z C hini ret
  obtain ⟨t1, t7, t6, t5, hX0, H1, H7, H6, H5, hE0, hn, hb⟩ := id hS
  obtain ⟨hx, hox, hq1, hq7, hq6, hq5⟩ := id hX0
  obtain ⟨e1, e2, e3, e4, e5⟩ := id hE0
  have hx : K x = 8 := hx
  have hq1 : Q x 0 = some t1 := hq1
  have hq7 : Q x 1 = some t7 := hq7
  have hq6 : Q x 2 = some t6 := hq6
  have hq5 : Q x 3 = some t5 := hq5
  have kt1 : K t1 = 2 := H1.kc.1
  have kt7 : K t7 = 7 := H7.kc
  have kt6 : K t6 = 6 := H6.kc
  have kt5 : K t5 = 5 := H5.kc.1
  have l1 : I t1 3 = nI (cn al n) := H1.kc.2
  have l5 : I t5 3 = nI (cn pa m) := H5.kc.2.1
  have hm120 := H5.kc.2.2
  have l6 : I t6 1 = nI n := H6.cnt.1
  have l62 : I t6 2 = nI (cn al n) := H6.cnt.2.1
  have hup := H6.cnt.2.2.1
  have hcl := cn_le al n
  have hcm := cn_le pa m
  have e1 : I t1 4 = r := e1
  have e2 : I t1 5 = d := e2
  have e3 : I t7 2 = u := e3
  have e4 : I t6 3 = g := e4
  have e5 : I t5 4 = w := e5
  refine x_aload_n C D_X8_averageDepth_0.1 rfl rfl (by first | exact Or.inr ⟨_, rfl⟩ | exact va_rf_or _ | exact Or.inl rfl) ?_
  refine x_getQ C (ci := 7) (k0 := 0) hx (by decide) rfl (by decide) in_X8 k_179 rfl rfl D_X8_averageDepth_0.2.1 ?_
  refine x_eqr hq1 ?_
  refine x_callUi C (x := ⟨"ScapegoatSpur$KeyTree", "nodeCount", "()I"⟩) (y := yX2_nodeCount) (owner := "ScapegoatSpur$LazyTree") (k1_nodes l G H1 hn) (ci := 1) kt1 (by decide) rfl k_362 k_363 k_365 k_242 k_61 k_246 rfl hu_X2_nodeCount ⟨(Nat.le_of_ble_eq_true rfl), (Nat.le_of_ble_eq_true rfl)⟩ rfl (by first | exact Nat.le_of_ble_eq_true rfl | simp [x_crf, Value.category]) rfl rfl D_X8_averageDepth_0.2.2.1 ⟨(Nat.le_of_ble_eq_true rfl), (Nat.le_of_ble_eq_true rfl)⟩ (fun r_4 S_4 h_4 => ?_)
  obtain ⟨rfl, rfl⟩ := h_4
  refine x_istore_n C (lv' := [_, _]) D_X8_averageDepth_0.2.2.2.1 rfl (Nat.le_of_ble_eq_true rfl) (by first | rfl | exact x_ok_q rfl) rfl ?_
  refine x_iload_n C D_X8_averageDepth_0.2.2.2.2.1 rfl rfl ?_
  refine x_if_gt C 14 D_X8_averageDepth_0.2.2.2.2.2.1 (by decide) (fun c_9 => ?_) (fun c_9 => ?_)
  · skip
    first
    | have d_9 := cz_gt c_9 (by omega)
    | skip
    refine x_aload_n C D_X8_averageDepth_0.2.2.2.2.2.2.2.2.1 rfl rfl (by first | exact Or.inr ⟨_, rfl⟩ | exact va_rf_or _ | exact Or.inl rfl) ?_
    refine x_getQ C (ci := 7) (k0 := 0) hx (by decide) rfl (by decide) in_X8 k_179 rfl rfl D_X8_averageDepth_0.2.2.2.2.2.2.2.2.2.1 ?_
    refine x_eqr hq1 ?_
    refine x_callUi C (x := ⟨"ScapegoatSpur$KeyTree", "sumOfDepths", "()I"⟩) (y := yX2_sumOfDepths) (owner := "ScapegoatSpur$LazyTree") (k1_sum l G H1 hn) (ci := 1) kt1 (by decide) rfl k_415 k_416 k_418 k_419 k_61 k_420 rfl hu_X2_sumOfDepths ⟨(Nat.le_of_ble_eq_true rfl), (Nat.le_of_ble_eq_true rfl)⟩ rfl (by first | exact Nat.le_of_ble_eq_true rfl | simp [x_crf, Value.category]) rfl rfl D_X8_averageDepth_0.2.2.2.2.2.2.2.2.2.2.1 ⟨(Nat.le_of_ble_eq_true rfl), (Nat.le_of_ble_eq_true rfl)⟩ (fun r_18 S_18 h_18 => ?_)
    obtain ⟨rfl, rfl⟩ := h_18
    refine x_i2f C D_X8_averageDepth_0.2.2.2.2.2.2.2.2.2.2.2 ?_
    refine x_iload_n C D_X8_averageDepth_1.1 rfl rfl ?_
    refine x_i2f C D_X8_averageDepth_1.2.1 ?_
    refine x_fdiv C D_X8_averageDepth_1.2.2.1 (fl_avg _ _ (fun e => absurd (cz_eq e (by omega)) (by omega))) ?_
    refine ret _ _ _ _ _ _ rfl D_X8_averageDepth_1.2.2.2 (Nat.le_of_ble_eq_true rfl) (Nat.le_of_ble_eq_true rfl) ?_
    exact ⟨by unfold avgF; rw [if_neg (by omega)], rfl⟩
  · skip
    first
    | have d_9 := cz_ngt c_9 (by omega)
    | skip
    refine x_fconst0 C D_X8_averageDepth_0.2.2.2.2.2.2.1 ?_
    refine ret _ _ _ _ _ _ rfl D_X8_averageDepth_0.2.2.2.2.2.2.2.1 (Nat.le_of_ble_eq_true rfl) (Nat.le_of_ble_eq_true rfl) ?_
    exact ⟨by unfold avgF; rw [if_pos (by omega)], rfl⟩
abbrev rm_X8_containsY : Room := { frames := 2, cells := 0, slots := 0, locals := 44 }
theorem hd_X6_holds : yX6_holds.cls ≠ "java/lang/invoke/MethodHandle" ∧ yX6_holds.cls ≠ "java/lang/invoke/VarHandle" ∧ (parseMethodDescriptor yX6_holds.desc).map (fun d => d.parameters.length) = some 1 := by decide +kernel
set_option maxHeartbeats 4000000 in
set_option maxRecDepth 100000 in
theorem c_X8_containsY (l : Launch) (G : xG) {K N : Nat → Nat} {I : Nat → Nat → Int32} {Q : Nat → Nat → Option Nat} {J : Nat → Nat → Int64} (ow : xO) (x n m : Nat) (c : Nat → Nat) (al : Nat → Bool) (sp tu pt pc ps : Nat → Nat) (pa : Nat → Bool) (r d u g w : Int32) (k : Nat) (hS : SY ow (K, N, I, Q, J) x n c al sp tu pt m pc pa ps r d u g w) (hk : k < n)  : XM l yX8_contains cX8_contains 2 (some .boolean) rm_X8_containsY G Rz [.ref x, .int (cv1 (c k))] (K, N, I, Q, J) (fun r_ S1 => r_ = al k ∧ S1 = (K, N, I, Q, J)) := by
  refine x_metz (lv := [_, _]) (by decide +kernel) (x_cc (by first | rfl | exact x_crf _) (x_cc (by first | rfl | exact x_crf _) x_cn)) (Nat.le_of_ble_eq_true rfl) rfl ?_
  intro pP eE sS mM aA bB hH cC Z C hini ret
  obtain ⟨t1, t7, t6, t5, hX0, H1, H7, H6, H5, hE0, hn, hb⟩ := id hS
  obtain ⟨hx, hox, hq1, hq7, hq6, hq5⟩ := id hX0
  obtain ⟨e1, e2, e3, e4, e5⟩ := id hE0
  have hx : K x = 8 := hx
  have hq1 : Q x 0 = some t1 := hq1
  have hq7 : Q x 1 = some t7 := hq7
  have hq6 : Q x 2 = some t6 := hq6
  have hq5 : Q x 3 = some t5 := hq5
  have kt1 : K t1 = 2 := H1.kc.1
  have kt7 : K t7 = 7 := H7.kc
  have kt6 : K t6 = 6 := H6.kc
  have kt5 : K t5 = 5 := H5.kc.1
  have l1 : I t1 3 = nI (cn al n) := H1.kc.2
  have l5 : I t5 3 = nI (cn pa m) := H5.kc.2.1
  have hm120 := H5.kc.2.2
  have l6 : I t6 1 = nI n := H6.cnt.1
  have l62 : I t6 2 = nI (cn al n) := H6.cnt.2.1
  have hup := H6.cnt.2.2.1
  have hcl := cn_le al n
  have hcm := cn_le pa m
  have e1 : I t1 4 = r := e1
  have e2 : I t1 5 = d := e2
  have e3 : I t7 2 = u := e3
  have e4 : I t6 3 = g := e4
  have e5 : I t5 4 = w := e5
  refine x_aload_n C D_X8_contains_0.1 rfl rfl (by first | exact Or.inr ⟨_, rfl⟩ | exact va_rf_or _ | exact Or.inl rfl) ?_
  refine x_getQ C (ci := 7) (k0 := 2) hx (by decide) rfl (by decide) in_X8 k_181 rfl rfl D_X8_contains_0.2.1 ?_
  refine x_eqr hq6 ?_
  refine x_iload_n C D_X8_contains_0.2.2.1 rfl rfl ?_
  refine x_callVz C (y := yX6_holds) (k6_holdsY l G H6 hn hk (hb k hk)) (ci := 5) kt6 (by decide) rfl rfl k_196 k_197 k_198 k_65 k_199 hd_X6_holds ⟨(Nat.le_of_ble_eq_true rfl), (Nat.le_of_ble_eq_true rfl)⟩ rfl (by first | exact Nat.le_of_ble_eq_true rfl | simp [x_crf, Value.category]) rfl rfl D_X8_contains_0.2.2.2.1 ⟨(Nat.le_of_ble_eq_true rfl), (Nat.le_of_ble_eq_true rfl)⟩ (fun r_5 S_5 h_5 => ?_)
  obtain ⟨rfl, rfl⟩ := h_5
  refine ret _ _ _ _ _ _ (al k) rfl D_X8_contains_0.2.2.2.2 (Nat.le_of_ble_eq_true rfl) (Nat.le_of_ble_eq_true rfl) rfl ?_
  exact ⟨rfl, rfl⟩
abbrev rm_X8_containsN : Room := { frames := 2, cells := 0, slots := 0, locals := 44 }
set_option maxHeartbeats 4000000 in
set_option maxRecDepth 100000 in
theorem c_X8_containsN (l : Launch) (G : xG) {K N : Nat → Nat} {I : Nat → Nat → Int32} {Q : Nat → Nat → Option Nat} {J : Nat → Nat → Int64} (ow : xO) (x n m : Nat) (c : Nat → Nat) (al : Nat → Bool) (sp tu pt pc ps : Nat → Nat) (pa : Nat → Bool) (r d u g w : Int32) (y : Int32) (hS : SY ow (K, N, I, Q, J) x n c al sp tu pt m pc pa ps r d u g w) (hno : ∀ i, i < n → ¬ cv1 (c i) = y)  : XM l yX8_contains cX8_contains 2 (some .boolean) rm_X8_containsN G Rz [.ref x, .int y] (K, N, I, Q, J) (fun r_ S1 => r_ = false ∧ S1 = (K, N, I, Q, J)) := by
  refine x_metz (lv := [_, _]) (by decide +kernel) (x_cc (by first | rfl | exact x_crf _) (x_cc (by first | rfl | exact x_crf _) x_cn)) (Nat.le_of_ble_eq_true rfl) rfl ?_
  intro pP eE sS mM aA bB hH cC Z C hini ret
  obtain ⟨t1, t7, t6, t5, hX0, H1, H7, H6, H5, hE0, hn, hb⟩ := id hS
  obtain ⟨hx, hox, hq1, hq7, hq6, hq5⟩ := id hX0
  obtain ⟨e1, e2, e3, e4, e5⟩ := id hE0
  have hx : K x = 8 := hx
  have hq1 : Q x 0 = some t1 := hq1
  have hq7 : Q x 1 = some t7 := hq7
  have hq6 : Q x 2 = some t6 := hq6
  have hq5 : Q x 3 = some t5 := hq5
  have kt1 : K t1 = 2 := H1.kc.1
  have kt7 : K t7 = 7 := H7.kc
  have kt6 : K t6 = 6 := H6.kc
  have kt5 : K t5 = 5 := H5.kc.1
  have l1 : I t1 3 = nI (cn al n) := H1.kc.2
  have l5 : I t5 3 = nI (cn pa m) := H5.kc.2.1
  have hm120 := H5.kc.2.2
  have l6 : I t6 1 = nI n := H6.cnt.1
  have l62 : I t6 2 = nI (cn al n) := H6.cnt.2.1
  have hup := H6.cnt.2.2.1
  have hcl := cn_le al n
  have hcm := cn_le pa m
  have e1 : I t1 4 = r := e1
  have e2 : I t1 5 = d := e2
  have e3 : I t7 2 = u := e3
  have e4 : I t6 3 = g := e4
  have e5 : I t5 4 = w := e5
  refine x_aload_n C D_X8_contains_0.1 rfl rfl (by first | exact Or.inr ⟨_, rfl⟩ | exact va_rf_or _ | exact Or.inl rfl) ?_
  refine x_getQ C (ci := 7) (k0 := 2) hx (by decide) rfl (by decide) in_X8 k_181 rfl rfl D_X8_contains_0.2.1 ?_
  refine x_eqr hq6 ?_
  refine x_iload_n C D_X8_contains_0.2.2.1 rfl rfl ?_
  refine x_callVz C (y := yX6_holds) (k6_holdsN l G H6 hn hno) (ci := 5) kt6 (by decide) rfl rfl k_196 k_197 k_198 k_65 k_199 hd_X6_holds ⟨(Nat.le_of_ble_eq_true rfl), (Nat.le_of_ble_eq_true rfl)⟩ rfl (by first | exact Nat.le_of_ble_eq_true rfl | simp [x_crf, Value.category]) rfl rfl D_X8_contains_0.2.2.2.1 ⟨(Nat.le_of_ble_eq_true rfl), (Nat.le_of_ble_eq_true rfl)⟩ (fun r_5 S_5 h_5 => ?_)
  obtain ⟨rfl, rfl⟩ := h_5
  refine ret _ _ _ _ _ _ false rfl D_X8_contains_0.2.2.2.2 (Nat.le_of_ble_eq_true rfl) (Nat.le_of_ble_eq_true rfl) rfl ?_
  exact ⟨rfl, rfl⟩
abbrev rm_X8_rank : Room := { frames := 1, cells := 0, slots := 0, locals := 23 }
theorem hd_X6_livingBelow : yX6_livingBelow.cls ≠ "java/lang/invoke/MethodHandle" ∧ yX6_livingBelow.cls ≠ "java/lang/invoke/VarHandle" ∧ (parseMethodDescriptor yX6_livingBelow.desc).map (fun d => d.parameters.length) = some 1 := by decide +kernel
set_option maxHeartbeats 4000000 in
set_option maxRecDepth 100000 in
theorem c_X8_rank (l : Launch) (G : xG) {K N : Nat → Nat} {I : Nat → Nat → Int32} {Q : Nat → Nat → Option Nat} {J : Nat → Nat → Int64} (ow : xO) (x n m : Nat) (c : Nat → Nat) (al : Nat → Bool) (sp tu pt pc ps : Nat → Nat) (pa : Nat → Bool) (r d u g w : Int32) (y : Int32) (hS : SY ow (K, N, I, Q, J) x n c al sp tu pt m pc pa ps r d u g w)  : XM l yX8_rank cX8_rank 2 (some .int) rm_X8_rank G Ri [.ref x, .int y] (K, N, I, Q, J) (fun r_ S1 => r_ = nI (cn (fun i => al i && decide (cv1 (c i) < y)) n) ∧ S1 = (K, N, I, Q, J)) := by
  refine x_meti (lv := [_, _]) (by decide +kernel) (x_cc (by first | rfl | exact x_crf _) (x_cc (by first | rfl | exact x_crf _) x_cn)) (Nat.le_of_ble_eq_true rfl) rfl ?_
  intro pP eE sS mM aA bB hH cC Z C hini ret
  obtain ⟨t1, t7, t6, t5, hX0, H1, H7, H6, H5, hE0, hn, hb⟩ := id hS
  obtain ⟨hx, hox, hq1, hq7, hq6, hq5⟩ := id hX0
  obtain ⟨e1, e2, e3, e4, e5⟩ := id hE0
  have hx : K x = 8 := hx
  have hq1 : Q x 0 = some t1 := hq1
  have hq7 : Q x 1 = some t7 := hq7
  have hq6 : Q x 2 = some t6 := hq6
  have hq5 : Q x 3 = some t5 := hq5
  have kt1 : K t1 = 2 := H1.kc.1
  have kt7 : K t7 = 7 := H7.kc
  have kt6 : K t6 = 6 := H6.kc
  have kt5 : K t5 = 5 := H5.kc.1
  have l1 : I t1 3 = nI (cn al n) := H1.kc.2
  have l5 : I t5 3 = nI (cn pa m) := H5.kc.2.1
  have hm120 := H5.kc.2.2
  have l6 : I t6 1 = nI n := H6.cnt.1
  have l62 : I t6 2 = nI (cn al n) := H6.cnt.2.1
  have hup := H6.cnt.2.2.1
  have hcl := cn_le al n
  have hcm := cn_le pa m
  have e1 : I t1 4 = r := e1
  have e2 : I t1 5 = d := e2
  have e3 : I t7 2 = u := e3
  have e4 : I t6 3 = g := e4
  have e5 : I t5 4 = w := e5
  refine x_aload_n C D_X8_rank_0.1 rfl rfl (by first | exact Or.inr ⟨_, rfl⟩ | exact va_rf_or _ | exact Or.inl rfl) ?_
  refine x_getQ C (ci := 7) (k0 := 2) hx (by decide) rfl (by decide) in_X8 k_181 rfl rfl D_X8_rank_0.2.1 ?_
  refine x_eqr hq6 ?_
  refine x_iload_n C D_X8_rank_0.2.2.1 rfl rfl ?_
  refine x_callVi C (y := yX6_livingBelow) (k6_rank l G H6 hn hb) (ci := 5) kt6 (by decide) rfl rfl k_354 k_355 k_356 k_65 k_357 hd_X6_livingBelow ⟨(Nat.le_of_ble_eq_true rfl), (Nat.le_of_ble_eq_true rfl)⟩ rfl (by first | exact Nat.le_of_ble_eq_true rfl | simp [x_crf, Value.category]) rfl rfl D_X8_rank_0.2.2.2.1 ⟨(Nat.le_of_ble_eq_true rfl), (Nat.le_of_ble_eq_true rfl)⟩ (fun r_5 S_5 h_5 => ?_)
  obtain ⟨rfl, rfl⟩ := h_5
  refine ret _ _ _ _ _ _ rfl D_X8_rank_0.2.2.2.2 (Nat.le_of_ble_eq_true rfl) (Nat.le_of_ble_eq_true rfl) ?_
  exact ⟨rfl, rfl⟩
abbrev rm_X8_keyAtY : Room := { frames := 6, cells := 1, slots := 6, locals := 90 }
theorem hd_X6_livingWithRank : yX6_livingWithRank.cls ≠ "java/lang/invoke/MethodHandle" ∧ yX6_livingWithRank.cls ≠ "java/lang/invoke/VarHandle" ∧ (parseMethodDescriptor yX6_livingWithRank.desc).map (fun d => d.parameters.length) = some 1 := by decide +kernel
set_option maxHeartbeats 4000000 in
set_option maxRecDepth 100000 in
theorem c_X8_keyAtY (l : Launch) (G : xG) {K N : Nat → Nat} {I : Nat → Nat → Int32} {Q : Nat → Nat → Option Nat} {J : Nat → Nat → Int64} (ow : xO) (x n m : Nat) (c : Nat → Nat) (al : Nat → Bool) (sp tu pt pc ps : Nat → Nat) (pa : Nat → Bool) (r d u g w : Int32) (j : Nat) (hlt : l.stackTraces = false) (hS : SY ow (K, N, I, Q, J) x n c al sp tu pt m pc pa ps r d u g w) (hj : j < cn al n)  : XMT l yX8_keyAt cX8_keyAt 3 (some .int) rm_X8_keyAtY G Ri [.ref x, .int (nI j)] (K, N, I, Q, J) (fun r_ S1 => r_ = cv1 (c (selF al n j)) ∧ ∃ ow1, FR8 ow ow1 (K, N, I, Q, J) S1 ∧ SY ow1 S1 x n c al sp tu pt m pc pa ps r d u g w) (fun _ _ => False) := by
  refine x_metTi (lv := [_, _, _]) hlt rfl ⟨(Nat.le_of_ble_eq_true rfl), (Nat.le_of_ble_eq_true rfl)⟩ (by decide +kernel) (x_cc (by first | rfl | exact x_crf _) (x_cc (by first | rfl | exact x_crf _) x_cn)) (Nat.le_of_ble_eq_true rfl) rfl ?_
  intro pP eE sS mM aA bB hH cC Z C hini ret thr
  obtain ⟨t1, t7, t6, t5, hX0, H1, H7, H6, H5, hE0, hn, hb⟩ := id hS
  obtain ⟨hx, hox, hq1, hq7, hq6, hq5⟩ := id hX0
  obtain ⟨e1, e2, e3, e4, e5⟩ := id hE0
  have hx : K x = 8 := hx
  have hq1 : Q x 0 = some t1 := hq1
  have hq7 : Q x 1 = some t7 := hq7
  have hq6 : Q x 2 = some t6 := hq6
  have hq5 : Q x 3 = some t5 := hq5
  have kt1 : K t1 = 2 := H1.kc.1
  have kt7 : K t7 = 7 := H7.kc
  have kt6 : K t6 = 6 := H6.kc
  have kt5 : K t5 = 5 := H5.kc.1
  have l1 : I t1 3 = nI (cn al n) := H1.kc.2
  have l5 : I t5 3 = nI (cn pa m) := H5.kc.2.1
  have hm120 := H5.kc.2.2
  have l6 : I t6 1 = nI n := H6.cnt.1
  have l62 : I t6 2 = nI (cn al n) := H6.cnt.2.1
  have hup := H6.cnt.2.2.1
  have hcl := cn_le al n
  have hcm := cn_le pa m
  have e1 : I t1 4 = r := e1
  have e2 : I t1 5 = d := e2
  have e3 : I t7 2 = u := e3
  have e4 : I t6 3 = g := e4
  have e5 : I t5 4 = w := e5
  refine x_aload_n C D_X8_keyAt_0.1 rfl rfl (by first | exact Or.inr ⟨_, rfl⟩ | exact va_rf_or _ | exact Or.inl rfl) ?_
  refine x_getQ C (ci := 7) (k0 := 2) hx (by decide) rfl (by decide) in_X8 k_181 rfl rfl D_X8_keyAt_0.2.1 ?_
  refine x_eqr hq6 ?_
  refine x_iload_n C D_X8_keyAt_0.2.2.1 rfl rfl ?_
  refine x_callVq C (y := yX6_livingWithRank) (k6_nthY l G H6 hn hj) (ci := 5) kt6 (by decide) rfl rfl k_720 k_721 k_722 k_65 k_723 hd_X6_livingWithRank ⟨(Nat.le_of_ble_eq_true rfl), (Nat.le_of_ble_eq_true rfl)⟩ rfl (by first | exact Nat.le_of_ble_eq_true rfl | simp [x_crf, Value.category]) rfl rfl D_X8_keyAt_0.2.2.2.1 ⟨(Nat.le_of_ble_eq_true rfl), (Nat.le_of_ble_eq_true rfl)⟩ (fun r_5 S_5 h_5 => ?_)
  obtain ⟨⟨e0, rfl, ke0, ie0⟩, rfl⟩ := h_5
  refine x_astore_n C (lv' := [_, _, _]) D_X8_keyAt_0.2.2.2.2.1 rfl (Nat.le_of_ble_eq_true rfl) (by first | rfl | exact x_ok_q rfl) (by first | exact Or.inr ⟨_, rfl⟩ | exact va_rf_or _ | exact Or.inl rfl) rfl ?_
  refine x_aload_n C D_X8_keyAt_0.2.2.2.2.2.1 rfl rfl (by first | exact Or.inr ⟨_, rfl⟩ | exact va_rf_or _ | exact Or.inl rfl) ?_
  refine x_ifnonnull C 23 D_X8_keyAt_0.2.2.2.2.2.2.1 (by decide) (fun q9 e_10 => ?_) (fun e_10 => ?_)
  · skip
    obtain rfl : e0 = q9 := Option.some.inj e_10
    refine x_aload_n C D_X8_keyAt_1.1 rfl rfl (by first | exact Or.inr ⟨_, rfl⟩ | exact va_rf_or _ | exact Or.inl rfl) ?_
    refine x_getI C (ci := 0) (k0 := 0) ke0 (by decide) rfl (by decide) in_X0 k_680 rfl rfl D_X8_keyAt_1.2.1 ?_
    refine x_eqi _ ie0 ?_
    refine ret _ _ _ _ _ _ rfl D_X8_keyAt_1.2.2 (Nat.le_of_ble_eq_true rfl) (Nat.le_of_ble_eq_true rfl) ?_
    exact ⟨rfl, ow, FR8.refl _ _, hS⟩
  · skip
    exact absurd e_10 (by simp)
    --end
abbrev rm_X8_keyAtN : Room := { frames := 6, cells := 1, slots := 6, locals := 90 }
set_option maxHeartbeats 4000000 in
set_option maxRecDepth 100000 in
theorem c_X8_keyAtN (l : Launch) (G : xG) {K N : Nat → Nat} {I : Nat → Nat → Int32} {Q : Nat → Nat → Option Nat} {J : Nat → Nat → Int64} (ow : xO) (x n m : Nat) (c : Nat → Nat) (al : Nat → Bool) (sp tu pt pc ps : Nat → Nat) (pa : Nat → Bool) (r d u g w : Int32) (y : Int32) (hlt : l.stackTraces = false) (hS : SY ow (K, N, I, Q, J) x n c al sp tu pt m pc pa ps r d u g w) (hy : y < 0 ∨ nI (cn al n) ≤ y)  : XMT l yX8_keyAt cX8_keyAt 3 (some .int) rm_X8_keyAtN G Ri [.ref x, .int y] (K, N, I, Q, J) (fun _ _ => False) (fun E S1 => E = eIO ∧ ∃ ow1, FR8 ow ow1 (K, N, I, Q, J) S1 ∧ SY ow1 S1 x n c al sp tu pt m pc pa ps r d u g w) := by
  refine x_metTi (lv := [_, _, _]) hlt rfl ⟨(Nat.le_of_ble_eq_true rfl), (Nat.le_of_ble_eq_true rfl)⟩ (by decide +kernel) (x_cc (by first | rfl | exact x_crf _) (x_cc (by first | rfl | exact x_crf _) x_cn)) (Nat.le_of_ble_eq_true rfl) rfl ?_
  intro pP eE sS mM aA bB hH cC Z C hini ret thr
  obtain ⟨t1, t7, t6, t5, hX0, H1, H7, H6, H5, hE0, hn, hb⟩ := id hS
  obtain ⟨hx, hox, hq1, hq7, hq6, hq5⟩ := id hX0
  obtain ⟨e1, e2, e3, e4, e5⟩ := id hE0
  have hx : K x = 8 := hx
  have hq1 : Q x 0 = some t1 := hq1
  have hq7 : Q x 1 = some t7 := hq7
  have hq6 : Q x 2 = some t6 := hq6
  have hq5 : Q x 3 = some t5 := hq5
  have kt1 : K t1 = 2 := H1.kc.1
  have kt7 : K t7 = 7 := H7.kc
  have kt6 : K t6 = 6 := H6.kc
  have kt5 : K t5 = 5 := H5.kc.1
  have l1 : I t1 3 = nI (cn al n) := H1.kc.2
  have l5 : I t5 3 = nI (cn pa m) := H5.kc.2.1
  have hm120 := H5.kc.2.2
  have l6 : I t6 1 = nI n := H6.cnt.1
  have l62 : I t6 2 = nI (cn al n) := H6.cnt.2.1
  have hup := H6.cnt.2.2.1
  have hcl := cn_le al n
  have hcm := cn_le pa m
  have e1 : I t1 4 = r := e1
  have e2 : I t1 5 = d := e2
  have e3 : I t7 2 = u := e3
  have e4 : I t6 3 = g := e4
  have e5 : I t5 4 = w := e5
  refine x_aload_n C D_X8_keyAt_0.1 rfl rfl (by first | exact Or.inr ⟨_, rfl⟩ | exact va_rf_or _ | exact Or.inl rfl) ?_
  refine x_getQ C (ci := 7) (k0 := 2) hx (by decide) rfl (by decide) in_X8 k_181 rfl rfl D_X8_keyAt_0.2.1 ?_
  refine x_eqr hq6 ?_
  refine x_iload_n C D_X8_keyAt_0.2.2.1 rfl rfl ?_
  refine x_callVq C (y := yX6_livingWithRank) (k6_nthN l G H6 hn hy) (ci := 5) kt6 (by decide) rfl rfl k_720 k_721 k_722 k_65 k_723 hd_X6_livingWithRank ⟨(Nat.le_of_ble_eq_true rfl), (Nat.le_of_ble_eq_true rfl)⟩ rfl (by first | exact Nat.le_of_ble_eq_true rfl | simp [x_crf, Value.category]) rfl rfl D_X8_keyAt_0.2.2.2.1 ⟨(Nat.le_of_ble_eq_true rfl), (Nat.le_of_ble_eq_true rfl)⟩ (fun r_5 S_5 h_5 => ?_)
  obtain ⟨rfl, rfl⟩ := h_5
  refine x_astore_n C (lv' := [_, _, _]) D_X8_keyAt_0.2.2.2.2.1 rfl (Nat.le_of_ble_eq_true rfl) (by first | rfl | exact x_ok_q rfl) (by first | exact Or.inr ⟨_, rfl⟩ | exact va_rf_or _ | exact Or.inl rfl) rfl ?_
  refine x_aload_n C D_X8_keyAt_0.2.2.2.2.2.1 rfl rfl (by first | exact Or.inr ⟨_, rfl⟩ | exact va_rf_or _ | exact Or.inl rfl) ?_
  refine x_ifnonnull C 23 D_X8_keyAt_0.2.2.2.2.2.2.1 (by decide) (fun q_10 e_10 => ?_) (fun e_10 => ?_)
  · skip
    exact absurd e_10 (by simp)
    --end
  · skip
    refine thr _ _ _ _ _ _ _ 82 _ _ "no key has this rank" thr_IO (by decide +kernel) D_X8_keyAt_0.2.2.2.2.2.2.2.1 D_X8_keyAt_0.2.2.2.2.2.2.2.2.1 D_X8_keyAt_0.2.2.2.2.2.2.2.2.2.1 D_X8_keyAt_0.2.2.2.2.2.2.2.2.2.2.1 D_X8_keyAt_0.2.2.2.2.2.2.2.2.2.2.2 (by first | exact Nat.le_of_ble_eq_true rfl | simp [x_crf, Value.category]) rfl (Nat.le_of_ble_eq_true rfl) (Nat.le_of_ble_eq_true rfl) ?_
    exact ⟨rfl, ow, FR8.refl _ _, hS⟩
abbrev rm_X8_depthY : Room := { frames := 6, cells := 1, slots := 6, locals := 90 }
theorem hd_X2_depthOf : yX2_depthOf.cls ≠ "java/lang/invoke/MethodHandle" ∧ yX2_depthOf.cls ≠ "java/lang/invoke/VarHandle" ∧ (parseMethodDescriptor yX2_depthOf.desc).map (fun d => d.parameters.length) = some 1 := by decide +kernel
theorem hu_X2_depthOf : "ScapegoatSpur$LazyTree" ≠ "java/lang/invoke/MethodHandle" ∧ "ScapegoatSpur$LazyTree" ≠ "java/lang/invoke/VarHandle" ∧ (parseMethodDescriptor "(I)I").map (fun d => d.parameters.length) = some 1 := by decide +kernel
set_option maxHeartbeats 4000000 in
set_option maxRecDepth 100000 in
theorem c_X8_depthY (l : Launch) (G : xG) {K N : Nat → Nat} {I : Nat → Nat → Int32} {Q : Nat → Nat → Option Nat} {J : Nat → Nat → Int64} (ow : xO) (x n m : Nat) (c : Nat → Nat) (al : Nat → Bool) (sp tu pt pc ps : Nat → Nat) (pa : Nat → Bool) (r d u g w : Int32) (k : Nat) (hlt : l.stackTraces = false) (hS : SY ow (K, N, I, Q, J) x n c al sp tu pt m pc pa ps r d u g w) (hk : k < n)  : XMT l yX8_depth cX8_depth 3 (some .int) rm_X8_depthY G Ri [.ref x, .int (cv1 (c k))] (K, N, I, Q, J) (fun r_ S1 => r_ = nI (dep (sp k)) ∧ ∃ ow1, FR8 ow ow1 (K, N, I, Q, J) S1 ∧ SY ow1 S1 x n c al sp tu pt m pc pa ps r d u g w) (fun _ _ => False) := by
  refine x_metTi (lv := [_, _, _]) hlt rfl ⟨(Nat.le_of_ble_eq_true rfl), (Nat.le_of_ble_eq_true rfl)⟩ (by decide +kernel) (x_cc (by first | rfl | exact x_crf _) (x_cc (by first | rfl | exact x_crf _) x_cn)) (Nat.le_of_ble_eq_true rfl) rfl ?_
  intro pP eE sS mM aA bB hH cC Z C hini ret thr
  obtain ⟨t1, t7, t6, t5, hX0, H1, H7, H6, H5, hE0, hn, hb⟩ := id hS
  obtain ⟨hx, hox, hq1, hq7, hq6, hq5⟩ := id hX0
  obtain ⟨e1, e2, e3, e4, e5⟩ := id hE0
  have hx : K x = 8 := hx
  have hq1 : Q x 0 = some t1 := hq1
  have hq7 : Q x 1 = some t7 := hq7
  have hq6 : Q x 2 = some t6 := hq6
  have hq5 : Q x 3 = some t5 := hq5
  have kt1 : K t1 = 2 := H1.kc.1
  have kt7 : K t7 = 7 := H7.kc
  have kt6 : K t6 = 6 := H6.kc
  have kt5 : K t5 = 5 := H5.kc.1
  have l1 : I t1 3 = nI (cn al n) := H1.kc.2
  have l5 : I t5 3 = nI (cn pa m) := H5.kc.2.1
  have hm120 := H5.kc.2.2
  have l6 : I t6 1 = nI n := H6.cnt.1
  have l62 : I t6 2 = nI (cn al n) := H6.cnt.2.1
  have hup := H6.cnt.2.2.1
  have hcl := cn_le al n
  have hcm := cn_le pa m
  have e1 : I t1 4 = r := e1
  have e2 : I t1 5 = d := e2
  have e3 : I t7 2 = u := e3
  have e4 : I t6 3 = g := e4
  have e5 : I t5 4 = w := e5
  refine x_aload_n C D_X8_depth_0.1 rfl rfl (by first | exact Or.inr ⟨_, rfl⟩ | exact va_rf_or _ | exact Or.inl rfl) ?_
  refine x_getQ C (ci := 7) (k0 := 0) hx (by decide) rfl (by decide) in_X8 k_179 rfl rfl D_X8_depth_0.2.1 ?_
  refine x_eqr hq1 ?_
  refine x_iload_n C D_X8_depth_0.2.2.1 rfl rfl ?_
  refine x_callUi C (x := ⟨"ScapegoatSpur$KeyTree", "depthOf", "(I)I"⟩) (y := yX2_depthOf) (owner := "ScapegoatSpur$LazyTree") (k1_depthY l G H1 hn hk (hb k hk)) (ci := 1) kt1 (by decide) rfl k_748 k_749 k_751 k_752 k_61 k_753 rfl hu_X2_depthOf ⟨(Nat.le_of_ble_eq_true rfl), (Nat.le_of_ble_eq_true rfl)⟩ rfl (by first | exact Nat.le_of_ble_eq_true rfl | simp [x_crf, Value.category]) rfl rfl D_X8_depth_0.2.2.2.1 ⟨(Nat.le_of_ble_eq_true rfl), (Nat.le_of_ble_eq_true rfl)⟩ (fun r_5 S_5 h_5 => ?_)
  obtain ⟨rfl, hF, H1a, ht⟩ := h_5
  obtain ⟨K1, N1, I1, Q1, J1⟩ := S_5
  refine x_istore_n C (lv' := [_, _, _]) D_X8_depth_0.2.2.2.2.1 rfl (Nat.le_of_ble_eq_true rfl) (by first | rfl | exact x_ok_q rfl) rfl ?_
  refine x_iload_n C D_X8_depth_0.2.2.2.2.2.1 rfl rfl ?_
  refine x_iconst C (v := (-1)) D_X8_depth_0.2.2.2.2.2.2.1 (by decide +kernel) ?_
  refine x_icmp_ne C 24 D_X8_depth_0.2.2.2.2.2.2.2.1 (by decide) (fun c_11 => ?_) (fun c_11 => ?_)
  · skip
    refine x_iload_n C D_X8_depth_1.2.1 rfl rfl ?_
    refine ret _ _ _ _ _ _ rfl D_X8_depth_1.2.2 (Nat.le_of_ble_eq_true rfl) (Nat.le_of_ble_eq_true rfl) ?_
    exact ⟨rfl, ow, hF.fr8 (by omega), SY.a1 hX0 H7 H6 H5 hE0 hn hb hF H1a (ht 4) (ht 5)⟩
  · skip
    exact absurd c_11 (ni_m1 (dep_b (H1.bd hn k hk).2))
    --end
abbrev rm_X8_depthN : Room := { frames := 6, cells := 1, slots := 6, locals := 90 }
set_option maxHeartbeats 4000000 in
set_option maxRecDepth 100000 in
theorem c_X8_depthN (l : Launch) (G : xG) {K N : Nat → Nat} {I : Nat → Nat → Int32} {Q : Nat → Nat → Option Nat} {J : Nat → Nat → Int64} (ow : xO) (x n m : Nat) (c : Nat → Nat) (al : Nat → Bool) (sp tu pt pc ps : Nat → Nat) (pa : Nat → Bool) (r d u g w : Int32) (y : Int32) (hlt : l.stackTraces = false) (hS : SY ow (K, N, I, Q, J) x n c al sp tu pt m pc pa ps r d u g w) (hno : ∀ i, i < n → ¬ cv1 (c i) = y)  : XMT l yX8_depth cX8_depth 3 (some .int) rm_X8_depthN G Ri [.ref x, .int y] (K, N, I, Q, J) (fun _ _ => False) (fun E S1 => E = eNS ∧ ∃ ow1, FR8 ow ow1 (K, N, I, Q, J) S1 ∧ SY ow1 S1 x n c al sp tu pt m pc pa ps r d u g w) := by
  refine x_metTi (lv := [_, _, _]) hlt rfl ⟨(Nat.le_of_ble_eq_true rfl), (Nat.le_of_ble_eq_true rfl)⟩ (by decide +kernel) (x_cc (by first | rfl | exact x_crf _) (x_cc (by first | rfl | exact x_crf _) x_cn)) (Nat.le_of_ble_eq_true rfl) rfl ?_
  intro pP eE sS mM aA bB hH cC Z C hini ret thr
  obtain ⟨t1, t7, t6, t5, hX0, H1, H7, H6, H5, hE0, hn, hb⟩ := id hS
  obtain ⟨hx, hox, hq1, hq7, hq6, hq5⟩ := id hX0
  obtain ⟨e1, e2, e3, e4, e5⟩ := id hE0
  have hx : K x = 8 := hx
  have hq1 : Q x 0 = some t1 := hq1
  have hq7 : Q x 1 = some t7 := hq7
  have hq6 : Q x 2 = some t6 := hq6
  have hq5 : Q x 3 = some t5 := hq5
  have kt1 : K t1 = 2 := H1.kc.1
  have kt7 : K t7 = 7 := H7.kc
  have kt6 : K t6 = 6 := H6.kc
  have kt5 : K t5 = 5 := H5.kc.1
  have l1 : I t1 3 = nI (cn al n) := H1.kc.2
  have l5 : I t5 3 = nI (cn pa m) := H5.kc.2.1
  have hm120 := H5.kc.2.2
  have l6 : I t6 1 = nI n := H6.cnt.1
  have l62 : I t6 2 = nI (cn al n) := H6.cnt.2.1
  have hup := H6.cnt.2.2.1
  have hcl := cn_le al n
  have hcm := cn_le pa m
  have e1 : I t1 4 = r := e1
  have e2 : I t1 5 = d := e2
  have e3 : I t7 2 = u := e3
  have e4 : I t6 3 = g := e4
  have e5 : I t5 4 = w := e5
  refine x_aload_n C D_X8_depth_0.1 rfl rfl (by first | exact Or.inr ⟨_, rfl⟩ | exact va_rf_or _ | exact Or.inl rfl) ?_
  refine x_getQ C (ci := 7) (k0 := 0) hx (by decide) rfl (by decide) in_X8 k_179 rfl rfl D_X8_depth_0.2.1 ?_
  refine x_eqr hq1 ?_
  refine x_iload_n C D_X8_depth_0.2.2.1 rfl rfl ?_
  refine x_callUi C (x := ⟨"ScapegoatSpur$KeyTree", "depthOf", "(I)I"⟩) (y := yX2_depthOf) (owner := "ScapegoatSpur$LazyTree") (k1_depthN l G H1 hn hno) (ci := 1) kt1 (by decide) rfl k_748 k_749 k_751 k_752 k_61 k_753 rfl hu_X2_depthOf ⟨(Nat.le_of_ble_eq_true rfl), (Nat.le_of_ble_eq_true rfl)⟩ rfl (by first | exact Nat.le_of_ble_eq_true rfl | simp [x_crf, Value.category]) rfl rfl D_X8_depth_0.2.2.2.1 ⟨(Nat.le_of_ble_eq_true rfl), (Nat.le_of_ble_eq_true rfl)⟩ (fun r_5 S_5 h_5 => ?_)
  obtain ⟨rfl, hF, H1a, ht⟩ := h_5
  obtain ⟨K1, N1, I1, Q1, J1⟩ := S_5
  refine x_istore_n C (lv' := [_, _, _]) D_X8_depth_0.2.2.2.2.1 rfl (Nat.le_of_ble_eq_true rfl) (by first | rfl | exact x_ok_q rfl) rfl ?_
  refine x_iload_n C D_X8_depth_0.2.2.2.2.2.1 rfl rfl ?_
  refine x_iconst C (v := (-1)) D_X8_depth_0.2.2.2.2.2.2.1 (by decide +kernel) ?_
  refine x_icmp_ne C 24 D_X8_depth_0.2.2.2.2.2.2.2.1 (by decide) (fun c_11 => ?_) (fun c_11 => ?_)
  · skip
    exact absurd rfl c_11
    --end
  · skip
    refine thr _ _ _ _ _ _ _ 105 _ _ "no node has this key" thr_NS (by decide +kernel) D_X8_depth_0.2.2.2.2.2.2.2.2.1 D_X8_depth_0.2.2.2.2.2.2.2.2.2.1 D_X8_depth_0.2.2.2.2.2.2.2.2.2.2.1 D_X8_depth_0.2.2.2.2.2.2.2.2.2.2.2 D_X8_depth_1.1 (by first | exact Nat.le_of_ble_eq_true rfl | simp [x_crf, Value.category]) rfl (Nat.le_of_ble_eq_true rfl) (Nat.le_of_ble_eq_true rfl) ?_
    exact ⟨rfl, ow, hF.fr8 (by omega), SY.a1 hX0 H7 H6 H5 hE0 hn hb hF H1a (ht 4) (ht 5)⟩
abbrev rm_X8_weightY : Room := { frames := 6, cells := 1, slots := 6, locals := 90 }
set_option maxHeartbeats 4000000 in
set_option maxRecDepth 100000 in
theorem c_X8_weightY (l : Launch) (G : xG) {K N : Nat → Nat} {I : Nat → Nat → Int32} {Q : Nat → Nat → Option Nat} {J : Nat → Nat → Int64} (ow : xO) (x n m : Nat) (c : Nat → Nat) (al : Nat → Bool) (sp tu pt pc ps : Nat → Nat) (pa : Nat → Bool) (r d u g w : Int32) (k : Nat) (hlt : l.stackTraces = false) (hS : SY ow (K, N, I, Q, J) x n c al sp tu pt m pc pa ps r d u g w) (hk : k < n)  : XMT l yX8_weight cX8_weight 3 (some .int) rm_X8_weightY G Ri [.ref x, .int (cv1 (c k))] (K, N, I, Q, J) (fun r_ S1 => r_ = nI (cnW n sp (sp k)) ∧ ∃ ow1, FR8 ow ow1 (K, N, I, Q, J) S1 ∧ SY ow1 S1 x n c al sp tu pt m pc pa ps r d u g w) (fun _ _ => False) := by
  refine x_metTi (lv := [_, _, _]) hlt rfl ⟨(Nat.le_of_ble_eq_true rfl), (Nat.le_of_ble_eq_true rfl)⟩ (by decide +kernel) (x_cc (by first | rfl | exact x_crf _) (x_cc (by first | rfl | exact x_crf _) x_cn)) (Nat.le_of_ble_eq_true rfl) rfl ?_
  intro pP eE sS mM aA bB hH cC Z C hini ret thr
  obtain ⟨t1, t7, t6, t5, hX0, H1, H7, H6, H5, hE0, hn, hb⟩ := id hS
  obtain ⟨hx, hox, hq1, hq7, hq6, hq5⟩ := id hX0
  obtain ⟨e1, e2, e3, e4, e5⟩ := id hE0
  have hx : K x = 8 := hx
  have hq1 : Q x 0 = some t1 := hq1
  have hq7 : Q x 1 = some t7 := hq7
  have hq6 : Q x 2 = some t6 := hq6
  have hq5 : Q x 3 = some t5 := hq5
  have kt1 : K t1 = 2 := H1.kc.1
  have kt7 : K t7 = 7 := H7.kc
  have kt6 : K t6 = 6 := H6.kc
  have kt5 : K t5 = 5 := H5.kc.1
  have l1 : I t1 3 = nI (cn al n) := H1.kc.2
  have l5 : I t5 3 = nI (cn pa m) := H5.kc.2.1
  have hm120 := H5.kc.2.2
  have l6 : I t6 1 = nI n := H6.cnt.1
  have l62 : I t6 2 = nI (cn al n) := H6.cnt.2.1
  have hup := H6.cnt.2.2.1
  have hcl := cn_le al n
  have hcm := cn_le pa m
  have e1 : I t1 4 = r := e1
  have e2 : I t1 5 = d := e2
  have e3 : I t7 2 = u := e3
  have e4 : I t6 3 = g := e4
  have e5 : I t5 4 = w := e5
  refine x_aload_n C D_X8_weight_0.1 rfl rfl (by first | exact Or.inr ⟨_, rfl⟩ | exact va_rf_or _ | exact Or.inl rfl) ?_
  refine x_getQ C (ci := 7) (k0 := 0) hx (by decide) rfl (by decide) in_X8 k_179 rfl rfl D_X8_weight_0.2.1 ?_
  refine x_eqr hq1 ?_
  refine x_iload_n C D_X8_weight_0.2.2.1 rfl rfl ?_
  refine x_callUq C (x := ⟨"ScapegoatSpur$KeyTree", "find", "(I)LScapegoatSpur$Node;"⟩) (y := yX2_find) (owner := "ScapegoatSpur$LazyTree") (k1_findY l G H1 hn hk (hb k hk)) (ci := 1) kt1 (by decide) rfl k_777 k_778 k_780 k_211 k_61 k_215 rfl hu_X2_find ⟨(Nat.le_of_ble_eq_true rfl), (Nat.le_of_ble_eq_true rfl)⟩ rfl (by first | exact Nat.le_of_ble_eq_true rfl | simp [x_crf, Value.category]) rfl rfl D_X8_weight_0.2.2.2.1 ⟨(Nat.le_of_ble_eq_true rfl), (Nat.le_of_ble_eq_true rfl)⟩ (fun r_5 S_5 h_5 => ?_)
  obtain ⟨⟨e0, rfl, ke0, ie0⟩, hF, H1a, ht⟩ := h_5
  obtain ⟨K1, N1, I1, Q1, J1⟩ := S_5
  have ke0 : K1 e0 = 3 := ke0
  have ie0 : I1 e0 2 = nI (cnW n sp (sp k)) := ie0
  refine x_astore_n C (lv' := [_, _, _]) D_X8_weight_0.2.2.2.2.1 rfl (Nat.le_of_ble_eq_true rfl) (by first | rfl | exact x_ok_q rfl) (by first | exact Or.inr ⟨_, rfl⟩ | exact va_rf_or _ | exact Or.inl rfl) rfl ?_
  refine x_aload_n C D_X8_weight_0.2.2.2.2.2.1 rfl rfl (by first | exact Or.inr ⟨_, rfl⟩ | exact va_rf_or _ | exact Or.inl rfl) ?_
  refine x_ifnonnull C 23 D_X8_weight_0.2.2.2.2.2.2.1 (by decide) (fun q9 e_10 => ?_) (fun e_10 => ?_)
  · skip
    obtain rfl : e0 = q9 := Option.some.inj e_10
    refine x_aload_n C D_X8_weight_1.1 rfl rfl (by first | exact Or.inr ⟨_, rfl⟩ | exact va_rf_or _ | exact Or.inl rfl) ?_
    refine x_getI C (ci := 2) (k0 := 2) ke0 (by decide) rfl (by decide) in_X3 k_618 rfl rfl D_X8_weight_1.2.1 ?_
    refine x_eqi _ ie0 ?_
    refine ret _ _ _ _ _ _ rfl D_X8_weight_1.2.2 (Nat.le_of_ble_eq_true rfl) (Nat.le_of_ble_eq_true rfl) ?_
    exact ⟨rfl, ow, hF.fr8 (by omega), SY.a1 hX0 H7 H6 H5 hE0 hn hb hF H1a (ht 4) (ht 5)⟩
  · skip
    exact absurd e_10 (by simp)
    --end
abbrev rm_X8_weightN : Room := { frames := 6, cells := 1, slots := 6, locals := 90 }
set_option maxHeartbeats 4000000 in
set_option maxRecDepth 100000 in
theorem c_X8_weightN (l : Launch) (G : xG) {K N : Nat → Nat} {I : Nat → Nat → Int32} {Q : Nat → Nat → Option Nat} {J : Nat → Nat → Int64} (ow : xO) (x n m : Nat) (c : Nat → Nat) (al : Nat → Bool) (sp tu pt pc ps : Nat → Nat) (pa : Nat → Bool) (r d u g w : Int32) (y : Int32) (hlt : l.stackTraces = false) (hS : SY ow (K, N, I, Q, J) x n c al sp tu pt m pc pa ps r d u g w) (hno : ∀ i, i < n → ¬ cv1 (c i) = y)  : XMT l yX8_weight cX8_weight 3 (some .int) rm_X8_weightN G Ri [.ref x, .int y] (K, N, I, Q, J) (fun _ _ => False) (fun E S1 => E = eNS ∧ ∃ ow1, FR8 ow ow1 (K, N, I, Q, J) S1 ∧ SY ow1 S1 x n c al sp tu pt m pc pa ps r d u g w) := by
  refine x_metTi (lv := [_, _, _]) hlt rfl ⟨(Nat.le_of_ble_eq_true rfl), (Nat.le_of_ble_eq_true rfl)⟩ (by decide +kernel) (x_cc (by first | rfl | exact x_crf _) (x_cc (by first | rfl | exact x_crf _) x_cn)) (Nat.le_of_ble_eq_true rfl) rfl ?_
  intro pP eE sS mM aA bB hH cC Z C hini ret thr
  obtain ⟨t1, t7, t6, t5, hX0, H1, H7, H6, H5, hE0, hn, hb⟩ := id hS
  obtain ⟨hx, hox, hq1, hq7, hq6, hq5⟩ := id hX0
  obtain ⟨e1, e2, e3, e4, e5⟩ := id hE0
  have hx : K x = 8 := hx
  have hq1 : Q x 0 = some t1 := hq1
  have hq7 : Q x 1 = some t7 := hq7
  have hq6 : Q x 2 = some t6 := hq6
  have hq5 : Q x 3 = some t5 := hq5
  have kt1 : K t1 = 2 := H1.kc.1
  have kt7 : K t7 = 7 := H7.kc
  have kt6 : K t6 = 6 := H6.kc
  have kt5 : K t5 = 5 := H5.kc.1
  have l1 : I t1 3 = nI (cn al n) := H1.kc.2
  have l5 : I t5 3 = nI (cn pa m) := H5.kc.2.1
  have hm120 := H5.kc.2.2
  have l6 : I t6 1 = nI n := H6.cnt.1
  have l62 : I t6 2 = nI (cn al n) := H6.cnt.2.1
  have hup := H6.cnt.2.2.1
  have hcl := cn_le al n
  have hcm := cn_le pa m
  have e1 : I t1 4 = r := e1
  have e2 : I t1 5 = d := e2
  have e3 : I t7 2 = u := e3
  have e4 : I t6 3 = g := e4
  have e5 : I t5 4 = w := e5
  refine x_aload_n C D_X8_weight_0.1 rfl rfl (by first | exact Or.inr ⟨_, rfl⟩ | exact va_rf_or _ | exact Or.inl rfl) ?_
  refine x_getQ C (ci := 7) (k0 := 0) hx (by decide) rfl (by decide) in_X8 k_179 rfl rfl D_X8_weight_0.2.1 ?_
  refine x_eqr hq1 ?_
  refine x_iload_n C D_X8_weight_0.2.2.1 rfl rfl ?_
  refine x_callUq C (x := ⟨"ScapegoatSpur$KeyTree", "find", "(I)LScapegoatSpur$Node;"⟩) (y := yX2_find) (owner := "ScapegoatSpur$LazyTree") (k1_findN l G H1 hn hno) (ci := 1) kt1 (by decide) rfl k_777 k_778 k_780 k_211 k_61 k_215 rfl hu_X2_find ⟨(Nat.le_of_ble_eq_true rfl), (Nat.le_of_ble_eq_true rfl)⟩ rfl (by first | exact Nat.le_of_ble_eq_true rfl | simp [x_crf, Value.category]) rfl rfl D_X8_weight_0.2.2.2.1 ⟨(Nat.le_of_ble_eq_true rfl), (Nat.le_of_ble_eq_true rfl)⟩ (fun r_5 S_5 h_5 => ?_)
  obtain ⟨rfl, hF, H1a, ht⟩ := h_5
  obtain ⟨K1, N1, I1, Q1, J1⟩ := S_5
  refine x_astore_n C (lv' := [_, _, _]) D_X8_weight_0.2.2.2.2.1 rfl (Nat.le_of_ble_eq_true rfl) (by first | rfl | exact x_ok_q rfl) (by first | exact Or.inr ⟨_, rfl⟩ | exact va_rf_or _ | exact Or.inl rfl) rfl ?_
  refine x_aload_n C D_X8_weight_0.2.2.2.2.2.1 rfl rfl (by first | exact Or.inr ⟨_, rfl⟩ | exact va_rf_or _ | exact Or.inl rfl) ?_
  refine x_ifnonnull C 23 D_X8_weight_0.2.2.2.2.2.2.1 (by decide) (fun q_10 e_10 => ?_) (fun e_10 => ?_)
  · skip
    exact absurd e_10 (by simp)
    --end
  · skip
    refine thr _ _ _ _ _ _ _ 105 _ _ "no node has this key" thr_NS (by decide +kernel) D_X8_weight_0.2.2.2.2.2.2.2.1 D_X8_weight_0.2.2.2.2.2.2.2.2.1 D_X8_weight_0.2.2.2.2.2.2.2.2.2.1 D_X8_weight_0.2.2.2.2.2.2.2.2.2.2.1 D_X8_weight_0.2.2.2.2.2.2.2.2.2.2.2 (by first | exact Nat.le_of_ble_eq_true rfl | simp [x_crf, Value.category]) rfl (Nat.le_of_ble_eq_true rfl) (Nat.le_of_ble_eq_true rfl) ?_
    exact ⟨rfl, ow, hF.fr8 (by omega), SY.a1 hX0 H7 H6 H5 hE0 hn hb hF H1a (ht 4) (ht 5)⟩
abbrev rm_X8_depthInTurningY : Room := { frames := 6, cells := 1, slots := 6, locals := 90 }
theorem hd_X7_depthOf : yX7_depthOf.cls ≠ "java/lang/invoke/MethodHandle" ∧ yX7_depthOf.cls ≠ "java/lang/invoke/VarHandle" ∧ (parseMethodDescriptor yX7_depthOf.desc).map (fun d => d.parameters.length) = some 1 := by decide +kernel
set_option maxHeartbeats 4000000 in
set_option maxRecDepth 100000 in
theorem c_X8_depthInTurningY (l : Launch) (G : xG) {K N : Nat → Nat} {I : Nat → Nat → Int32} {Q : Nat → Nat → Option Nat} {J : Nat → Nat → Int64} (ow : xO) (x n m : Nat) (c : Nat → Nat) (al : Nat → Bool) (sp tu pt pc ps : Nat → Nat) (pa : Nat → Bool) (r d u g w : Int32) (k : Nat) (hlt : l.stackTraces = false) (hS : SY ow (K, N, I, Q, J) x n c al sp tu pt m pc pa ps r d u g w) (hk : k < n) (hp : 0 < tu k)  : XMT l yX8_depthInTurning cX8_depthInTurning 3 (some .int) rm_X8_depthInTurningY G Ri [.ref x, .int (cv1 (c k))] (K, N, I, Q, J) (fun r_ S1 => r_ = nI (dep (tu k)) ∧ ∃ ow1, FR8 ow ow1 (K, N, I, Q, J) S1 ∧ SY ow1 S1 x n c al sp tu pt m pc pa ps r d u g w) (fun _ _ => False) := by
  refine x_metTi (lv := [_, _, _]) hlt rfl ⟨(Nat.le_of_ble_eq_true rfl), (Nat.le_of_ble_eq_true rfl)⟩ (by decide +kernel) (x_cc (by first | rfl | exact x_crf _) (x_cc (by first | rfl | exact x_crf _) x_cn)) (Nat.le_of_ble_eq_true rfl) rfl ?_
  intro pP eE sS mM aA bB hH cC Z C hini ret thr
  obtain ⟨t1, t7, t6, t5, hX0, H1, H7, H6, H5, hE0, hn, hb⟩ := id hS
  obtain ⟨hx, hox, hq1, hq7, hq6, hq5⟩ := id hX0
  obtain ⟨e1, e2, e3, e4, e5⟩ := id hE0
  have hx : K x = 8 := hx
  have hq1 : Q x 0 = some t1 := hq1
  have hq7 : Q x 1 = some t7 := hq7
  have hq6 : Q x 2 = some t6 := hq6
  have hq5 : Q x 3 = some t5 := hq5
  have kt1 : K t1 = 2 := H1.kc.1
  have kt7 : K t7 = 7 := H7.kc
  have kt6 : K t6 = 6 := H6.kc
  have kt5 : K t5 = 5 := H5.kc.1
  have l1 : I t1 3 = nI (cn al n) := H1.kc.2
  have l5 : I t5 3 = nI (cn pa m) := H5.kc.2.1
  have hm120 := H5.kc.2.2
  have l6 : I t6 1 = nI n := H6.cnt.1
  have l62 : I t6 2 = nI (cn al n) := H6.cnt.2.1
  have hup := H6.cnt.2.2.1
  have hcl := cn_le al n
  have hcm := cn_le pa m
  have e1 : I t1 4 = r := e1
  have e2 : I t1 5 = d := e2
  have e3 : I t7 2 = u := e3
  have e4 : I t6 3 = g := e4
  have e5 : I t5 4 = w := e5
  refine x_aload_n C D_X8_depthInTurning_0.1 rfl rfl (by first | exact Or.inr ⟨_, rfl⟩ | exact va_rf_or _ | exact Or.inl rfl) ?_
  refine x_getQ C (ci := 7) (k0 := 1) hx (by decide) rfl (by decide) in_X8 k_180 rfl rfl D_X8_depthInTurning_0.2.1 ?_
  refine x_eqr hq7 ?_
  refine x_iload_n C D_X8_depthInTurning_0.2.2.1 rfl rfl ?_
  refine x_callVi C (y := yX7_depthOf) (k7_depthY l G H7 hk (hb k hk) hp) (ci := 6) kt7 (by decide) rfl rfl k_788 k_789 k_790 k_64 k_791 hd_X7_depthOf ⟨(Nat.le_of_ble_eq_true rfl), (Nat.le_of_ble_eq_true rfl)⟩ rfl (by first | exact Nat.le_of_ble_eq_true rfl | simp [x_crf, Value.category]) rfl rfl D_X8_depthInTurning_0.2.2.2.1 ⟨(Nat.le_of_ble_eq_true rfl), (Nat.le_of_ble_eq_true rfl)⟩ (fun r_5 S_5 h_5 => ?_)
  obtain ⟨rfl, hF, H7a, ht⟩ := h_5
  obtain ⟨K1, N1, I1, Q1, J1⟩ := S_5
  refine x_istore_n C (lv' := [_, _, _]) D_X8_depthInTurning_0.2.2.2.2.1 rfl (Nat.le_of_ble_eq_true rfl) (by first | rfl | exact x_ok_q rfl) rfl ?_
  refine x_iload_n C D_X8_depthInTurning_0.2.2.2.2.2.1 rfl rfl ?_
  refine x_iconst C (v := (-1)) D_X8_depthInTurning_0.2.2.2.2.2.2.1 (by decide +kernel) ?_
  refine x_icmp_ne C 24 D_X8_depthInTurning_0.2.2.2.2.2.2.2.1 (by decide) (fun c_11 => ?_) (fun c_11 => ?_)
  · skip
    refine x_iload_n C D_X8_depthInTurning_1.2.1 rfl rfl ?_
    refine ret _ _ _ _ _ _ rfl D_X8_depthInTurning_1.2.2 (Nat.le_of_ble_eq_true rfl) (Nat.le_of_ble_eq_true rfl) ?_
    exact ⟨rfl, ow, hF.fr8 (by omega), SY.a7 hX0 H1 H6 H5 hE0 hn hb hF H7a (ht 2)⟩
  · skip
    exact absurd c_11 (ni_m1 (dep_b (H7.bd k hk)))
    --end
abbrev rm_X8_depthInTurningN : Room := { frames := 6, cells := 1, slots := 6, locals := 90 }
set_option maxHeartbeats 4000000 in
set_option maxRecDepth 100000 in
theorem c_X8_depthInTurningN (l : Launch) (G : xG) {K N : Nat → Nat} {I : Nat → Nat → Int32} {Q : Nat → Nat → Option Nat} {J : Nat → Nat → Int64} (ow : xO) (x n m : Nat) (c : Nat → Nat) (al : Nat → Bool) (sp tu pt pc ps : Nat → Nat) (pa : Nat → Bool) (r d u g w : Int32) (y : Int32) (hlt : l.stackTraces = false) (hS : SY ow (K, N, I, Q, J) x n c al sp tu pt m pc pa ps r d u g w) (hno : ∀ i, i < n → 0 < tu i → ¬ cv1 (c i) = y)  : XMT l yX8_depthInTurning cX8_depthInTurning 3 (some .int) rm_X8_depthInTurningN G Ri [.ref x, .int y] (K, N, I, Q, J) (fun _ _ => False) (fun E S1 => E = eNS ∧ ∃ ow1, FR8 ow ow1 (K, N, I, Q, J) S1 ∧ SY ow1 S1 x n c al sp tu pt m pc pa ps r d u g w) := by
  refine x_metTi (lv := [_, _, _]) hlt rfl ⟨(Nat.le_of_ble_eq_true rfl), (Nat.le_of_ble_eq_true rfl)⟩ (by decide +kernel) (x_cc (by first | rfl | exact x_crf _) (x_cc (by first | rfl | exact x_crf _) x_cn)) (Nat.le_of_ble_eq_true rfl) rfl ?_
  intro pP eE sS mM aA bB hH cC Z C hini ret thr
  obtain ⟨t1, t7, t6, t5, hX0, H1, H7, H6, H5, hE0, hn, hb⟩ := id hS
  obtain ⟨hx, hox, hq1, hq7, hq6, hq5⟩ := id hX0
  obtain ⟨e1, e2, e3, e4, e5⟩ := id hE0
  have hx : K x = 8 := hx
  have hq1 : Q x 0 = some t1 := hq1
  have hq7 : Q x 1 = some t7 := hq7
  have hq6 : Q x 2 = some t6 := hq6
  have hq5 : Q x 3 = some t5 := hq5
  have kt1 : K t1 = 2 := H1.kc.1
  have kt7 : K t7 = 7 := H7.kc
  have kt6 : K t6 = 6 := H6.kc
  have kt5 : K t5 = 5 := H5.kc.1
  have l1 : I t1 3 = nI (cn al n) := H1.kc.2
  have l5 : I t5 3 = nI (cn pa m) := H5.kc.2.1
  have hm120 := H5.kc.2.2
  have l6 : I t6 1 = nI n := H6.cnt.1
  have l62 : I t6 2 = nI (cn al n) := H6.cnt.2.1
  have hup := H6.cnt.2.2.1
  have hcl := cn_le al n
  have hcm := cn_le pa m
  have e1 : I t1 4 = r := e1
  have e2 : I t1 5 = d := e2
  have e3 : I t7 2 = u := e3
  have e4 : I t6 3 = g := e4
  have e5 : I t5 4 = w := e5
  refine x_aload_n C D_X8_depthInTurning_0.1 rfl rfl (by first | exact Or.inr ⟨_, rfl⟩ | exact va_rf_or _ | exact Or.inl rfl) ?_
  refine x_getQ C (ci := 7) (k0 := 1) hx (by decide) rfl (by decide) in_X8 k_180 rfl rfl D_X8_depthInTurning_0.2.1 ?_
  refine x_eqr hq7 ?_
  refine x_iload_n C D_X8_depthInTurning_0.2.2.1 rfl rfl ?_
  refine x_callVi C (y := yX7_depthOf) (k7_depthN l G H7 hno) (ci := 6) kt7 (by decide) rfl rfl k_788 k_789 k_790 k_64 k_791 hd_X7_depthOf ⟨(Nat.le_of_ble_eq_true rfl), (Nat.le_of_ble_eq_true rfl)⟩ rfl (by first | exact Nat.le_of_ble_eq_true rfl | simp [x_crf, Value.category]) rfl rfl D_X8_depthInTurning_0.2.2.2.1 ⟨(Nat.le_of_ble_eq_true rfl), (Nat.le_of_ble_eq_true rfl)⟩ (fun r_5 S_5 h_5 => ?_)
  obtain ⟨rfl, hF, H7a, ht⟩ := h_5
  obtain ⟨K1, N1, I1, Q1, J1⟩ := S_5
  refine x_istore_n C (lv' := [_, _, _]) D_X8_depthInTurning_0.2.2.2.2.1 rfl (Nat.le_of_ble_eq_true rfl) (by first | rfl | exact x_ok_q rfl) rfl ?_
  refine x_iload_n C D_X8_depthInTurning_0.2.2.2.2.2.1 rfl rfl ?_
  refine x_iconst C (v := (-1)) D_X8_depthInTurning_0.2.2.2.2.2.2.1 (by decide +kernel) ?_
  refine x_icmp_ne C 24 D_X8_depthInTurning_0.2.2.2.2.2.2.2.1 (by decide) (fun c_11 => ?_) (fun c_11 => ?_)
  · skip
    exact absurd rfl c_11
    --end
  · skip
    refine thr _ _ _ _ _ _ _ 127 _ _ "the key is not there" thr_NS (by decide +kernel) D_X8_depthInTurning_0.2.2.2.2.2.2.2.2.1 D_X8_depthInTurning_0.2.2.2.2.2.2.2.2.2.1 D_X8_depthInTurning_0.2.2.2.2.2.2.2.2.2.2.1 D_X8_depthInTurning_0.2.2.2.2.2.2.2.2.2.2.2 D_X8_depthInTurning_1.1 (by first | exact Nat.le_of_ble_eq_true rfl | simp [x_crf, Value.category]) rfl (Nat.le_of_ble_eq_true rfl) (Nat.le_of_ble_eq_true rfl) ?_
    exact ⟨rfl, ow, hF.fr8 (by omega), SY.a7 hX0 H1 H6 H5 hE0 hn hb hF H7a (ht 2)⟩
abbrev rm_X8_turningRootY : Room := { frames := 6, cells := 1, slots := 6, locals := 90 }
theorem hd_X7_top : yX7_top.cls ≠ "java/lang/invoke/MethodHandle" ∧ yX7_top.cls ≠ "java/lang/invoke/VarHandle" ∧ (parseMethodDescriptor yX7_top.desc).map (fun d => d.parameters.length) = some 0 := by decide +kernel
set_option maxHeartbeats 4000000 in
set_option maxRecDepth 100000 in
theorem c_X8_turningRootY (l : Launch) (G : xG) {K N : Nat → Nat} {I : Nat → Nat → Int32} {Q : Nat → Nat → Option Nat} {J : Nat → Nat → Int64} (ow : xO) (x n m : Nat) (c : Nat → Nat) (al : Nat → Bool) (sp tu pt pc ps : Nat → Nat) (pa : Nat → Bool) (r d u g w : Int32) (k : Nat) (hlt : l.stackTraces = false) (hS : SY ow (K, N, I, Q, J) x n c al sp tu pt m pc pa ps r d u g w) (hlr : lastF (fun i => decide (tu i = 1)) n = some k)  : XMT l yX8_turningRoot cX8_turningRoot 2 (some .int) rm_X8_turningRootY G Ri [.ref x] (K, N, I, Q, J) (fun r_ S1 => r_ = cv1 (c k) ∧ ∃ ow1, FR8 ow ow1 (K, N, I, Q, J) S1 ∧ SY ow1 S1 x n c al sp tu pt m pc pa ps r d u g w) (fun _ _ => False) := by
  refine x_metTi (lv := [_, _]) hlt rfl ⟨(Nat.le_of_ble_eq_true rfl), (Nat.le_of_ble_eq_true rfl)⟩ (by decide +kernel) (x_cc (by first | rfl | exact x_crf _) x_cn) (Nat.le_of_ble_eq_true rfl) rfl ?_
  intro pP eE sS mM aA bB hH cC Z C hini ret thr
  obtain ⟨t1, t7, t6, t5, hX0, H1, H7, H6, H5, hE0, hn, hb⟩ := id hS
  obtain ⟨hx, hox, hq1, hq7, hq6, hq5⟩ := id hX0
  obtain ⟨e1, e2, e3, e4, e5⟩ := id hE0
  have hx : K x = 8 := hx
  have hq1 : Q x 0 = some t1 := hq1
  have hq7 : Q x 1 = some t7 := hq7
  have hq6 : Q x 2 = some t6 := hq6
  have hq5 : Q x 3 = some t5 := hq5
  have kt1 : K t1 = 2 := H1.kc.1
  have kt7 : K t7 = 7 := H7.kc
  have kt6 : K t6 = 6 := H6.kc
  have kt5 : K t5 = 5 := H5.kc.1
  have l1 : I t1 3 = nI (cn al n) := H1.kc.2
  have l5 : I t5 3 = nI (cn pa m) := H5.kc.2.1
  have hm120 := H5.kc.2.2
  have l6 : I t6 1 = nI n := H6.cnt.1
  have l62 : I t6 2 = nI (cn al n) := H6.cnt.2.1
  have hup := H6.cnt.2.2.1
  have hcl := cn_le al n
  have hcm := cn_le pa m
  have e1 : I t1 4 = r := e1
  have e2 : I t1 5 = d := e2
  have e3 : I t7 2 = u := e3
  have e4 : I t6 3 = g := e4
  have e5 : I t5 4 = w := e5
  refine x_aload_n C D_X8_turningRoot_0.1 rfl rfl (by first | exact Or.inr ⟨_, rfl⟩ | exact va_rf_or _ | exact Or.inl rfl) ?_
  refine x_getQ C (ci := 7) (k0 := 1) hx (by decide) rfl (by decide) in_X8 k_180 rfl rfl D_X8_turningRoot_0.2.1 ?_
  refine x_eqr hq7 ?_
  refine x_callVq C (y := yX7_top) (c_X7_top l G t7 kt7) (ci := 6) kt7 (by decide) rfl rfl k_800 k_801 k_802 k_64 k_803 hd_X7_top ⟨(Nat.le_of_ble_eq_true rfl), (Nat.le_of_ble_eq_true rfl)⟩ rfl (by first | exact Nat.le_of_ble_eq_true rfl | simp [x_crf, Value.category]) rfl rfl D_X8_turningRoot_0.2.2.1 ⟨(Nat.le_of_ble_eq_true rfl), (Nat.le_of_ble_eq_true rfl)⟩ (fun r_4 S_4 h_4 => ?_)
  obtain ⟨rfl, rfl⟩ := h_4
  rcases H7.top with ⟨hl9, ht9⟩ | ⟨k9, q9, hl9, hk9, ht9, kq9, iq9⟩
  · rw [hlr] at hl9; cases hl9
  have ht9 : Q t7 1 = some q9 := ht9
  have kq9 : K q9 = 3 := kq9
  obtain rfl : k = k9 := Option.some.inj (hlr.symm.trans hl9)
  refine x_eqq (some q9) ht9 ?_
  refine x_astore_n C (lv' := [_, _]) D_X8_turningRoot_0.2.2.2.1 rfl (Nat.le_of_ble_eq_true rfl) (by first | rfl | exact x_ok_q rfl) (by first | exact Or.inr ⟨_, rfl⟩ | exact va_rf_or _ | exact Or.inl rfl) rfl ?_
  refine x_aload_n C D_X8_turningRoot_0.2.2.2.2.1 rfl rfl (by first | exact Or.inr ⟨_, rfl⟩ | exact va_rf_or _ | exact Or.inl rfl) ?_
  refine x_ifnonnull C 22 D_X8_turningRoot_0.2.2.2.2.2.1 (by decide) (fun q8 e_9 => ?_) (fun e_9 => ?_)
  · skip
    obtain rfl : q9 = q8 := Option.some.inj e_9
    refine x_aload_n C D_X8_turningRoot_0.2.2.2.2.2.2.2.2.2.2.2 rfl rfl (by first | exact Or.inr ⟨_, rfl⟩ | exact va_rf_or _ | exact Or.inl rfl) ?_
    refine x_getI C (ci := 2) (k0 := 0) kq9 (by decide) rfl (by decide) in_X3 k_612 rfl rfl D_X8_turningRoot_1.1 ?_
    refine x_eqi _ iq9 ?_
    refine ret _ _ _ _ _ _ rfl D_X8_turningRoot_1.2 (Nat.le_of_ble_eq_true rfl) (Nat.le_of_ble_eq_true rfl) ?_
    exact ⟨rfl, ow, FR8.refl _ _, hS⟩
  · skip
    exact absurd e_9 (by simp)
    --end
abbrev rm_X8_turningRootN : Room := { frames := 6, cells := 1, slots := 6, locals := 90 }
set_option maxHeartbeats 4000000 in
set_option maxRecDepth 100000 in
theorem c_X8_turningRootN (l : Launch) (G : xG) {K N : Nat → Nat} {I : Nat → Nat → Int32} {Q : Nat → Nat → Option Nat} {J : Nat → Nat → Int64} (ow : xO) (x n m : Nat) (c : Nat → Nat) (al : Nat → Bool) (sp tu pt pc ps : Nat → Nat) (pa : Nat → Bool) (r d u g w : Int32) (hlt : l.stackTraces = false) (hS : SY ow (K, N, I, Q, J) x n c al sp tu pt m pc pa ps r d u g w) (hlr : lastF (fun i => decide (tu i = 1)) n = none)  : XMT l yX8_turningRoot cX8_turningRoot 2 (some .int) rm_X8_turningRootN G Ri [.ref x] (K, N, I, Q, J) (fun _ _ => False) (fun E S1 => E = eNS ∧ ∃ ow1, FR8 ow ow1 (K, N, I, Q, J) S1 ∧ SY ow1 S1 x n c al sp tu pt m pc pa ps r d u g w) := by
  refine x_metTi (lv := [_, _]) hlt rfl ⟨(Nat.le_of_ble_eq_true rfl), (Nat.le_of_ble_eq_true rfl)⟩ (by decide +kernel) (x_cc (by first | rfl | exact x_crf _) x_cn) (Nat.le_of_ble_eq_true rfl) rfl ?_
  intro pP eE sS mM aA bB hH cC Z C hini ret thr
  obtain ⟨t1, t7, t6, t5, hX0, H1, H7, H6, H5, hE0, hn, hb⟩ := id hS
  obtain ⟨hx, hox, hq1, hq7, hq6, hq5⟩ := id hX0
  obtain ⟨e1, e2, e3, e4, e5⟩ := id hE0
  have hx : K x = 8 := hx
  have hq1 : Q x 0 = some t1 := hq1
  have hq7 : Q x 1 = some t7 := hq7
  have hq6 : Q x 2 = some t6 := hq6
  have hq5 : Q x 3 = some t5 := hq5
  have kt1 : K t1 = 2 := H1.kc.1
  have kt7 : K t7 = 7 := H7.kc
  have kt6 : K t6 = 6 := H6.kc
  have kt5 : K t5 = 5 := H5.kc.1
  have l1 : I t1 3 = nI (cn al n) := H1.kc.2
  have l5 : I t5 3 = nI (cn pa m) := H5.kc.2.1
  have hm120 := H5.kc.2.2
  have l6 : I t6 1 = nI n := H6.cnt.1
  have l62 : I t6 2 = nI (cn al n) := H6.cnt.2.1
  have hup := H6.cnt.2.2.1
  have hcl := cn_le al n
  have hcm := cn_le pa m
  have e1 : I t1 4 = r := e1
  have e2 : I t1 5 = d := e2
  have e3 : I t7 2 = u := e3
  have e4 : I t6 3 = g := e4
  have e5 : I t5 4 = w := e5
  refine x_aload_n C D_X8_turningRoot_0.1 rfl rfl (by first | exact Or.inr ⟨_, rfl⟩ | exact va_rf_or _ | exact Or.inl rfl) ?_
  refine x_getQ C (ci := 7) (k0 := 1) hx (by decide) rfl (by decide) in_X8 k_180 rfl rfl D_X8_turningRoot_0.2.1 ?_
  refine x_eqr hq7 ?_
  refine x_callVq C (y := yX7_top) (c_X7_top l G t7 kt7) (ci := 6) kt7 (by decide) rfl rfl k_800 k_801 k_802 k_64 k_803 hd_X7_top ⟨(Nat.le_of_ble_eq_true rfl), (Nat.le_of_ble_eq_true rfl)⟩ rfl (by first | exact Nat.le_of_ble_eq_true rfl | simp [x_crf, Value.category]) rfl rfl D_X8_turningRoot_0.2.2.1 ⟨(Nat.le_of_ble_eq_true rfl), (Nat.le_of_ble_eq_true rfl)⟩ (fun r_4 S_4 h_4 => ?_)
  obtain ⟨rfl, rfl⟩ := h_4
  have ht9 : Q t7 1 = none := by
    rcases H7.top with ⟨hl9, ht9⟩ | ⟨k9, q9, hl9, -⟩
    · exact ht9
    · rw [hlr] at hl9; cases hl9
  refine x_eqq none ht9 ?_
  refine x_astore_n C (lv' := [_, _]) D_X8_turningRoot_0.2.2.2.1 rfl (Nat.le_of_ble_eq_true rfl) (by first | rfl | exact x_ok_q rfl) (by first | exact Or.inr ⟨_, rfl⟩ | exact va_rf_or _ | exact Or.inl rfl) rfl ?_
  refine x_aload_n C D_X8_turningRoot_0.2.2.2.2.1 rfl rfl (by first | exact Or.inr ⟨_, rfl⟩ | exact va_rf_or _ | exact Or.inl rfl) ?_
  refine x_ifnonnull C 22 D_X8_turningRoot_0.2.2.2.2.2.1 (by decide) (fun q_9 e_9 => ?_) (fun e_9 => ?_)
  · skip
    exact absurd e_9 (by simp)
    --end
  · skip
    refine thr _ _ _ _ _ _ _ 133 _ _ "there are no keys" thr_NS (by decide +kernel) D_X8_turningRoot_0.2.2.2.2.2.2.1 D_X8_turningRoot_0.2.2.2.2.2.2.2.1 D_X8_turningRoot_0.2.2.2.2.2.2.2.2.1 D_X8_turningRoot_0.2.2.2.2.2.2.2.2.2.1 D_X8_turningRoot_0.2.2.2.2.2.2.2.2.2.2.1 (by first | exact Nat.le_of_ble_eq_true rfl | simp [x_crf, Value.category]) rfl (Nat.le_of_ble_eq_true rfl) (Nat.le_of_ble_eq_true rfl) ?_
    exact ⟨rfl, ow, FR8.refl _ _, hS⟩
abbrev rm_X8_partOfY : Room := { frames := 6, cells := 1, slots := 6, locals := 90 }
set_option maxHeartbeats 4000000 in
set_option maxRecDepth 100000 in
theorem c_X8_partOfY (l : Launch) (G : xG) {K N : Nat → Nat} {I : Nat → Nat → Int32} {Q : Nat → Nat → Option Nat} {J : Nat → Nat → Int64} (ow : xO) (x n m : Nat) (c : Nat → Nat) (al : Nat → Bool) (sp tu pt pc ps : Nat → Nat) (pa : Nat → Bool) (r d u g w : Int32) (k : Nat) (hlt : l.stackTraces = false) (hS : SY ow (K, N, I, Q, J) x n c al sp tu pt m pc pa ps r d u g w) (hk : k < n)  : XMT l yX8_partOf cX8_partOf 3 (some .int) rm_X8_partOfY G Ri [.ref x, .int (cv1 (c k))] (K, N, I, Q, J) (fun r_ S1 => r_ = nI (pt k) ∧ ∃ ow1, FR8 ow ow1 (K, N, I, Q, J) S1 ∧ SY ow1 S1 x n c al sp tu pt m pc pa ps r d u g w) (fun _ _ => False) := by
  refine x_metTi (lv := [_, _, _]) hlt rfl ⟨(Nat.le_of_ble_eq_true rfl), (Nat.le_of_ble_eq_true rfl)⟩ (by decide +kernel) (x_cc (by first | rfl | exact x_crf _) (x_cc (by first | rfl | exact x_crf _) x_cn)) (Nat.le_of_ble_eq_true rfl) rfl ?_
  intro pP eE sS mM aA bB hH cC Z C hini ret thr
  obtain ⟨t1, t7, t6, t5, hX0, H1, H7, H6, H5, hE0, hn, hb⟩ := id hS
  obtain ⟨hx, hox, hq1, hq7, hq6, hq5⟩ := id hX0
  obtain ⟨e1, e2, e3, e4, e5⟩ := id hE0
  have hx : K x = 8 := hx
  have hq1 : Q x 0 = some t1 := hq1
  have hq7 : Q x 1 = some t7 := hq7
  have hq6 : Q x 2 = some t6 := hq6
  have hq5 : Q x 3 = some t5 := hq5
  have kt1 : K t1 = 2 := H1.kc.1
  have kt7 : K t7 = 7 := H7.kc
  have kt6 : K t6 = 6 := H6.kc
  have kt5 : K t5 = 5 := H5.kc.1
  have l1 : I t1 3 = nI (cn al n) := H1.kc.2
  have l5 : I t5 3 = nI (cn pa m) := H5.kc.2.1
  have hm120 := H5.kc.2.2
  have l6 : I t6 1 = nI n := H6.cnt.1
  have l62 : I t6 2 = nI (cn al n) := H6.cnt.2.1
  have hup := H6.cnt.2.2.1
  have hcl := cn_le al n
  have hcm := cn_le pa m
  have e1 : I t1 4 = r := e1
  have e2 : I t1 5 = d := e2
  have e3 : I t7 2 = u := e3
  have e4 : I t6 3 = g := e4
  have e5 : I t5 4 = w := e5
  refine x_aload_n C D_X8_partOf_0.1 rfl rfl (by first | exact Or.inr ⟨_, rfl⟩ | exact va_rf_or _ | exact Or.inl rfl) ?_
  refine x_getQ C (ci := 7) (k0 := 2) hx (by decide) rfl (by decide) in_X8 k_181 rfl rfl D_X8_partOf_0.2.1 ?_
  refine x_eqr hq6 ?_
  refine x_iload_n C D_X8_partOf_0.2.2.1 rfl rfl ?_
  refine x_callVq C (y := yX6_find) (k6_findY l G H6 hn hk (hb k hk)) (ci := 5) kt6 (by decide) rfl rfl k_812 k_201 k_202 k_65 k_203 hd_X6_find ⟨(Nat.le_of_ble_eq_true rfl), (Nat.le_of_ble_eq_true rfl)⟩ rfl (by first | exact Nat.le_of_ble_eq_true rfl | simp [x_crf, Value.category]) rfl rfl D_X8_partOf_0.2.2.2.1 ⟨(Nat.le_of_ble_eq_true rfl), (Nat.le_of_ble_eq_true rfl)⟩ (fun r_5 S_5 h_5 => ?_)
  obtain ⟨⟨e0, rfl, ke0, ie0⟩, rfl⟩ := h_5
  refine x_astore_n C (lv' := [_, _, _]) D_X8_partOf_0.2.2.2.2.1 rfl (Nat.le_of_ble_eq_true rfl) (by first | rfl | exact x_ok_q rfl) (by first | exact Or.inr ⟨_, rfl⟩ | exact va_rf_or _ | exact Or.inl rfl) rfl ?_
  refine x_aload_n C D_X8_partOf_0.2.2.2.2.2.1 rfl rfl (by first | exact Or.inr ⟨_, rfl⟩ | exact va_rf_or _ | exact Or.inl rfl) ?_
  refine x_ifnonnull C 23 D_X8_partOf_0.2.2.2.2.2.2.1 (by decide) (fun q9 e_10 => ?_) (fun e_10 => ?_)
  · skip
    obtain rfl : e0 = q9 := Option.some.inj e_10
    refine x_aload_n C D_X8_partOf_1.1 rfl rfl (by first | exact Or.inr ⟨_, rfl⟩ | exact va_rf_or _ | exact Or.inl rfl) ?_
    refine x_getI C (ci := 0) (k0 := 2) ke0 (by decide) rfl (by decide) in_X0 k_685 rfl rfl D_X8_partOf_1.2.1 ?_
    refine x_eqi _ ie0 ?_
    refine ret _ _ _ _ _ _ rfl D_X8_partOf_1.2.2 (Nat.le_of_ble_eq_true rfl) (Nat.le_of_ble_eq_true rfl) ?_
    exact ⟨rfl, ow, FR8.refl _ _, hS⟩
  · skip
    exact absurd e_10 (by simp)
    --end
abbrev rm_X8_partOfN : Room := { frames := 6, cells := 1, slots := 6, locals := 90 }
set_option maxHeartbeats 4000000 in
set_option maxRecDepth 100000 in
theorem c_X8_partOfN (l : Launch) (G : xG) {K N : Nat → Nat} {I : Nat → Nat → Int32} {Q : Nat → Nat → Option Nat} {J : Nat → Nat → Int64} (ow : xO) (x n m : Nat) (c : Nat → Nat) (al : Nat → Bool) (sp tu pt pc ps : Nat → Nat) (pa : Nat → Bool) (r d u g w : Int32) (y : Int32) (hlt : l.stackTraces = false) (hS : SY ow (K, N, I, Q, J) x n c al sp tu pt m pc pa ps r d u g w) (hno : ∀ i, i < n → ¬ cv1 (c i) = y)  : XMT l yX8_partOf cX8_partOf 3 (some .int) rm_X8_partOfN G Ri [.ref x, .int y] (K, N, I, Q, J) (fun _ _ => False) (fun E S1 => E = eNS ∧ ∃ ow1, FR8 ow ow1 (K, N, I, Q, J) S1 ∧ SY ow1 S1 x n c al sp tu pt m pc pa ps r d u g w) := by
  refine x_metTi (lv := [_, _, _]) hlt rfl ⟨(Nat.le_of_ble_eq_true rfl), (Nat.le_of_ble_eq_true rfl)⟩ (by decide +kernel) (x_cc (by first | rfl | exact x_crf _) (x_cc (by first | rfl | exact x_crf _) x_cn)) (Nat.le_of_ble_eq_true rfl) rfl ?_
  intro pP eE sS mM aA bB hH cC Z C hini ret thr
  obtain ⟨t1, t7, t6, t5, hX0, H1, H7, H6, H5, hE0, hn, hb⟩ := id hS
  obtain ⟨hx, hox, hq1, hq7, hq6, hq5⟩ := id hX0
  obtain ⟨e1, e2, e3, e4, e5⟩ := id hE0
  have hx : K x = 8 := hx
  have hq1 : Q x 0 = some t1 := hq1
  have hq7 : Q x 1 = some t7 := hq7
  have hq6 : Q x 2 = some t6 := hq6
  have hq5 : Q x 3 = some t5 := hq5
  have kt1 : K t1 = 2 := H1.kc.1
  have kt7 : K t7 = 7 := H7.kc
  have kt6 : K t6 = 6 := H6.kc
  have kt5 : K t5 = 5 := H5.kc.1
  have l1 : I t1 3 = nI (cn al n) := H1.kc.2
  have l5 : I t5 3 = nI (cn pa m) := H5.kc.2.1
  have hm120 := H5.kc.2.2
  have l6 : I t6 1 = nI n := H6.cnt.1
  have l62 : I t6 2 = nI (cn al n) := H6.cnt.2.1
  have hup := H6.cnt.2.2.1
  have hcl := cn_le al n
  have hcm := cn_le pa m
  have e1 : I t1 4 = r := e1
  have e2 : I t1 5 = d := e2
  have e3 : I t7 2 = u := e3
  have e4 : I t6 3 = g := e4
  have e5 : I t5 4 = w := e5
  refine x_aload_n C D_X8_partOf_0.1 rfl rfl (by first | exact Or.inr ⟨_, rfl⟩ | exact va_rf_or _ | exact Or.inl rfl) ?_
  refine x_getQ C (ci := 7) (k0 := 2) hx (by decide) rfl (by decide) in_X8 k_181 rfl rfl D_X8_partOf_0.2.1 ?_
  refine x_eqr hq6 ?_
  refine x_iload_n C D_X8_partOf_0.2.2.1 rfl rfl ?_
  refine x_callVq C (y := yX6_find) (k6_findN l G H6 hn hno) (ci := 5) kt6 (by decide) rfl rfl k_812 k_201 k_202 k_65 k_203 hd_X6_find ⟨(Nat.le_of_ble_eq_true rfl), (Nat.le_of_ble_eq_true rfl)⟩ rfl (by first | exact Nat.le_of_ble_eq_true rfl | simp [x_crf, Value.category]) rfl rfl D_X8_partOf_0.2.2.2.1 ⟨(Nat.le_of_ble_eq_true rfl), (Nat.le_of_ble_eq_true rfl)⟩ (fun r_5 S_5 h_5 => ?_)
  obtain ⟨rfl, rfl⟩ := h_5
  refine x_astore_n C (lv' := [_, _, _]) D_X8_partOf_0.2.2.2.2.1 rfl (Nat.le_of_ble_eq_true rfl) (by first | rfl | exact x_ok_q rfl) (by first | exact Or.inr ⟨_, rfl⟩ | exact va_rf_or _ | exact Or.inl rfl) rfl ?_
  refine x_aload_n C D_X8_partOf_0.2.2.2.2.2.1 rfl rfl (by first | exact Or.inr ⟨_, rfl⟩ | exact va_rf_or _ | exact Or.inl rfl) ?_
  refine x_ifnonnull C 23 D_X8_partOf_0.2.2.2.2.2.2.1 (by decide) (fun q_10 e_10 => ?_) (fun e_10 => ?_)
  · skip
    exact absurd e_10 (by simp)
    --end
  · skip
    refine thr _ _ _ _ _ _ _ 144 _ _ "no entry has this key" thr_NS (by decide +kernel) D_X8_partOf_0.2.2.2.2.2.2.2.1 D_X8_partOf_0.2.2.2.2.2.2.2.2.1 D_X8_partOf_0.2.2.2.2.2.2.2.2.2.1 D_X8_partOf_0.2.2.2.2.2.2.2.2.2.2.1 D_X8_partOf_0.2.2.2.2.2.2.2.2.2.2.2 (by first | exact Nat.le_of_ble_eq_true rfl | simp [x_crf, Value.category]) rfl (Nat.le_of_ble_eq_true rfl) (Nat.le_of_ble_eq_true rfl) ?_
    exact ⟨rfl, ow, FR8.refl _ _, hS⟩
abbrev rm_X8_entryP : Room := { frames := 6, cells := 1, slots := 6, locals := 90 }
theorem hd_X6_hasPart : yX6_hasPart.cls ≠ "java/lang/invoke/MethodHandle" ∧ yX6_hasPart.cls ≠ "java/lang/invoke/VarHandle" ∧ (parseMethodDescriptor yX6_hasPart.desc).map (fun d => d.parameters.length) = some 1 := by decide +kernel
set_option maxHeartbeats 4000000 in
set_option maxRecDepth 100000 in
theorem c_X8_entryP (l : Launch) (G : xG) {K N : Nat → Nat} {I : Nat → Nat → Int32} {Q : Nat → Nat → Option Nat} {J : Nat → Nat → Int64} (ow : xO) (x n m : Nat) (c : Nat → Nat) (al : Nat → Bool) (sp tu pt pc ps : Nat → Nat) (pa : Nat → Bool) (r d u g w : Int32) (y z : Int32) (hlt : l.stackTraces = false) (hS : SY ow (K, N, I, Q, J) x n c al sp tu pt m pc pa ps r d u g w) (hp : cn (fun i => decide (nI (pt i) = y)) n = 0)  : XMT l yX8_entry cX8_entry 4 (some .int) rm_X8_entryP G Ri [.ref x, .int y, .int z] (K, N, I, Q, J) (fun _ _ => False) (fun E S1 => E = eNS ∧ ∃ ow1, FR8 ow ow1 (K, N, I, Q, J) S1 ∧ SY ow1 S1 x n c al sp tu pt m pc pa ps r d u g w) := by
  refine x_metTi (lv := [_, _, _, _]) hlt rfl ⟨(Nat.le_of_ble_eq_true rfl), (Nat.le_of_ble_eq_true rfl)⟩ (by decide +kernel) (x_cc (by first | rfl | exact x_crf _) (x_cc (by first | rfl | exact x_crf _) (x_cc (by first | rfl | exact x_crf _) x_cn))) (Nat.le_of_ble_eq_true rfl) rfl ?_
  intro pP eE sS mM aA bB hH cC Z C hini ret thr
  obtain ⟨t1, t7, t6, t5, hX0, H1, H7, H6, H5, hE0, hn, hb⟩ := id hS
  obtain ⟨hx, hox, hq1, hq7, hq6, hq5⟩ := id hX0
  obtain ⟨e1, e2, e3, e4, e5⟩ := id hE0
  have hx : K x = 8 := hx
  have hq1 : Q x 0 = some t1 := hq1
  have hq7 : Q x 1 = some t7 := hq7
  have hq6 : Q x 2 = some t6 := hq6
  have hq5 : Q x 3 = some t5 := hq5
  have kt1 : K t1 = 2 := H1.kc.1
  have kt7 : K t7 = 7 := H7.kc
  have kt6 : K t6 = 6 := H6.kc
  have kt5 : K t5 = 5 := H5.kc.1
  have l1 : I t1 3 = nI (cn al n) := H1.kc.2
  have l5 : I t5 3 = nI (cn pa m) := H5.kc.2.1
  have hm120 := H5.kc.2.2
  have l6 : I t6 1 = nI n := H6.cnt.1
  have l62 : I t6 2 = nI (cn al n) := H6.cnt.2.1
  have hup := H6.cnt.2.2.1
  have hcl := cn_le al n
  have hcm := cn_le pa m
  have e1 : I t1 4 = r := e1
  have e2 : I t1 5 = d := e2
  have e3 : I t7 2 = u := e3
  have e4 : I t6 3 = g := e4
  have e5 : I t5 4 = w := e5
  refine x_aload_n C D_X8_entry_0.1 rfl rfl (by first | exact Or.inr ⟨_, rfl⟩ | exact va_rf_or _ | exact Or.inl rfl) ?_
  refine x_getQ C (ci := 7) (k0 := 2) hx (by decide) rfl (by decide) in_X8 k_181 rfl rfl D_X8_entry_0.2.1 ?_
  refine x_eqr hq6 ?_
  refine x_iload_n C D_X8_entry_0.2.2.1 rfl rfl ?_
  refine x_callVz C (y := yX6_hasPart) (k6_hasPart (x := y) l G H6 hn) (ci := 5) kt6 (by decide) rfl rfl k_821 k_822 k_823 k_65 k_824 hd_X6_hasPart ⟨(Nat.le_of_ble_eq_true rfl), (Nat.le_of_ble_eq_true rfl)⟩ rfl (by first | exact Nat.le_of_ble_eq_true rfl | simp [x_crf, Value.category]) rfl rfl D_X8_entry_0.2.2.2.1 ⟨(Nat.le_of_ble_eq_true rfl), (Nat.le_of_ble_eq_true rfl)⟩ (fun r_5 S_5 h_5 => ?_)
  obtain ⟨rfl, rfl⟩ := h_5
  rw [show decide (0 < cn (fun i => decide (nI (pt i) = y)) n) = false from decide_eq_false (by omega)]
  refine x_if_ne C 21 D_X8_entry_0.2.2.2.2.1 (by decide) (fun c_8 => ?_) (fun c_8 => ?_)
  · skip
    exact absurd rfl c_8
    --end
  · skip
    refine thr _ _ _ _ _ _ _ 152 _ _ "no part has this number" thr_NS (by decide +kernel) D_X8_entry_0.2.2.2.2.2.1 D_X8_entry_0.2.2.2.2.2.2.1 D_X8_entry_0.2.2.2.2.2.2.2.1 D_X8_entry_0.2.2.2.2.2.2.2.2.1 D_X8_entry_0.2.2.2.2.2.2.2.2.2.1 (by first | exact Nat.le_of_ble_eq_true rfl | simp [x_crf, Value.category]) rfl (Nat.le_of_ble_eq_true rfl) (Nat.le_of_ble_eq_true rfl) ?_
    exact ⟨rfl, ow, FR8.refl _ _, hS⟩
abbrev rm_X8_entryN : Room := { frames := 6, cells := 1, slots := 6, locals := 90 }
theorem hd_X6_entryAt : yX6_entryAt.cls ≠ "java/lang/invoke/MethodHandle" ∧ yX6_entryAt.cls ≠ "java/lang/invoke/VarHandle" ∧ (parseMethodDescriptor yX6_entryAt.desc).map (fun d => d.parameters.length) = some 2 := by decide +kernel
set_option maxHeartbeats 4000000 in
set_option maxRecDepth 100000 in
theorem c_X8_entryN (l : Launch) (G : xG) {K N : Nat → Nat} {I : Nat → Nat → Int32} {Q : Nat → Nat → Option Nat} {J : Nat → Nat → Int64} (ow : xO) (x n m : Nat) (c : Nat → Nat) (al : Nat → Bool) (sp tu pt pc ps : Nat → Nat) (pa : Nat → Bool) (r d u g w : Int32) (y z : Int32) (hlt : l.stackTraces = false) (hS : SY ow (K, N, I, Q, J) x n c al sp tu pt m pc pa ps r d u g w) (hp : 0 < cn (fun i => decide (nI (pt i) = y)) n) (hz : z < 0 ∨ nI (cn (fun i => decide (nI (pt i) = y)) n) ≤ z)  : XMT l yX8_entry cX8_entry 4 (some .int) rm_X8_entryN G Ri [.ref x, .int y, .int z] (K, N, I, Q, J) (fun _ _ => False) (fun E S1 => E = eIO ∧ ∃ ow1, FR8 ow ow1 (K, N, I, Q, J) S1 ∧ SY ow1 S1 x n c al sp tu pt m pc pa ps r d u g w) := by
  refine x_metTi (lv := [_, _, _, _]) hlt rfl ⟨(Nat.le_of_ble_eq_true rfl), (Nat.le_of_ble_eq_true rfl)⟩ (by decide +kernel) (x_cc (by first | rfl | exact x_crf _) (x_cc (by first | rfl | exact x_crf _) (x_cc (by first | rfl | exact x_crf _) x_cn))) (Nat.le_of_ble_eq_true rfl) rfl ?_
  intro pP eE sS mM aA bB hH cC Z C hini ret thr
  obtain ⟨t1, t7, t6, t5, hX0, H1, H7, H6, H5, hE0, hn, hb⟩ := id hS
  obtain ⟨hx, hox, hq1, hq7, hq6, hq5⟩ := id hX0
  obtain ⟨e1, e2, e3, e4, e5⟩ := id hE0
  have hx : K x = 8 := hx
  have hq1 : Q x 0 = some t1 := hq1
  have hq7 : Q x 1 = some t7 := hq7
  have hq6 : Q x 2 = some t6 := hq6
  have hq5 : Q x 3 = some t5 := hq5
  have kt1 : K t1 = 2 := H1.kc.1
  have kt7 : K t7 = 7 := H7.kc
  have kt6 : K t6 = 6 := H6.kc
  have kt5 : K t5 = 5 := H5.kc.1
  have l1 : I t1 3 = nI (cn al n) := H1.kc.2
  have l5 : I t5 3 = nI (cn pa m) := H5.kc.2.1
  have hm120 := H5.kc.2.2
  have l6 : I t6 1 = nI n := H6.cnt.1
  have l62 : I t6 2 = nI (cn al n) := H6.cnt.2.1
  have hup := H6.cnt.2.2.1
  have hcl := cn_le al n
  have hcm := cn_le pa m
  have e1 : I t1 4 = r := e1
  have e2 : I t1 5 = d := e2
  have e3 : I t7 2 = u := e3
  have e4 : I t6 3 = g := e4
  have e5 : I t5 4 = w := e5
  refine x_aload_n C D_X8_entry_0.1 rfl rfl (by first | exact Or.inr ⟨_, rfl⟩ | exact va_rf_or _ | exact Or.inl rfl) ?_
  refine x_getQ C (ci := 7) (k0 := 2) hx (by decide) rfl (by decide) in_X8 k_181 rfl rfl D_X8_entry_0.2.1 ?_
  refine x_eqr hq6 ?_
  refine x_iload_n C D_X8_entry_0.2.2.1 rfl rfl ?_
  refine x_callVz C (y := yX6_hasPart) (k6_hasPart (x := y) l G H6 hn) (ci := 5) kt6 (by decide) rfl rfl k_821 k_822 k_823 k_65 k_824 hd_X6_hasPart ⟨(Nat.le_of_ble_eq_true rfl), (Nat.le_of_ble_eq_true rfl)⟩ rfl (by first | exact Nat.le_of_ble_eq_true rfl | simp [x_crf, Value.category]) rfl rfl D_X8_entry_0.2.2.2.1 ⟨(Nat.le_of_ble_eq_true rfl), (Nat.le_of_ble_eq_true rfl)⟩ (fun r_5 S_5 h_5 => ?_)
  obtain ⟨rfl, rfl⟩ := h_5
  rw [show decide (0 < cn (fun i => decide (nI (pt i) = y)) n) = true from decide_eq_true hp]
  refine x_if_ne C 21 D_X8_entry_0.2.2.2.2.1 (by decide) (fun c_8 => ?_) (fun c_8 => ?_)
  · skip
    refine x_aload_n C D_X8_entry_0.2.2.2.2.2.2.2.2.2.2.1 rfl rfl (by first | exact Or.inr ⟨_, rfl⟩ | exact va_rf_or _ | exact Or.inl rfl) ?_
    refine x_getQ C (ci := 7) (k0 := 2) hx (by decide) rfl (by decide) in_X8 k_181 rfl rfl D_X8_entry_0.2.2.2.2.2.2.2.2.2.2.2 ?_
    refine x_eqr hq6 ?_
    refine x_iload_n C D_X8_entry_1.1 rfl rfl ?_
    refine x_iload_n C D_X8_entry_1.2.1 rfl rfl ?_
    refine x_callVq C (y := yX6_entryAt) (k6_entryN l G H6 hn hz) (ci := 5) kt6 (by decide) rfl rfl k_826 k_827 k_828 k_65 k_829 hd_X6_entryAt ⟨(Nat.le_of_ble_eq_true rfl), (Nat.le_of_ble_eq_true rfl)⟩ rfl (by first | exact Nat.le_of_ble_eq_true rfl | simp [x_crf, Value.category]) rfl rfl D_X8_entry_1.2.2.1 ⟨(Nat.le_of_ble_eq_true rfl), (Nat.le_of_ble_eq_true rfl)⟩ (fun r_27 S_27 h_27 => ?_)
    obtain ⟨rfl, rfl⟩ := h_27
    refine x_astore_n C (lv' := [_, _, _, _]) D_X8_entry_1.2.2.2.1 rfl (Nat.le_of_ble_eq_true rfl) (by first | rfl | exact x_ok_q rfl) (by first | exact Or.inr ⟨_, rfl⟩ | exact va_rf_or _ | exact Or.inl rfl) rfl ?_
    refine x_aload_n C D_X8_entry_1.2.2.2.2.1 rfl rfl (by first | exact Or.inr ⟨_, rfl⟩ | exact va_rf_or _ | exact Or.inl rfl) ?_
    refine x_ifnonnull C 45 D_X8_entry_1.2.2.2.2.2.1 (by decide) (fun q_32 e_32 => ?_) (fun e_32 => ?_)
    · skip
      exact absurd e_32 (by simp)
      --end
    · skip
      refine thr _ _ _ _ _ _ _ 158 _ _ "the part has no entry at this place" thr_IO (by decide +kernel) D_X8_entry_1.2.2.2.2.2.2.1 D_X8_entry_1.2.2.2.2.2.2.2.1 D_X8_entry_1.2.2.2.2.2.2.2.2.1 D_X8_entry_1.2.2.2.2.2.2.2.2.2.1 D_X8_entry_1.2.2.2.2.2.2.2.2.2.2.1 (by first | exact Nat.le_of_ble_eq_true rfl | simp [x_crf, Value.category]) rfl (Nat.le_of_ble_eq_true rfl) (Nat.le_of_ble_eq_true rfl) ?_
      exact ⟨rfl, ow, FR8.refl _ _, hS⟩
  · skip
    exact absurd c_8 (by decide)
    --end
abbrev rm_X8_entryY : Room := { frames := 6, cells := 1, slots := 6, locals := 90 }
set_option maxHeartbeats 4000000 in
set_option maxRecDepth 100000 in
theorem c_X8_entryY (l : Launch) (G : xG) {K N : Nat → Nat} {I : Nat → Nat → Int32} {Q : Nat → Nat → Option Nat} {J : Nat → Nat → Int64} (ow : xO) (x n m : Nat) (c : Nat → Nat) (al : Nat → Bool) (sp tu pt pc ps : Nat → Nat) (pa : Nat → Bool) (r d u g w : Int32) (y : Int32) (j : Nat) (hlt : l.stackTraces = false) (hS : SY ow (K, N, I, Q, J) x n c al sp tu pt m pc pa ps r d u g w) (hp : 0 < cn (fun i => decide (nI (pt i) = y)) n) (hj : j < cn (fun i => decide (nI (pt i) = y)) n)  : XMT l yX8_entry cX8_entry 4 (some .int) rm_X8_entryY G Ri [.ref x, .int y, .int (nI j)] (K, N, I, Q, J) (fun r_ S1 => r_ = cv1 (c (selF (fun i => decide (nI (pt i) = y)) n j)) ∧ ∃ ow1, FR8 ow ow1 (K, N, I, Q, J) S1 ∧ SY ow1 S1 x n c al sp tu pt m pc pa ps r d u g w) (fun _ _ => False) := by
  refine x_metTi (lv := [_, _, _, _]) hlt rfl ⟨(Nat.le_of_ble_eq_true rfl), (Nat.le_of_ble_eq_true rfl)⟩ (by decide +kernel) (x_cc (by first | rfl | exact x_crf _) (x_cc (by first | rfl | exact x_crf _) (x_cc (by first | rfl | exact x_crf _) x_cn))) (Nat.le_of_ble_eq_true rfl) rfl ?_
  intro pP eE sS mM aA bB hH cC Z C hini ret thr
  obtain ⟨t1, t7, t6, t5, hX0, H1, H7, H6, H5, hE0, hn, hb⟩ := id hS
  obtain ⟨hx, hox, hq1, hq7, hq6, hq5⟩ := id hX0
  obtain ⟨e1, e2, e3, e4, e5⟩ := id hE0
  have hx : K x = 8 := hx
  have hq1 : Q x 0 = some t1 := hq1
  have hq7 : Q x 1 = some t7 := hq7
  have hq6 : Q x 2 = some t6 := hq6
  have hq5 : Q x 3 = some t5 := hq5
  have kt1 : K t1 = 2 := H1.kc.1
  have kt7 : K t7 = 7 := H7.kc
  have kt6 : K t6 = 6 := H6.kc
  have kt5 : K t5 = 5 := H5.kc.1
  have l1 : I t1 3 = nI (cn al n) := H1.kc.2
  have l5 : I t5 3 = nI (cn pa m) := H5.kc.2.1
  have hm120 := H5.kc.2.2
  have l6 : I t6 1 = nI n := H6.cnt.1
  have l62 : I t6 2 = nI (cn al n) := H6.cnt.2.1
  have hup := H6.cnt.2.2.1
  have hcl := cn_le al n
  have hcm := cn_le pa m
  have e1 : I t1 4 = r := e1
  have e2 : I t1 5 = d := e2
  have e3 : I t7 2 = u := e3
  have e4 : I t6 3 = g := e4
  have e5 : I t5 4 = w := e5
  refine x_aload_n C D_X8_entry_0.1 rfl rfl (by first | exact Or.inr ⟨_, rfl⟩ | exact va_rf_or _ | exact Or.inl rfl) ?_
  refine x_getQ C (ci := 7) (k0 := 2) hx (by decide) rfl (by decide) in_X8 k_181 rfl rfl D_X8_entry_0.2.1 ?_
  refine x_eqr hq6 ?_
  refine x_iload_n C D_X8_entry_0.2.2.1 rfl rfl ?_
  refine x_callVz C (y := yX6_hasPart) (k6_hasPart (x := y) l G H6 hn) (ci := 5) kt6 (by decide) rfl rfl k_821 k_822 k_823 k_65 k_824 hd_X6_hasPart ⟨(Nat.le_of_ble_eq_true rfl), (Nat.le_of_ble_eq_true rfl)⟩ rfl (by first | exact Nat.le_of_ble_eq_true rfl | simp [x_crf, Value.category]) rfl rfl D_X8_entry_0.2.2.2.1 ⟨(Nat.le_of_ble_eq_true rfl), (Nat.le_of_ble_eq_true rfl)⟩ (fun r_5 S_5 h_5 => ?_)
  obtain ⟨rfl, rfl⟩ := h_5
  rw [show decide (0 < cn (fun i => decide (nI (pt i) = y)) n) = true from decide_eq_true hp]
  refine x_if_ne C 21 D_X8_entry_0.2.2.2.2.1 (by decide) (fun c_8 => ?_) (fun c_8 => ?_)
  · skip
    refine x_aload_n C D_X8_entry_0.2.2.2.2.2.2.2.2.2.2.1 rfl rfl (by first | exact Or.inr ⟨_, rfl⟩ | exact va_rf_or _ | exact Or.inl rfl) ?_
    refine x_getQ C (ci := 7) (k0 := 2) hx (by decide) rfl (by decide) in_X8 k_181 rfl rfl D_X8_entry_0.2.2.2.2.2.2.2.2.2.2.2 ?_
    refine x_eqr hq6 ?_
    refine x_iload_n C D_X8_entry_1.1 rfl rfl ?_
    refine x_iload_n C D_X8_entry_1.2.1 rfl rfl ?_
    refine x_callVq C (y := yX6_entryAt) (k6_entryY l G H6 hn hj) (ci := 5) kt6 (by decide) rfl rfl k_826 k_827 k_828 k_65 k_829 hd_X6_entryAt ⟨(Nat.le_of_ble_eq_true rfl), (Nat.le_of_ble_eq_true rfl)⟩ rfl (by first | exact Nat.le_of_ble_eq_true rfl | simp [x_crf, Value.category]) rfl rfl D_X8_entry_1.2.2.1 ⟨(Nat.le_of_ble_eq_true rfl), (Nat.le_of_ble_eq_true rfl)⟩ (fun r_27 S_27 h_27 => ?_)
    obtain ⟨⟨e0, rfl, ke0, ie0⟩, rfl⟩ := h_27
    refine x_astore_n C (lv' := [_, _, _, _]) D_X8_entry_1.2.2.2.1 rfl (Nat.le_of_ble_eq_true rfl) (by first | rfl | exact x_ok_q rfl) (by first | exact Or.inr ⟨_, rfl⟩ | exact va_rf_or _ | exact Or.inl rfl) rfl ?_
    refine x_aload_n C D_X8_entry_1.2.2.2.2.1 rfl rfl (by first | exact Or.inr ⟨_, rfl⟩ | exact va_rf_or _ | exact Or.inl rfl) ?_
    refine x_ifnonnull C 45 D_X8_entry_1.2.2.2.2.2.1 (by decide) (fun q9 e_32 => ?_) (fun e_32 => ?_)
    · skip
      obtain rfl : e0 = q9 := Option.some.inj e_32
      refine x_aload_n C D_X8_entry_1.2.2.2.2.2.2.2.2.2.2.2 rfl rfl (by first | exact Or.inr ⟨_, rfl⟩ | exact va_rf_or _ | exact Or.inl rfl) ?_
      refine x_getI C (ci := 0) (k0 := 0) ke0 (by decide) rfl (by decide) in_X0 k_680 rfl rfl D_X8_entry_2.1 ?_
      refine x_eqi _ ie0 ?_
      refine ret _ _ _ _ _ _ rfl D_X8_entry_2.2 (Nat.le_of_ble_eq_true rfl) (Nat.le_of_ble_eq_true rfl) ?_
      exact ⟨rfl, ow, FR8.refl _ _, hS⟩
    · skip
      exact absurd e_32 (by simp)
      --end
  · skip
    exact absurd c_8 (by decide)
    --end
