theorem FRO.trans {c : Nat} {ow ow1 ow2 : xO} {S S1 S2 : xS} (h : FRO c ow ow1 S S1) (h2 : FRO c ow1 ow2 S1 S2) : FRO c ow ow2 S S2 := ⟨h2.1.trans h.1, fun q hq => by
  obtain ⟨a1, a2, a3, a4⟩ := h.2 q hq
  obtain ⟨b1, b2, b3, b4⟩ := h2.2 q (by rw [a2]; exact hq)
  refine ⟨b1.trans a1, b2.trans a2, b3.trans a3, fun h8 => ?_⟩
  obtain ⟨c1, c2⟩ := a4 h8
  obtain ⟨d1, d2⟩ := b4 (by rw [a1]; exact h8)
  exact ⟨d1.trans c1, d2.trans c2⟩⟩
theorem pl_99 {a : Nat} (h : a < 100) : ¬ nI a < 0 ∧ ¬ nI 99 < nI a := by
  refine ⟨nI_pos (by omega), fun z => ?_⟩
  rw [i32_lt, nI_toInt (by omega), nI_toInt (by omega)] at z
  omega
theorem is_pl {a b : Nat} (ha : a < 100) (hb : b < 100) : decide (¬ (nI a < 0 ∨ nI 99 < nI a ∨ nI b < 0 ∨ nI 99 < nI b)) = true := by
  refine decide_eq_true ?_
  rintro (h | h | h | h)
  · exact (pl_99 ha).1 h
  · exact (pl_99 ha).2 h
  · exact (pl_99 hb).1 h
  · exact (pl_99 hb).2 h
theorem is_np {y z : Int32} (h : y < 0 ∨ nI 99 < y ∨ z < 0 ∨ nI 99 < z) : decide (¬ (y < 0 ∨ nI 99 < y ∨ z < 0 ∨ nI 99 < z)) = false := decide_eq_false (fun k => k h)
theorem ni_m10 {j : Nat} (h : j < 10000) : ¬ nI j = -1 := fun e => by
  have h1 : (nI j).toInt = (-1 : Int32).toInt := by rw [e]
  rw [nI_toInt (by omega)] at h1
  have : (-1 : Int32).toInt = -1 := by decide
  omega
abbrev rm_X8_addPointR : Room := { frames := 6, cells := 1, slots := 6, locals := 90 }
theorem hd_X8_isPlace : yX8_isPlace.cls ≠ "java/lang/invoke/MethodHandle" ∧ yX8_isPlace.cls ≠ "java/lang/invoke/VarHandle" ∧ (parseMethodDescriptor yX8_isPlace.desc).map (fun d => d.parameters.length) = some 2 := by decide +kernel
set_option maxHeartbeats 4000000 in
set_option maxRecDepth 100000 in
theorem c_X8_addPointR (l : Launch) (G : xG) {K N : Nat → Nat} {I : Nat → Nat → Int32} {Q : Nat → Nat → Option Nat} {J : Nat → Nat → Int64} (ow : xO) (x n m : Nat) (c : Nat → Nat) (al : Nat → Bool) (sp tu pt pc ps : Nat → Nat) (pa : Nat → Bool) (r d u g w : Int32) (y z : Int32) (hlt : l.stackTraces = false) (hS : SY ow (K, N, I, Q, J) x n c al sp tu pt m pc pa ps r d u g w) (hyz : y < 0 ∨ nI 99 < y ∨ z < 0 ∨ nI 99 < z)  : XMT l yX8_addPoint cX8_addPoint 4 (some .boolean) rm_X8_addPointR G Rz [.ref x, .int y, .int z] (K, N, I, Q, J) (fun _ _ => False) (fun E S1 => E = eIA ∧ ∃ ow1, FR8 ow ow1 (K, N, I, Q, J) S1 ∧ SY ow1 S1 x n c al sp tu pt m pc pa ps r d u g w) := by
  refine x_metTz (lv := [_, _, _, _]) hlt rfl ⟨(Nat.le_of_ble_eq_true rfl), (Nat.le_of_ble_eq_true rfl)⟩ (by decide +kernel) (x_cc (by first | rfl | exact x_crf _) (x_cc (by first | rfl | exact x_crf _) (x_cc (by first | rfl | exact x_crf _) x_cn))) (Nat.le_of_ble_eq_true rfl) rfl ?_
  intro pP eE sS mM aA bB hH cC Z C hini ret thr
  obtain ⟨t1, t7, t6, t5, hX0, H1, H7, H6, H5, hE0, hn, hb⟩ := id hS
  obtain ⟨hx, hox, hq1, hq7, hq6, hq5⟩ := id hX0
  obtain ⟨e1, e2, e3, e4, e5⟩ := id hE0
  have hx : K x = 8 := hx
  have hq1 : Q x 0 = some t1 := hq1
  have hq7 : Q x 1 = some t7 := hq7
  have hq6 : Q x 2 = some t6 := hq6
  have hq5 : Q x 3 = some t5 := hq5
  have kt1 : K t1 = 2 := H1.kc.1
  have kt7 : K t7 = 7 := H7.kc
  have kt6 : K t6 = 6 := H6.kc
  have kt5 : K t5 = 5 := H5.kc.1
  have l1 : I t1 3 = nI (cn al n) := H1.kc.2
  have l5 : I t5 3 = nI (cn pa m) := H5.kc.2.1
  have hm120 := H5.kc.2.2
  have l6 : I t6 1 = nI n := H6.cnt.1
  have l62 : I t6 2 = nI (cn al n) := H6.cnt.2.1
  have hup := H6.cnt.2.2.1
  have hcl := cn_le al n
  have hcm := cn_le pa m
  have e1 : I t1 4 = r := e1
  have e2 : I t1 5 = d := e2
  have e3 : I t7 2 = u := e3
  have e4 : I t6 3 = g := e4
  have e5 : I t5 4 = w := e5
  refine x_iload_n C D_X8_addPoint_0.1 rfl rfl ?_
  refine x_iload_n C D_X8_addPoint_0.2.1 rfl rfl ?_
  refine x_callSz C (y := yX8_isPlace) (c_X8_isPlace l G (y) (z)) k_452 k_453 k_60 k_454 hd_X8_isPlace ⟨(Nat.le_of_ble_eq_true rfl), (Nat.le_of_ble_eq_true rfl)⟩ rfl (by first | exact Nat.le_of_ble_eq_true rfl | simp [x_crf, Value.category]) rfl rfl D_X8_addPoint_0.2.2.1 ⟨(Nat.le_of_ble_eq_true rfl), (Nat.le_of_ble_eq_true rfl)⟩ (fun r_2 S_2 h_2 => ?_)
  obtain ⟨rfl, rfl⟩ := h_2
  rw [is_np hyz]
  refine x_if_ne C 18 D_X8_addPoint_0.2.2.2.1 (by decide) (fun c_5 => ?_) (fun c_5 => ?_)
  · skip
    exact absurd rfl c_5
    --end
  · skip
    refine thr _ _ _ _ _ _ _ 167 _ _ "x or y is out of range" thr_IA (by decide +kernel) D_X8_addPoint_0.2.2.2.2.1 D_X8_addPoint_0.2.2.2.2.2.1 D_X8_addPoint_0.2.2.2.2.2.2.1 D_X8_addPoint_0.2.2.2.2.2.2.2.1 D_X8_addPoint_0.2.2.2.2.2.2.2.2.1 (by first | exact Nat.le_of_ble_eq_true rfl | simp [x_crf, Value.category]) rfl (Nat.le_of_ble_eq_true rfl) (Nat.le_of_ble_eq_true rfl) ?_
    exact ⟨rfl, ow, FR8.refl _ _, hS⟩
abbrev rm_X8_addPointT : Room := { frames := 6, cells := 1, slots := 6, locals := 90 }
theorem hd_X2_holds : yX2_holds.cls ≠ "java/lang/invoke/MethodHandle" ∧ yX2_holds.cls ≠ "java/lang/invoke/VarHandle" ∧ (parseMethodDescriptor yX2_holds.desc).map (fun d => d.parameters.length) = some 1 := by decide +kernel
theorem hd_X5_keyOf : yX5_keyOf.cls ≠ "java/lang/invoke/MethodHandle" ∧ yX5_keyOf.cls ≠ "java/lang/invoke/VarHandle" ∧ (parseMethodDescriptor yX5_keyOf.desc).map (fun d => d.parameters.length) = some 2 := by decide +kernel
theorem hu_X2_holds : "ScapegoatSpur$LazyTree" ≠ "java/lang/invoke/MethodHandle" ∧ "ScapegoatSpur$LazyTree" ≠ "java/lang/invoke/VarHandle" ∧ (parseMethodDescriptor "(I)Z").map (fun d => d.parameters.length) = some 1 := by decide +kernel
set_option maxHeartbeats 4000000 in
set_option maxRecDepth 100000 in
theorem c_X8_addPointT (l : Launch) (G : xG) {K N : Nat → Nat} {I : Nat → Nat → Int32} {Q : Nat → Nat → Option Nat} {J : Nat → Nat → Int64} (ow : xO) (x n m : Nat) (c : Nat → Nat) (al : Nat → Bool) (sp tu pt pc ps : Nat → Nat) (pa : Nat → Bool) (r d u g w : Int32) (k : Nat) (hlt : l.stackTraces = false) (hS : SY ow (K, N, I, Q, J) x n c al sp tu pt m pc pa ps r d u g w) (hk : k < m) (hal : pa k = true)  : XMT l yX8_addPoint cX8_addPoint 4 (some .boolean) rm_X8_addPointT G Rz [.ref x, .int (nI (pc k / 100)), .int (nI (pc k % 100))] (K, N, I, Q, J) (fun r_ S1 => r_ = false ∧ ∃ ow1, FR8 ow ow1 (K, N, I, Q, J) S1 ∧ SY ow1 S1 x n c al sp tu pt m pc pa ps r d u g w) (fun _ _ => False) := by
  refine x_metTz (lv := [_, _, _, _]) hlt rfl ⟨(Nat.le_of_ble_eq_true rfl), (Nat.le_of_ble_eq_true rfl)⟩ (by decide +kernel) (x_cc (by first | rfl | exact x_crf _) (x_cc (by first | rfl | exact x_crf _) (x_cc (by first | rfl | exact x_crf _) x_cn))) (Nat.le_of_ble_eq_true rfl) rfl ?_
  intro pP eE sS mM aA bB hH cC Z C hini ret thr
  obtain ⟨t1, t7, t6, t5, hX0, H1, H7, H6, H5, hE0, hn, hb⟩ := id hS
  obtain ⟨hx, hox, hq1, hq7, hq6, hq5⟩ := id hX0
  obtain ⟨e1, e2, e3, e4, e5⟩ := id hE0
  have hx : K x = 8 := hx
  have hq1 : Q x 0 = some t1 := hq1
  have hq7 : Q x 1 = some t7 := hq7
  have hq6 : Q x 2 = some t6 := hq6
  have hq5 : Q x 3 = some t5 := hq5
  have kt1 : K t1 = 2 := H1.kc.1
  have kt7 : K t7 = 7 := H7.kc
  have kt6 : K t6 = 6 := H6.kc
  have kt5 : K t5 = 5 := H5.kc.1
  have l1 : I t1 3 = nI (cn al n) := H1.kc.2
  have l5 : I t5 3 = nI (cn pa m) := H5.kc.2.1
  have hm120 := H5.kc.2.2
  have l6 : I t6 1 = nI n := H6.cnt.1
  have l62 : I t6 2 = nI (cn al n) := H6.cnt.2.1
  have hup := H6.cnt.2.2.1
  have hcl := cn_le al n
  have hcm := cn_le pa m
  have e1 : I t1 4 = r := e1
  have e2 : I t1 5 = d := e2
  have e3 : I t7 2 = u := e3
  have e4 : I t6 3 = g := e4
  have e5 : I t5 4 = w := e5
  have hpk := (H5.bd k hk).1
  refine x_iload_n C D_X8_addPoint_0.1 rfl rfl ?_
  refine x_iload_n C D_X8_addPoint_0.2.1 rfl rfl ?_
  refine x_callSz C (y := yX8_isPlace) (c_X8_isPlace l G (nI (pc k / 100)) (nI (pc k % 100))) k_452 k_453 k_60 k_454 hd_X8_isPlace ⟨(Nat.le_of_ble_eq_true rfl), (Nat.le_of_ble_eq_true rfl)⟩ rfl (by first | exact Nat.le_of_ble_eq_true rfl | simp [x_crf, Value.category]) rfl rfl D_X8_addPoint_0.2.2.1 ⟨(Nat.le_of_ble_eq_true rfl), (Nat.le_of_ble_eq_true rfl)⟩ (fun r_2 S_2 h_2 => ?_)
  obtain ⟨rfl, rfl⟩ := h_2
  rw [is_pl (show pc k / 100 < 100 by omega) (show pc k % 100 < 100 by omega)]
  refine x_if_ne C 18 D_X8_addPoint_0.2.2.2.1 (by decide) (fun c_5 => ?_) (fun c_5 => ?_)
  · skip
    refine x_iload_n C D_X8_addPoint_0.2.2.2.2.2.2.2.2.2.1 rfl rfl ?_
    refine x_iload_n C D_X8_addPoint_0.2.2.2.2.2.2.2.2.2.2.1 rfl rfl ?_
    refine x_callSi C (y := yX5_keyOf) (c_X5_keyOf l G (pc k)) k_455 k_456 k_66 k_457 hd_X5_keyOf ⟨(Nat.le_of_ble_eq_true rfl), (Nat.le_of_ble_eq_true rfl)⟩ rfl (by first | exact Nat.le_of_ble_eq_true rfl | simp [x_crf, Value.category]) rfl rfl D_X8_addPoint_0.2.2.2.2.2.2.2.2.2.2.2 ⟨(Nat.le_of_ble_eq_true rfl), (Nat.le_of_ble_eq_true rfl)⟩ (fun r_20 S_20 h_20 => ?_)
    obtain ⟨rfl, rfl⟩ := h_20
    refine x_istore_n C (lv' := [_, _, _, _]) D_X8_addPoint_1.1 rfl (Nat.le_of_ble_eq_true rfl) (by first | rfl | exact x_ok_q rfl) rfl ?_
    refine x_aload_n C D_X8_addPoint_1.2.1 rfl rfl (by first | exact Or.inr ⟨_, rfl⟩ | exact va_rf_or _ | exact Or.inl rfl) ?_
    refine x_getQ C (ci := 7) (k0 := 3) hx (by decide) rfl (by decide) in_X8 k_182 rfl rfl D_X8_addPoint_1.2.2.1 ?_
    refine x_eqr hq5 ?_
    refine x_iload_n C D_X8_addPoint_1.2.2.2.1 rfl rfl ?_
    refine x_callUz C (x := ⟨"ScapegoatSpur$PointTree", "holds", "(I)Z"⟩) (y := yX2_holds) (owner := "ScapegoatSpur$LazyTree") (k5_holdsY l G H5 hk) (ci := 4) kt5 (by decide) rfl k_458 k_459 k_461 k_462 k_61 k_463 rfl hu_X2_holds ⟨(Nat.le_of_ble_eq_true rfl), (Nat.le_of_ble_eq_true rfl)⟩ rfl (by first | exact Nat.le_of_ble_eq_true rfl | simp [x_crf, Value.category]) rfl rfl D_X8_addPoint_1.2.2.2.2.1 ⟨(Nat.le_of_ble_eq_true rfl), (Nat.le_of_ble_eq_true rfl)⟩ (fun r_29 S_29 h_29 => ?_)
    obtain ⟨rfl, hF, H5a, ht⟩ := h_29
    obtain ⟨K1, N1, I1, Q1, J1⟩ := S_29
    obtain ⟨hx1, hox1, hQ1⟩ := hF.obj (by omega) hx hox
    have hx1 : K1 x = 8 := hx1
    have hQ1 : Q1 x = Q x := hQ1
    have kt5a : K1 t5 = 5 := H5a.kc.1
    have l5a : I1 t5 3 = nI (cn pa m) := H5a.kc.2.1
    rw [hal]
    refine x_if_eq C 37 D_X8_addPoint_1.2.2.2.2.2.1 (by decide) (fun c_32 => ?_) (fun c_32 => ?_)
    · skip
      exact absurd c_32 (by decide)
      --end
    · skip
      refine x_iconst C (v := nI 0) D_X8_addPoint_1.2.2.2.2.2.2.1 (by decide +kernel) ?_
      refine ret _ _ _ _ _ _ false rfl D_X8_addPoint_1.2.2.2.2.2.2.2.1 (Nat.le_of_ble_eq_true rfl) (Nat.le_of_ble_eq_true rfl) rfl ?_
      exact ⟨rfl, ow, hF.fr8 (by omega), SY.a5 hX0 H1 H7 H6 hE0 hn hb hF H5a ((ht 4).trans e5)⟩
  · skip
    exact absurd c_5 (by decide)
    --end
abbrev rm_X8_addPointG : Room := { frames := 6, cells := 1, slots := 6, locals := 90 }
set_option maxHeartbeats 4000000 in
set_option maxRecDepth 100000 in
theorem c_X8_addPointG (l : Launch) (G : xG) {K N : Nat → Nat} {I : Nat → Nat → Int32} {Q : Nat → Nat → Option Nat} {J : Nat → Nat → Int64} (ow : xO) (x n m : Nat) (c : Nat → Nat) (al : Nat → Bool) (sp tu pt pc ps : Nat → Nat) (pa : Nat → Bool) (r d u g w : Int32) (k : Nat) (hlt : l.stackTraces = false) (hS : SY ow (K, N, I, Q, J) x n c al sp tu pt m pc pa ps r d u g w) (hk : k < m) (hal : pa k = false) (hlv : cn pa m = 60)  : XMT l yX8_addPoint cX8_addPoint 4 (some .boolean) rm_X8_addPointG G Rz [.ref x, .int (nI (pc k / 100)), .int (nI (pc k % 100))] (K, N, I, Q, J) (fun _ _ => False) (fun E S1 => E = eIS ∧ ∃ ow1, FR8 ow ow1 (K, N, I, Q, J) S1 ∧ SY ow1 S1 x n c al sp tu pt m pc pa ps r d u g w) := by
  refine x_metTz (lv := [_, _, _, _]) hlt rfl ⟨(Nat.le_of_ble_eq_true rfl), (Nat.le_of_ble_eq_true rfl)⟩ (by decide +kernel) (x_cc (by first | rfl | exact x_crf _) (x_cc (by first | rfl | exact x_crf _) (x_cc (by first | rfl | exact x_crf _) x_cn))) (Nat.le_of_ble_eq_true rfl) rfl ?_
  intro pP eE sS mM aA bB hH cC Z C hini ret thr
  obtain ⟨t1, t7, t6, t5, hX0, H1, H7, H6, H5, hE0, hn, hb⟩ := id hS
  obtain ⟨hx, hox, hq1, hq7, hq6, hq5⟩ := id hX0
  obtain ⟨e1, e2, e3, e4, e5⟩ := id hE0
  have hx : K x = 8 := hx
  have hq1 : Q x 0 = some t1 := hq1
  have hq7 : Q x 1 = some t7 := hq7
  have hq6 : Q x 2 = some t6 := hq6
  have hq5 : Q x 3 = some t5 := hq5
  have kt1 : K t1 = 2 := H1.kc.1
  have kt7 : K t7 = 7 := H7.kc
  have kt6 : K t6 = 6 := H6.kc
  have kt5 : K t5 = 5 := H5.kc.1
  have l1 : I t1 3 = nI (cn al n) := H1.kc.2
  have l5 : I t5 3 = nI (cn pa m) := H5.kc.2.1
  have hm120 := H5.kc.2.2
  have l6 : I t6 1 = nI n := H6.cnt.1
  have l62 : I t6 2 = nI (cn al n) := H6.cnt.2.1
  have hup := H6.cnt.2.2.1
  have hcl := cn_le al n
  have hcm := cn_le pa m
  have e1 : I t1 4 = r := e1
  have e2 : I t1 5 = d := e2
  have e3 : I t7 2 = u := e3
  have e4 : I t6 3 = g := e4
  have e5 : I t5 4 = w := e5
  have hpk := (H5.bd k hk).1
  refine x_iload_n C D_X8_addPoint_0.1 rfl rfl ?_
  refine x_iload_n C D_X8_addPoint_0.2.1 rfl rfl ?_
  refine x_callSz C (y := yX8_isPlace) (c_X8_isPlace l G (nI (pc k / 100)) (nI (pc k % 100))) k_452 k_453 k_60 k_454 hd_X8_isPlace ⟨(Nat.le_of_ble_eq_true rfl), (Nat.le_of_ble_eq_true rfl)⟩ rfl (by first | exact Nat.le_of_ble_eq_true rfl | simp [x_crf, Value.category]) rfl rfl D_X8_addPoint_0.2.2.1 ⟨(Nat.le_of_ble_eq_true rfl), (Nat.le_of_ble_eq_true rfl)⟩ (fun r_2 S_2 h_2 => ?_)
  obtain ⟨rfl, rfl⟩ := h_2
  rw [is_pl (show pc k / 100 < 100 by omega) (show pc k % 100 < 100 by omega)]
  refine x_if_ne C 18 D_X8_addPoint_0.2.2.2.1 (by decide) (fun c_5 => ?_) (fun c_5 => ?_)
  · skip
    refine x_iload_n C D_X8_addPoint_0.2.2.2.2.2.2.2.2.2.1 rfl rfl ?_
    refine x_iload_n C D_X8_addPoint_0.2.2.2.2.2.2.2.2.2.2.1 rfl rfl ?_
    refine x_callSi C (y := yX5_keyOf) (c_X5_keyOf l G (pc k)) k_455 k_456 k_66 k_457 hd_X5_keyOf ⟨(Nat.le_of_ble_eq_true rfl), (Nat.le_of_ble_eq_true rfl)⟩ rfl (by first | exact Nat.le_of_ble_eq_true rfl | simp [x_crf, Value.category]) rfl rfl D_X8_addPoint_0.2.2.2.2.2.2.2.2.2.2.2 ⟨(Nat.le_of_ble_eq_true rfl), (Nat.le_of_ble_eq_true rfl)⟩ (fun r_20 S_20 h_20 => ?_)
    obtain ⟨rfl, rfl⟩ := h_20
    refine x_istore_n C (lv' := [_, _, _, _]) D_X8_addPoint_1.1 rfl (Nat.le_of_ble_eq_true rfl) (by first | rfl | exact x_ok_q rfl) rfl ?_
    refine x_aload_n C D_X8_addPoint_1.2.1 rfl rfl (by first | exact Or.inr ⟨_, rfl⟩ | exact va_rf_or _ | exact Or.inl rfl) ?_
    refine x_getQ C (ci := 7) (k0 := 3) hx (by decide) rfl (by decide) in_X8 k_182 rfl rfl D_X8_addPoint_1.2.2.1 ?_
    refine x_eqr hq5 ?_
    refine x_iload_n C D_X8_addPoint_1.2.2.2.1 rfl rfl ?_
    refine x_callUz C (x := ⟨"ScapegoatSpur$PointTree", "holds", "(I)Z"⟩) (y := yX2_holds) (owner := "ScapegoatSpur$LazyTree") (k5_holdsY l G H5 hk) (ci := 4) kt5 (by decide) rfl k_458 k_459 k_461 k_462 k_61 k_463 rfl hu_X2_holds ⟨(Nat.le_of_ble_eq_true rfl), (Nat.le_of_ble_eq_true rfl)⟩ rfl (by first | exact Nat.le_of_ble_eq_true rfl | simp [x_crf, Value.category]) rfl rfl D_X8_addPoint_1.2.2.2.2.1 ⟨(Nat.le_of_ble_eq_true rfl), (Nat.le_of_ble_eq_true rfl)⟩ (fun r_29 S_29 h_29 => ?_)
    obtain ⟨rfl, hF, H5a, ht⟩ := h_29
    obtain ⟨K1, N1, I1, Q1, J1⟩ := S_29
    obtain ⟨hx1, hox1, hQ1⟩ := hF.obj (by omega) hx hox
    have hx1 : K1 x = 8 := hx1
    have hQ1 : Q1 x = Q x := hQ1
    have kt5a : K1 t5 = 5 := H5a.kc.1
    have l5a : I1 t5 3 = nI (cn pa m) := H5a.kc.2.1
    rw [hal]
    refine x_if_eq C 37 D_X8_addPoint_1.2.2.2.2.2.1 (by decide) (fun c_32 => ?_) (fun c_32 => ?_)
    · skip
      refine x_aload_n C D_X8_addPoint_1.2.2.2.2.2.2.2.2.1 rfl rfl (by first | exact Or.inr ⟨_, rfl⟩ | exact va_rf_or _ | exact Or.inl rfl) ?_
      refine x_getQ C (ci := 7) (k0 := 3) hx1 (by decide) rfl (by decide) in_X8 k_182 rfl rfl D_X8_addPoint_1.2.2.2.2.2.2.2.2.2.1 ?_
      refine x_eqr (show Q1 x 3 = some t5 by rw [hQ1]; exact hq5) ?_
      refine x_callUi C (x := ⟨"ScapegoatSpur$PointTree", "living", "()I"⟩) (y := yX2_living) (owner := "ScapegoatSpur$LazyTree") (c_X2_living_5 l G t5 kt5a) (ci := 4) kt5a (by decide) rfl k_471 k_472 k_474 k_475 k_61 k_476 rfl hu_X2_living ⟨(Nat.le_of_ble_eq_true rfl), (Nat.le_of_ble_eq_true rfl)⟩ rfl (by first | exact Nat.le_of_ble_eq_true rfl | simp [x_crf, Value.category]) rfl rfl D_X8_addPoint_1.2.2.2.2.2.2.2.2.2.2.1 ⟨(Nat.le_of_ble_eq_true rfl), (Nat.le_of_ble_eq_true rfl)⟩ (fun r_41 S_41 h_41 => ?_)
      obtain ⟨rfl, rfl⟩ := h_41
      refine x_eqi _ l5a ?_
      refine x_bipush C (v := nI 60) D_X8_addPoint_1.2.2.2.2.2.2.2.2.2.2.2 (by decide +kernel) ?_
      refine x_icmp_lt C 59 D_X8_addPoint_2.1 (by decide) (fun c_46 => ?_) (fun c_46 => ?_)
      · skip
        first
        | have d_46 := cv_lt c_46 (by omega) (by omega)
        | skip
        exfalso; omega
        --end
      · skip
        first
        | have d_46 := cv_nlt c_46 (by omega) (by omega)
        | skip
        refine thr _ _ _ _ _ _ _ 175 _ _ "there is no room for one more point" thr_IS (by decide +kernel) D_X8_addPoint_2.2.1 D_X8_addPoint_2.2.2.1 D_X8_addPoint_2.2.2.2.1 D_X8_addPoint_2.2.2.2.2.1 D_X8_addPoint_2.2.2.2.2.2.1 (by first | exact Nat.le_of_ble_eq_true rfl | simp [x_crf, Value.category]) rfl (Nat.le_of_ble_eq_true rfl) (Nat.le_of_ble_eq_true rfl) ?_
        exact ⟨rfl, ow, hF.fr8 (by omega), SY.a5 hX0 H1 H7 H6 hE0 hn hb hF H5a ((ht 4).trans e5)⟩
    · skip
      exact absurd rfl c_32
      --end
  · skip
    exact absurd c_5 (by decide)
    --end
abbrev rm_X8_addPointF : Room := { frames := 6, cells := 1, slots := 6, locals := 90 }
set_option maxHeartbeats 4000000 in
set_option maxRecDepth 100000 in
theorem c_X8_addPointF (l : Launch) (G : xG) {K N : Nat → Nat} {I : Nat → Nat → Int32} {Q : Nat → Nat → Option Nat} {J : Nat → Nat → Int64} (ow : xO) (x n m : Nat) (c : Nat → Nat) (al : Nat → Bool) (sp tu pt pc ps : Nat → Nat) (pa : Nat → Bool) (r d u g w : Int32) (cc : Nat) (hlt : l.stackTraces = false) (hS : SY ow (K, N, I, Q, J) x n c al sp tu pt m pc pa ps r d u g w) (hcc : cc < 10000) (hnew : ∀ i, i < m → pc i ≠ cc) (hlv : cn pa m = 60)  : XMT l yX8_addPoint cX8_addPoint 4 (some .boolean) rm_X8_addPointF G Rz [.ref x, .int (nI (cc / 100)), .int (nI (cc % 100))] (K, N, I, Q, J) (fun _ _ => False) (fun E S1 => E = eIS ∧ ∃ ow1, FR8 ow ow1 (K, N, I, Q, J) S1 ∧ SY ow1 S1 x n c al sp tu pt m pc pa ps r d u g w) := by
  refine x_metTz (lv := [_, _, _, _]) hlt rfl ⟨(Nat.le_of_ble_eq_true rfl), (Nat.le_of_ble_eq_true rfl)⟩ (by decide +kernel) (x_cc (by first | rfl | exact x_crf _) (x_cc (by first | rfl | exact x_crf _) (x_cc (by first | rfl | exact x_crf _) x_cn))) (Nat.le_of_ble_eq_true rfl) rfl ?_
  intro pP eE sS mM aA bB hH cC Z C hini ret thr
  obtain ⟨t1, t7, t6, t5, hX0, H1, H7, H6, H5, hE0, hn, hb⟩ := id hS
  obtain ⟨hx, hox, hq1, hq7, hq6, hq5⟩ := id hX0
  obtain ⟨e1, e2, e3, e4, e5⟩ := id hE0
  have hx : K x = 8 := hx
  have hq1 : Q x 0 = some t1 := hq1
  have hq7 : Q x 1 = some t7 := hq7
  have hq6 : Q x 2 = some t6 := hq6
  have hq5 : Q x 3 = some t5 := hq5
  have kt1 : K t1 = 2 := H1.kc.1
  have kt7 : K t7 = 7 := H7.kc
  have kt6 : K t6 = 6 := H6.kc
  have kt5 : K t5 = 5 := H5.kc.1
  have l1 : I t1 3 = nI (cn al n) := H1.kc.2
  have l5 : I t5 3 = nI (cn pa m) := H5.kc.2.1
  have hm120 := H5.kc.2.2
  have l6 : I t6 1 = nI n := H6.cnt.1
  have l62 : I t6 2 = nI (cn al n) := H6.cnt.2.1
  have hup := H6.cnt.2.2.1
  have hcl := cn_le al n
  have hcm := cn_le pa m
  have e1 : I t1 4 = r := e1
  have e2 : I t1 5 = d := e2
  have e3 : I t7 2 = u := e3
  have e4 : I t6 3 = g := e4
  have e5 : I t5 4 = w := e5
  refine x_iload_n C D_X8_addPoint_0.1 rfl rfl ?_
  refine x_iload_n C D_X8_addPoint_0.2.1 rfl rfl ?_
  refine x_callSz C (y := yX8_isPlace) (c_X8_isPlace l G (nI (cc / 100)) (nI (cc % 100))) k_452 k_453 k_60 k_454 hd_X8_isPlace ⟨(Nat.le_of_ble_eq_true rfl), (Nat.le_of_ble_eq_true rfl)⟩ rfl (by first | exact Nat.le_of_ble_eq_true rfl | simp [x_crf, Value.category]) rfl rfl D_X8_addPoint_0.2.2.1 ⟨(Nat.le_of_ble_eq_true rfl), (Nat.le_of_ble_eq_true rfl)⟩ (fun r_2 S_2 h_2 => ?_)
  obtain ⟨rfl, rfl⟩ := h_2
  rw [is_pl (show cc / 100 < 100 by omega) (show cc % 100 < 100 by omega)]
  refine x_if_ne C 18 D_X8_addPoint_0.2.2.2.1 (by decide) (fun c_5 => ?_) (fun c_5 => ?_)
  · skip
    refine x_iload_n C D_X8_addPoint_0.2.2.2.2.2.2.2.2.2.1 rfl rfl ?_
    refine x_iload_n C D_X8_addPoint_0.2.2.2.2.2.2.2.2.2.2.1 rfl rfl ?_
    refine x_callSi C (y := yX5_keyOf) (c_X5_keyOf l G (cc)) k_455 k_456 k_66 k_457 hd_X5_keyOf ⟨(Nat.le_of_ble_eq_true rfl), (Nat.le_of_ble_eq_true rfl)⟩ rfl (by first | exact Nat.le_of_ble_eq_true rfl | simp [x_crf, Value.category]) rfl rfl D_X8_addPoint_0.2.2.2.2.2.2.2.2.2.2.2 ⟨(Nat.le_of_ble_eq_true rfl), (Nat.le_of_ble_eq_true rfl)⟩ (fun r_20 S_20 h_20 => ?_)
    obtain ⟨rfl, rfl⟩ := h_20
    refine x_istore_n C (lv' := [_, _, _, _]) D_X8_addPoint_1.1 rfl (Nat.le_of_ble_eq_true rfl) (by first | rfl | exact x_ok_q rfl) rfl ?_
    refine x_aload_n C D_X8_addPoint_1.2.1 rfl rfl (by first | exact Or.inr ⟨_, rfl⟩ | exact va_rf_or _ | exact Or.inl rfl) ?_
    refine x_getQ C (ci := 7) (k0 := 3) hx (by decide) rfl (by decide) in_X8 k_182 rfl rfl D_X8_addPoint_1.2.2.1 ?_
    refine x_eqr hq5 ?_
    refine x_iload_n C D_X8_addPoint_1.2.2.2.1 rfl rfl ?_
    refine x_callUz C (x := ⟨"ScapegoatSpur$PointTree", "holds", "(I)Z"⟩) (y := yX2_holds) (owner := "ScapegoatSpur$LazyTree") (k5_holdsN l G H5 hcc hnew) (ci := 4) kt5 (by decide) rfl k_458 k_459 k_461 k_462 k_61 k_463 rfl hu_X2_holds ⟨(Nat.le_of_ble_eq_true rfl), (Nat.le_of_ble_eq_true rfl)⟩ rfl (by first | exact Nat.le_of_ble_eq_true rfl | simp [x_crf, Value.category]) rfl rfl D_X8_addPoint_1.2.2.2.2.1 ⟨(Nat.le_of_ble_eq_true rfl), (Nat.le_of_ble_eq_true rfl)⟩ (fun r_29 S_29 h_29 => ?_)
    obtain ⟨rfl, hF, H5a, ht⟩ := h_29
    obtain ⟨K1, N1, I1, Q1, J1⟩ := S_29
    obtain ⟨hx1, hox1, hQ1⟩ := hF.obj (by omega) hx hox
    have hx1 : K1 x = 8 := hx1
    have hQ1 : Q1 x = Q x := hQ1
    have kt5a : K1 t5 = 5 := H5a.kc.1
    have l5a : I1 t5 3 = nI (cn pa m) := H5a.kc.2.1
    refine x_if_eq C 37 D_X8_addPoint_1.2.2.2.2.2.1 (by decide) (fun c_32 => ?_) (fun c_32 => ?_)
    · skip
      refine x_aload_n C D_X8_addPoint_1.2.2.2.2.2.2.2.2.1 rfl rfl (by first | exact Or.inr ⟨_, rfl⟩ | exact va_rf_or _ | exact Or.inl rfl) ?_
      refine x_getQ C (ci := 7) (k0 := 3) hx1 (by decide) rfl (by decide) in_X8 k_182 rfl rfl D_X8_addPoint_1.2.2.2.2.2.2.2.2.2.1 ?_
      refine x_eqr (show Q1 x 3 = some t5 by rw [hQ1]; exact hq5) ?_
      refine x_callUi C (x := ⟨"ScapegoatSpur$PointTree", "living", "()I"⟩) (y := yX2_living) (owner := "ScapegoatSpur$LazyTree") (c_X2_living_5 l G t5 kt5a) (ci := 4) kt5a (by decide) rfl k_471 k_472 k_474 k_475 k_61 k_476 rfl hu_X2_living ⟨(Nat.le_of_ble_eq_true rfl), (Nat.le_of_ble_eq_true rfl)⟩ rfl (by first | exact Nat.le_of_ble_eq_true rfl | simp [x_crf, Value.category]) rfl rfl D_X8_addPoint_1.2.2.2.2.2.2.2.2.2.2.1 ⟨(Nat.le_of_ble_eq_true rfl), (Nat.le_of_ble_eq_true rfl)⟩ (fun r_41 S_41 h_41 => ?_)
      obtain ⟨rfl, rfl⟩ := h_41
      refine x_eqi _ l5a ?_
      refine x_bipush C (v := nI 60) D_X8_addPoint_1.2.2.2.2.2.2.2.2.2.2.2 (by decide +kernel) ?_
      refine x_icmp_lt C 59 D_X8_addPoint_2.1 (by decide) (fun c_46 => ?_) (fun c_46 => ?_)
      · skip
        first
        | have d_46 := cv_lt c_46 (by omega) (by omega)
        | skip
        exfalso; omega
        --end
      · skip
        first
        | have d_46 := cv_nlt c_46 (by omega) (by omega)
        | skip
        refine thr _ _ _ _ _ _ _ 175 _ _ "there is no room for one more point" thr_IS (by decide +kernel) D_X8_addPoint_2.2.1 D_X8_addPoint_2.2.2.1 D_X8_addPoint_2.2.2.2.1 D_X8_addPoint_2.2.2.2.2.1 D_X8_addPoint_2.2.2.2.2.2.1 (by first | exact Nat.le_of_ble_eq_true rfl | simp [x_crf, Value.category]) rfl (Nat.le_of_ble_eq_true rfl) (Nat.le_of_ble_eq_true rfl) ?_
        exact ⟨rfl, ow, hF.fr8 (by omega), SY.a5 hX0 H1 H7 H6 hE0 hn hb hF H5a ((ht 4).trans e5)⟩
    · skip
      exact absurd rfl c_32
      --end
  · skip
    exact absurd c_5 (by decide)
    --end
abbrev rm_X8_addPointD : Room := { frames := 6, cells := 2, slots := 20, locals := 91 }
set_option maxHeartbeats 4000000 in
set_option maxRecDepth 100000 in
theorem c_X8_addPointD (l : Launch) (G : xG) {K N : Nat → Nat} {I : Nat → Nat → Int32} {Q : Nat → Nat → Option Nat} {J : Nat → Nat → Int64} (ow : xO) (x n m : Nat) (c : Nat → Nat) (al : Nat → Bool) (sp tu pt pc ps : Nat → Nat) (pa : Nat → Bool) (r d u g w : Int32) (k : Nat) (hlt : l.stackTraces = false) (hS : SY ow (K, N, I, Q, J) x n c al sp tu pt m pc pa ps r d u g w) (hk : k < m) (hal : pa k = false) (hlv : cn pa m < 60)  : XMT l yX8_addPoint cX8_addPoint 4 (some .boolean) rm_X8_addPointD G Rz [.ref x, .int (nI (pc k / 100)), .int (nI (pc k % 100))] (K, N, I, Q, J) (fun r_ S1 => r_ = true ∧ ∃ ow1, FR8 ow ow1 (K, N, I, Q, J) S1 ∧ SY ow1 S1 x n c al sp tu pt m pc (x_up pa k true) ps r d u g w) (fun _ _ => False) := by
  refine x_metTz (lv := [_, _, _, _]) hlt rfl ⟨(Nat.le_of_ble_eq_true rfl), (Nat.le_of_ble_eq_true rfl)⟩ (by decide +kernel) (x_cc (by first | rfl | exact x_crf _) (x_cc (by first | rfl | exact x_crf _) (x_cc (by first | rfl | exact x_crf _) x_cn))) (Nat.le_of_ble_eq_true rfl) rfl ?_
  intro pP eE sS mM aA bB hH cC Z C hini ret thr
  obtain ⟨t1, t7, t6, t5, hX0, H1, H7, H6, H5, hE0, hn, hb⟩ := id hS
  obtain ⟨hx, hox, hq1, hq7, hq6, hq5⟩ := id hX0
  obtain ⟨e1, e2, e3, e4, e5⟩ := id hE0
  have hx : K x = 8 := hx
  have hq1 : Q x 0 = some t1 := hq1
  have hq7 : Q x 1 = some t7 := hq7
  have hq6 : Q x 2 = some t6 := hq6
  have hq5 : Q x 3 = some t5 := hq5
  have kt1 : K t1 = 2 := H1.kc.1
  have kt7 : K t7 = 7 := H7.kc
  have kt6 : K t6 = 6 := H6.kc
  have kt5 : K t5 = 5 := H5.kc.1
  have l1 : I t1 3 = nI (cn al n) := H1.kc.2
  have l5 : I t5 3 = nI (cn pa m) := H5.kc.2.1
  have hm120 := H5.kc.2.2
  have l6 : I t6 1 = nI n := H6.cnt.1
  have l62 : I t6 2 = nI (cn al n) := H6.cnt.2.1
  have hup := H6.cnt.2.2.1
  have hcl := cn_le al n
  have hcm := cn_le pa m
  have e1 : I t1 4 = r := e1
  have e2 : I t1 5 = d := e2
  have e3 : I t7 2 = u := e3
  have e4 : I t6 3 = g := e4
  have e5 : I t5 4 = w := e5
  have hpk := (H5.bd k hk).1
  refine x_iload_n C D_X8_addPoint_0.1 rfl rfl ?_
  refine x_iload_n C D_X8_addPoint_0.2.1 rfl rfl ?_
  refine x_callSz C (y := yX8_isPlace) (c_X8_isPlace l G (nI (pc k / 100)) (nI (pc k % 100))) k_452 k_453 k_60 k_454 hd_X8_isPlace ⟨(Nat.le_of_ble_eq_true rfl), (Nat.le_of_ble_eq_true rfl)⟩ rfl (by first | exact Nat.le_of_ble_eq_true rfl | simp [x_crf, Value.category]) rfl rfl D_X8_addPoint_0.2.2.1 ⟨(Nat.le_of_ble_eq_true rfl), (Nat.le_of_ble_eq_true rfl)⟩ (fun r_2 S_2 h_2 => ?_)
  obtain ⟨rfl, rfl⟩ := h_2
  rw [is_pl (show pc k / 100 < 100 by omega) (show pc k % 100 < 100 by omega)]
  refine x_if_ne C 18 D_X8_addPoint_0.2.2.2.1 (by decide) (fun c_5 => ?_) (fun c_5 => ?_)
  · skip
    refine x_iload_n C D_X8_addPoint_0.2.2.2.2.2.2.2.2.2.1 rfl rfl ?_
    refine x_iload_n C D_X8_addPoint_0.2.2.2.2.2.2.2.2.2.2.1 rfl rfl ?_
    refine x_callSi C (y := yX5_keyOf) (c_X5_keyOf l G (pc k)) k_455 k_456 k_66 k_457 hd_X5_keyOf ⟨(Nat.le_of_ble_eq_true rfl), (Nat.le_of_ble_eq_true rfl)⟩ rfl (by first | exact Nat.le_of_ble_eq_true rfl | simp [x_crf, Value.category]) rfl rfl D_X8_addPoint_0.2.2.2.2.2.2.2.2.2.2.2 ⟨(Nat.le_of_ble_eq_true rfl), (Nat.le_of_ble_eq_true rfl)⟩ (fun r_20 S_20 h_20 => ?_)
    obtain ⟨rfl, rfl⟩ := h_20
    refine x_istore_n C (lv' := [_, _, _, _]) D_X8_addPoint_1.1 rfl (Nat.le_of_ble_eq_true rfl) (by first | rfl | exact x_ok_q rfl) rfl ?_
    refine x_aload_n C D_X8_addPoint_1.2.1 rfl rfl (by first | exact Or.inr ⟨_, rfl⟩ | exact va_rf_or _ | exact Or.inl rfl) ?_
    refine x_getQ C (ci := 7) (k0 := 3) hx (by decide) rfl (by decide) in_X8 k_182 rfl rfl D_X8_addPoint_1.2.2.1 ?_
    refine x_eqr hq5 ?_
    refine x_iload_n C D_X8_addPoint_1.2.2.2.1 rfl rfl ?_
    refine x_callUz C (x := ⟨"ScapegoatSpur$PointTree", "holds", "(I)Z"⟩) (y := yX2_holds) (owner := "ScapegoatSpur$LazyTree") (k5_holdsY l G H5 hk) (ci := 4) kt5 (by decide) rfl k_458 k_459 k_461 k_462 k_61 k_463 rfl hu_X2_holds ⟨(Nat.le_of_ble_eq_true rfl), (Nat.le_of_ble_eq_true rfl)⟩ rfl (by first | exact Nat.le_of_ble_eq_true rfl | simp [x_crf, Value.category]) rfl rfl D_X8_addPoint_1.2.2.2.2.1 ⟨(Nat.le_of_ble_eq_true rfl), (Nat.le_of_ble_eq_true rfl)⟩ (fun r_29 S_29 h_29 => ?_)
    obtain ⟨rfl, hF, H5a, ht⟩ := h_29
    obtain ⟨K1, N1, I1, Q1, J1⟩ := S_29
    obtain ⟨hx1, hox1, hQ1⟩ := hF.obj (by omega) hx hox
    have hx1 : K1 x = 8 := hx1
    have hQ1 : Q1 x = Q x := hQ1
    have kt5a : K1 t5 = 5 := H5a.kc.1
    have l5a : I1 t5 3 = nI (cn pa m) := H5a.kc.2.1
    rw [hal]
    refine x_if_eq C 37 D_X8_addPoint_1.2.2.2.2.2.1 (by decide) (fun c_32 => ?_) (fun c_32 => ?_)
    · skip
      refine x_aload_n C D_X8_addPoint_1.2.2.2.2.2.2.2.2.1 rfl rfl (by first | exact Or.inr ⟨_, rfl⟩ | exact va_rf_or _ | exact Or.inl rfl) ?_
      refine x_getQ C (ci := 7) (k0 := 3) hx1 (by decide) rfl (by decide) in_X8 k_182 rfl rfl D_X8_addPoint_1.2.2.2.2.2.2.2.2.2.1 ?_
      refine x_eqr (show Q1 x 3 = some t5 by rw [hQ1]; exact hq5) ?_
      refine x_callUi C (x := ⟨"ScapegoatSpur$PointTree", "living", "()I"⟩) (y := yX2_living) (owner := "ScapegoatSpur$LazyTree") (c_X2_living_5 l G t5 kt5a) (ci := 4) kt5a (by decide) rfl k_471 k_472 k_474 k_475 k_61 k_476 rfl hu_X2_living ⟨(Nat.le_of_ble_eq_true rfl), (Nat.le_of_ble_eq_true rfl)⟩ rfl (by first | exact Nat.le_of_ble_eq_true rfl | simp [x_crf, Value.category]) rfl rfl D_X8_addPoint_1.2.2.2.2.2.2.2.2.2.2.1 ⟨(Nat.le_of_ble_eq_true rfl), (Nat.le_of_ble_eq_true rfl)⟩ (fun r_41 S_41 h_41 => ?_)
      obtain ⟨rfl, rfl⟩ := h_41
      refine x_eqi _ l5a ?_
      refine x_bipush C (v := nI 60) D_X8_addPoint_1.2.2.2.2.2.2.2.2.2.2.2 (by decide +kernel) ?_
      refine x_icmp_lt C 59 D_X8_addPoint_2.1 (by decide) (fun c_46 => ?_) (fun c_46 => ?_)
      · skip
        first
        | have d_46 := cv_lt c_46 (by omega) (by omega)
        | skip
        refine x_aload_n C D_X8_addPoint_2.2.2.2.2.2.2.1 rfl rfl (by first | exact Or.inr ⟨_, rfl⟩ | exact va_rf_or _ | exact Or.inl rfl) ?_
        refine x_getQ C (ci := 7) (k0 := 3) hx1 (by decide) rfl (by decide) in_X8 k_182 rfl rfl D_X8_addPoint_2.2.2.2.2.2.2.2.1 ?_
        refine x_eqr (show Q1 x 3 = some t5 by rw [hQ1]; exact hq5) ?_
        refine x_iload_n C D_X8_addPoint_2.2.2.2.2.2.2.2.2.1 rfl rfl ?_
        refine x_callUv C (x := ⟨"ScapegoatSpur$PointTree", "enter", "(I)V"⟩) (y := yX2_enter) (owner := "ScapegoatSpur$LazyTree") (k5_enterD l G H5a hk hal) (ci := 4) kt5a (by decide) rfl k_840 k_841 k_842 k_596 k_61 k_597 rfl hu_X2_enter ⟨(Nat.le_of_ble_eq_true rfl), (Nat.le_of_ble_eq_true rfl)⟩ rfl (by first | exact Nat.le_of_ble_eq_true rfl | simp [x_crf, Value.category]) rfl rfl D_X8_addPoint_2.2.2.2.2.2.2.2.2.2.1 ⟨(Nat.le_of_ble_eq_true rfl), (Nat.le_of_ble_eq_true rfl)⟩ (fun _ S_64 h_64 => ?_)
        obtain ⟨ow2, hF2, H5b, q4⟩ := h_64
        obtain ⟨K2, N2, I2, Q2, J2⟩ := S_64
        refine x_iconst C (v := nI 1) D_X8_addPoint_2.2.2.2.2.2.2.2.2.2.2.1 (by decide +kernel) ?_
        refine ret _ _ _ _ _ _ true rfl D_X8_addPoint_2.2.2.2.2.2.2.2.2.2.2.2 (Nat.le_of_ble_eq_true rfl) (Nat.le_of_ble_eq_true rfl) rfl ?_
        exact ⟨rfl, ow2, (hF.trans hF2).fr8 (by omega), SY.a5 hX0 H1 H7 H6 hE0 hn hb (hF.trans hF2) H5b (q4.trans ((ht 4).trans e5))⟩
      · skip
        first
        | have d_46 := cv_nlt c_46 (by omega) (by omega)
        | skip
        exfalso; omega
        --end
    · skip
      exact absurd rfl c_32
      --end
  · skip
    exact absurd c_5 (by decide)
    --end
abbrev rm_X8_addPointN : Room := { frames := 46, cells := 2, slots := 20, locals := 1075 }
set_option maxHeartbeats 4000000 in
set_option maxRecDepth 100000 in
theorem c_X8_addPointN (l : Launch) (G : xG) {K N : Nat → Nat} {I : Nat → Nat → Int32} {Q : Nat → Nat → Option Nat} {J : Nat → Nat → Int64} (ow : xO) (x n m : Nat) (c : Nat → Nat) (al : Nat → Bool) (sp tu pt pc ps : Nat → Nat) (pa : Nat → Bool) (r d u g w : Int32) (cc : Nat) (hlt : l.stackTraces = false) (hS : SY ow (K, N, I, Q, J) x n c al sp tu pt m pc pa ps r d u g w) (hcc : cc < 10000) (hnew : ∀ i, i < m → pc i ≠ cc) (hlv : cn pa m < 60) (hmm : m - cn pa m ≤ cn pa m)  : XMT l yX8_addPoint cX8_addPoint 4 (some .boolean) rm_X8_addPointN G Rz [.ref x, .int (nI (cc / 100)), .int (nI (cc % 100))] (K, N, I, Q, J) (fun r_ S1 => r_ = true ∧ ∃ ow1 OP PS, FR8 ow ow1 (K, N, I, Q, J) S1 ∧ PXm m pc ps cc (hplX m pc ps cc) OP PS ∧ SY ow1 S1 x n c al sp tu pt (m + 1) (x_up pc m cc) (x_up pa m true) (fun i => if 0 < FDm m ps (hplX m pc ps cc) then PS 8 i else x_up ps m (hplX m pc ps cc) i) r d u g (w + nI (if 0 < FDm m ps (hplX m pc ps cc) then cnW (m + 1) (x_up ps m (hplX m pc ps cc)) (FDm m ps (hplX m pc ps cc)) else 0))) (fun _ _ => False) := by
  refine x_metTz (lv := [_, _, _, _]) hlt rfl ⟨(Nat.le_of_ble_eq_true rfl), (Nat.le_of_ble_eq_true rfl)⟩ (by decide +kernel) (x_cc (by first | rfl | exact x_crf _) (x_cc (by first | rfl | exact x_crf _) (x_cc (by first | rfl | exact x_crf _) x_cn))) (Nat.le_of_ble_eq_true rfl) rfl ?_
  intro pP eE sS mM aA bB hH cC Z C hini ret thr
  obtain ⟨t1, t7, t6, t5, hX0, H1, H7, H6, H5, hE0, hn, hb⟩ := id hS
  obtain ⟨hx, hox, hq1, hq7, hq6, hq5⟩ := id hX0
  obtain ⟨e1, e2, e3, e4, e5⟩ := id hE0
  have hx : K x = 8 := hx
  have hq1 : Q x 0 = some t1 := hq1
  have hq7 : Q x 1 = some t7 := hq7
  have hq6 : Q x 2 = some t6 := hq6
  have hq5 : Q x 3 = some t5 := hq5
  have kt1 : K t1 = 2 := H1.kc.1
  have kt7 : K t7 = 7 := H7.kc
  have kt6 : K t6 = 6 := H6.kc
  have kt5 : K t5 = 5 := H5.kc.1
  have l1 : I t1 3 = nI (cn al n) := H1.kc.2
  have l5 : I t5 3 = nI (cn pa m) := H5.kc.2.1
  have hm120 := H5.kc.2.2
  have l6 : I t6 1 = nI n := H6.cnt.1
  have l62 : I t6 2 = nI (cn al n) := H6.cnt.2.1
  have hup := H6.cnt.2.2.1
  have hcl := cn_le al n
  have hcm := cn_le pa m
  have e1 : I t1 4 = r := e1
  have e2 : I t1 5 = d := e2
  have e3 : I t7 2 = u := e3
  have e4 : I t6 3 = g := e4
  have e5 : I t5 4 = w := e5
  refine x_iload_n C D_X8_addPoint_0.1 rfl rfl ?_
  refine x_iload_n C D_X8_addPoint_0.2.1 rfl rfl ?_
  refine x_callSz C (y := yX8_isPlace) (c_X8_isPlace l G (nI (cc / 100)) (nI (cc % 100))) k_452 k_453 k_60 k_454 hd_X8_isPlace ⟨(Nat.le_of_ble_eq_true rfl), (Nat.le_of_ble_eq_true rfl)⟩ rfl (by first | exact Nat.le_of_ble_eq_true rfl | simp [x_crf, Value.category]) rfl rfl D_X8_addPoint_0.2.2.1 ⟨(Nat.le_of_ble_eq_true rfl), (Nat.le_of_ble_eq_true rfl)⟩ (fun r_2 S_2 h_2 => ?_)
  obtain ⟨rfl, rfl⟩ := h_2
  rw [is_pl (show cc / 100 < 100 by omega) (show cc % 100 < 100 by omega)]
  refine x_if_ne C 18 D_X8_addPoint_0.2.2.2.1 (by decide) (fun c_5 => ?_) (fun c_5 => ?_)
  · skip
    refine x_iload_n C D_X8_addPoint_0.2.2.2.2.2.2.2.2.2.1 rfl rfl ?_
    refine x_iload_n C D_X8_addPoint_0.2.2.2.2.2.2.2.2.2.2.1 rfl rfl ?_
    refine x_callSi C (y := yX5_keyOf) (c_X5_keyOf l G (cc)) k_455 k_456 k_66 k_457 hd_X5_keyOf ⟨(Nat.le_of_ble_eq_true rfl), (Nat.le_of_ble_eq_true rfl)⟩ rfl (by first | exact Nat.le_of_ble_eq_true rfl | simp [x_crf, Value.category]) rfl rfl D_X8_addPoint_0.2.2.2.2.2.2.2.2.2.2.2 ⟨(Nat.le_of_ble_eq_true rfl), (Nat.le_of_ble_eq_true rfl)⟩ (fun r_20 S_20 h_20 => ?_)
    obtain ⟨rfl, rfl⟩ := h_20
    refine x_istore_n C (lv' := [_, _, _, _]) D_X8_addPoint_1.1 rfl (Nat.le_of_ble_eq_true rfl) (by first | rfl | exact x_ok_q rfl) rfl ?_
    refine x_aload_n C D_X8_addPoint_1.2.1 rfl rfl (by first | exact Or.inr ⟨_, rfl⟩ | exact va_rf_or _ | exact Or.inl rfl) ?_
    refine x_getQ C (ci := 7) (k0 := 3) hx (by decide) rfl (by decide) in_X8 k_182 rfl rfl D_X8_addPoint_1.2.2.1 ?_
    refine x_eqr hq5 ?_
    refine x_iload_n C D_X8_addPoint_1.2.2.2.1 rfl rfl ?_
    refine x_callUz C (x := ⟨"ScapegoatSpur$PointTree", "holds", "(I)Z"⟩) (y := yX2_holds) (owner := "ScapegoatSpur$LazyTree") (k5_holdsN l G H5 hcc hnew) (ci := 4) kt5 (by decide) rfl k_458 k_459 k_461 k_462 k_61 k_463 rfl hu_X2_holds ⟨(Nat.le_of_ble_eq_true rfl), (Nat.le_of_ble_eq_true rfl)⟩ rfl (by first | exact Nat.le_of_ble_eq_true rfl | simp [x_crf, Value.category]) rfl rfl D_X8_addPoint_1.2.2.2.2.1 ⟨(Nat.le_of_ble_eq_true rfl), (Nat.le_of_ble_eq_true rfl)⟩ (fun r_29 S_29 h_29 => ?_)
    obtain ⟨rfl, hF, H5a, ht⟩ := h_29
    obtain ⟨K1, N1, I1, Q1, J1⟩ := S_29
    obtain ⟨hx1, hox1, hQ1⟩ := hF.obj (by omega) hx hox
    have hx1 : K1 x = 8 := hx1
    have hQ1 : Q1 x = Q x := hQ1
    have kt5a : K1 t5 = 5 := H5a.kc.1
    have l5a : I1 t5 3 = nI (cn pa m) := H5a.kc.2.1
    refine x_if_eq C 37 D_X8_addPoint_1.2.2.2.2.2.1 (by decide) (fun c_32 => ?_) (fun c_32 => ?_)
    · skip
      refine x_aload_n C D_X8_addPoint_1.2.2.2.2.2.2.2.2.1 rfl rfl (by first | exact Or.inr ⟨_, rfl⟩ | exact va_rf_or _ | exact Or.inl rfl) ?_
      refine x_getQ C (ci := 7) (k0 := 3) hx1 (by decide) rfl (by decide) in_X8 k_182 rfl rfl D_X8_addPoint_1.2.2.2.2.2.2.2.2.2.1 ?_
      refine x_eqr (show Q1 x 3 = some t5 by rw [hQ1]; exact hq5) ?_
      refine x_callUi C (x := ⟨"ScapegoatSpur$PointTree", "living", "()I"⟩) (y := yX2_living) (owner := "ScapegoatSpur$LazyTree") (c_X2_living_5 l G t5 kt5a) (ci := 4) kt5a (by decide) rfl k_471 k_472 k_474 k_475 k_61 k_476 rfl hu_X2_living ⟨(Nat.le_of_ble_eq_true rfl), (Nat.le_of_ble_eq_true rfl)⟩ rfl (by first | exact Nat.le_of_ble_eq_true rfl | simp [x_crf, Value.category]) rfl rfl D_X8_addPoint_1.2.2.2.2.2.2.2.2.2.2.1 ⟨(Nat.le_of_ble_eq_true rfl), (Nat.le_of_ble_eq_true rfl)⟩ (fun r_41 S_41 h_41 => ?_)
      obtain ⟨rfl, rfl⟩ := h_41
      refine x_eqi _ l5a ?_
      refine x_bipush C (v := nI 60) D_X8_addPoint_1.2.2.2.2.2.2.2.2.2.2.2 (by decide +kernel) ?_
      refine x_icmp_lt C 59 D_X8_addPoint_2.1 (by decide) (fun c_46 => ?_) (fun c_46 => ?_)
      · skip
        first
        | have d_46 := cv_lt c_46 (by omega) (by omega)
        | skip
        refine x_aload_n C D_X8_addPoint_2.2.2.2.2.2.2.1 rfl rfl (by first | exact Or.inr ⟨_, rfl⟩ | exact va_rf_or _ | exact Or.inl rfl) ?_
        refine x_getQ C (ci := 7) (k0 := 3) hx1 (by decide) rfl (by decide) in_X8 k_182 rfl rfl D_X8_addPoint_2.2.2.2.2.2.2.2.1 ?_
        refine x_eqr (show Q1 x 3 = some t5 by rw [hQ1]; exact hq5) ?_
        refine x_iload_n C D_X8_addPoint_2.2.2.2.2.2.2.2.2.1 rfl rfl ?_
        refine x_callUv C (x := ⟨"ScapegoatSpur$PointTree", "enter", "(I)V"⟩) (y := yX2_enter) (owner := "ScapegoatSpur$LazyTree") (k5_enterN l G H5a (by omega) hcc hnew) (ci := 4) kt5a (by decide) rfl k_840 k_841 k_842 k_596 k_61 k_597 rfl hu_X2_enter ⟨(Nat.le_of_ble_eq_true rfl), (Nat.le_of_ble_eq_true rfl)⟩ rfl (by first | exact Nat.le_of_ble_eq_true rfl | simp [x_crf, Value.category]) rfl rfl D_X8_addPoint_2.2.2.2.2.2.2.2.2.2.1 ⟨(Nat.le_of_ble_eq_true rfl), (Nat.le_of_ble_eq_true rfl)⟩ (fun _ S_64 h_64 => ?_)
        obtain ⟨ow2, OP, PS, hF2, hPX, H5b, q4⟩ := h_64
        obtain ⟨K2, N2, I2, Q2, J2⟩ := S_64
        refine x_iconst C (v := nI 1) D_X8_addPoint_2.2.2.2.2.2.2.2.2.2.2.1 (by decide +kernel) ?_
        refine ret _ _ _ _ _ _ true rfl D_X8_addPoint_2.2.2.2.2.2.2.2.2.2.2.2 (Nat.le_of_ble_eq_true rfl) (Nat.le_of_ble_eq_true rfl) rfl ?_
        exact ⟨rfl, ow2, OP, PS, (hF.trans hF2).fr8 (by omega), hPX, SY.a5 hX0 H1 H7 H6 hE0 hn hb (hF.trans hF2) H5b (q4.trans (by rw [show I1 t5 4 = w from (ht 4).trans e5]))⟩
      · skip
        first
        | have d_46 := cv_nlt c_46 (by omega) (by omega)
        | skip
        exfalso; omega
        --end
    · skip
      exact absurd rfl c_32
      --end
  · skip
    exact absurd c_5 (by decide)
    --end
abbrev rm_X8_removePointR : Room := { frames := 1, cells := 0, slots := 0, locals := 21 }
set_option maxHeartbeats 4000000 in
set_option maxRecDepth 100000 in
theorem c_X8_removePointR (l : Launch) (G : xG) {K N : Nat → Nat} {I : Nat → Nat → Int32} {Q : Nat → Nat → Option Nat} {J : Nat → Nat → Int64} (ow : xO) (x n m : Nat) (c : Nat → Nat) (al : Nat → Bool) (sp tu pt pc ps : Nat → Nat) (pa : Nat → Bool) (r d u g w : Int32) (y z : Int32) (hS : SY ow (K, N, I, Q, J) x n c al sp tu pt m pc pa ps r d u g w) (hyz : y < 0 ∨ nI 99 < y ∨ z < 0 ∨ nI 99 < z)  : XM l yX8_removePoint cX8_removePoint 4 (some .boolean) rm_X8_removePointR G Rz [.ref x, .int y, .int z] (K, N, I, Q, J) (fun r_ S1 => r_ = false ∧ ∃ ow1, FR8 ow ow1 (K, N, I, Q, J) S1 ∧ SY ow1 S1 x n c al sp tu pt m pc pa ps r d u g w) := by
  refine x_metz (lv := [_, _, _, _]) (by decide +kernel) (x_cc (by first | rfl | exact x_crf _) (x_cc (by first | rfl | exact x_crf _) (x_cc (by first | rfl | exact x_crf _) x_cn))) (Nat.le_of_ble_eq_true rfl) rfl ?_
  intro pP eE sS mM aA bB hH cC Z C hini ret
  obtain ⟨t1, t7, t6, t5, hX0, H1, H7, H6, H5, hE0, hn, hb⟩ := id hS
  obtain ⟨hx, hox, hq1, hq7, hq6, hq5⟩ := id hX0
  obtain ⟨e1, e2, e3, e4, e5⟩ := id hE0
  have hx : K x = 8 := hx
  have hq1 : Q x 0 = some t1 := hq1
  have hq7 : Q x 1 = some t7 := hq7
  have hq6 : Q x 2 = some t6 := hq6
  have hq5 : Q x 3 = some t5 := hq5
  have kt1 : K t1 = 2 := H1.kc.1
  have kt7 : K t7 = 7 := H7.kc
  have kt6 : K t6 = 6 := H6.kc
  have kt5 : K t5 = 5 := H5.kc.1
  have l1 : I t1 3 = nI (cn al n) := H1.kc.2
  have l5 : I t5 3 = nI (cn pa m) := H5.kc.2.1
  have hm120 := H5.kc.2.2
  have l6 : I t6 1 = nI n := H6.cnt.1
  have l62 : I t6 2 = nI (cn al n) := H6.cnt.2.1
  have hup := H6.cnt.2.2.1
  have hcl := cn_le al n
  have hcm := cn_le pa m
  have e1 : I t1 4 = r := e1
  have e2 : I t1 5 = d := e2
  have e3 : I t7 2 = u := e3
  have e4 : I t6 3 = g := e4
  have e5 : I t5 4 = w := e5
  refine x_iload_n C D_X8_removePoint_0.1 rfl rfl ?_
  refine x_iload_n C D_X8_removePoint_0.2.1 rfl rfl ?_
  refine x_callSz C (y := yX8_isPlace) (c_X8_isPlace l G (y) (z)) k_452 k_453 k_60 k_454 hd_X8_isPlace ⟨(Nat.le_of_ble_eq_true rfl), (Nat.le_of_ble_eq_true rfl)⟩ rfl (by first | exact Nat.le_of_ble_eq_true rfl | simp [x_crf, Value.category]) rfl rfl D_X8_removePoint_0.2.2.1 ⟨(Nat.le_of_ble_eq_true rfl), (Nat.le_of_ble_eq_true rfl)⟩ (fun r_2 S_2 h_2 => ?_)
  obtain ⟨rfl, rfl⟩ := h_2
  rw [is_np hyz]
  refine x_if_ne C 10 D_X8_removePoint_0.2.2.2.1 (by decide) (fun c_5 => ?_) (fun c_5 => ?_)
  · skip
    exact absurd rfl c_5
    --end
  · skip
    refine x_iconst C (v := nI 0) D_X8_removePoint_0.2.2.2.2.1 (by decide +kernel) ?_
    refine ret _ _ _ _ _ _ false rfl D_X8_removePoint_0.2.2.2.2.2.1 (Nat.le_of_ble_eq_true rfl) (Nat.le_of_ble_eq_true rfl) rfl ?_
    exact ⟨rfl, ow, FR8.refl _ _, hS⟩
abbrev rm_X8_removePointN : Room := { frames := 4, cells := 0, slots := 0, locals := 90 }
set_option maxHeartbeats 4000000 in
set_option maxRecDepth 100000 in
theorem c_X8_removePointN (l : Launch) (G : xG) {K N : Nat → Nat} {I : Nat → Nat → Int32} {Q : Nat → Nat → Option Nat} {J : Nat → Nat → Int64} (ow : xO) (x n m : Nat) (c : Nat → Nat) (al : Nat → Bool) (sp tu pt pc ps : Nat → Nat) (pa : Nat → Bool) (r d u g w : Int32) (cc : Nat) (hS : SY ow (K, N, I, Q, J) x n c al sp tu pt m pc pa ps r d u g w) (hcc : cc < 10000) (hnew : ∀ i, i < m → pc i ≠ cc)  : XM l yX8_removePoint cX8_removePoint 4 (some .boolean) rm_X8_removePointN G Rz [.ref x, .int (nI (cc / 100)), .int (nI (cc % 100))] (K, N, I, Q, J) (fun r_ S1 => r_ = false ∧ ∃ ow1, FR8 ow ow1 (K, N, I, Q, J) S1 ∧ SY ow1 S1 x n c al sp tu pt m pc pa ps r d u g w) := by
  refine x_metz (lv := [_, _, _, _]) (by decide +kernel) (x_cc (by first | rfl | exact x_crf _) (x_cc (by first | rfl | exact x_crf _) (x_cc (by first | rfl | exact x_crf _) x_cn))) (Nat.le_of_ble_eq_true rfl) rfl ?_
  intro pP eE sS mM aA bB hH cC Z C hini ret
  obtain ⟨t1, t7, t6, t5, hX0, H1, H7, H6, H5, hE0, hn, hb⟩ := id hS
  obtain ⟨hx, hox, hq1, hq7, hq6, hq5⟩ := id hX0
  obtain ⟨e1, e2, e3, e4, e5⟩ := id hE0
  have hx : K x = 8 := hx
  have hq1 : Q x 0 = some t1 := hq1
  have hq7 : Q x 1 = some t7 := hq7
  have hq6 : Q x 2 = some t6 := hq6
  have hq5 : Q x 3 = some t5 := hq5
  have kt1 : K t1 = 2 := H1.kc.1
  have kt7 : K t7 = 7 := H7.kc
  have kt6 : K t6 = 6 := H6.kc
  have kt5 : K t5 = 5 := H5.kc.1
  have l1 : I t1 3 = nI (cn al n) := H1.kc.2
  have l5 : I t5 3 = nI (cn pa m) := H5.kc.2.1
  have hm120 := H5.kc.2.2
  have l6 : I t6 1 = nI n := H6.cnt.1
  have l62 : I t6 2 = nI (cn al n) := H6.cnt.2.1
  have hup := H6.cnt.2.2.1
  have hcl := cn_le al n
  have hcm := cn_le pa m
  have e1 : I t1 4 = r := e1
  have e2 : I t1 5 = d := e2
  have e3 : I t7 2 = u := e3
  have e4 : I t6 3 = g := e4
  have e5 : I t5 4 = w := e5
  refine x_iload_n C D_X8_removePoint_0.1 rfl rfl ?_
  refine x_iload_n C D_X8_removePoint_0.2.1 rfl rfl ?_
  refine x_callSz C (y := yX8_isPlace) (c_X8_isPlace l G (nI (cc / 100)) (nI (cc % 100))) k_452 k_453 k_60 k_454 hd_X8_isPlace ⟨(Nat.le_of_ble_eq_true rfl), (Nat.le_of_ble_eq_true rfl)⟩ rfl (by first | exact Nat.le_of_ble_eq_true rfl | simp [x_crf, Value.category]) rfl rfl D_X8_removePoint_0.2.2.1 ⟨(Nat.le_of_ble_eq_true rfl), (Nat.le_of_ble_eq_true rfl)⟩ (fun r_2 S_2 h_2 => ?_)
  obtain ⟨rfl, rfl⟩ := h_2
  rw [is_pl (show cc / 100 < 100 by omega) (show cc % 100 < 100 by omega)]
  refine x_if_ne C 10 D_X8_removePoint_0.2.2.2.1 (by decide) (fun c_5 => ?_) (fun c_5 => ?_)
  · skip
    refine x_iload_n C D_X8_removePoint_0.2.2.2.2.2.2.1 rfl rfl ?_
    refine x_iload_n C D_X8_removePoint_0.2.2.2.2.2.2.2.1 rfl rfl ?_
    refine x_callSi C (y := yX5_keyOf) (c_X5_keyOf l G (cc)) k_455 k_456 k_66 k_457 hd_X5_keyOf ⟨(Nat.le_of_ble_eq_true rfl), (Nat.le_of_ble_eq_true rfl)⟩ rfl (by first | exact Nat.le_of_ble_eq_true rfl | simp [x_crf, Value.category]) rfl rfl D_X8_removePoint_0.2.2.2.2.2.2.2.2.1 ⟨(Nat.le_of_ble_eq_true rfl), (Nat.le_of_ble_eq_true rfl)⟩ (fun r_12 S_12 h_12 => ?_)
    obtain ⟨rfl, rfl⟩ := h_12
    refine x_istore_n C (lv' := [_, _, _, _]) D_X8_removePoint_0.2.2.2.2.2.2.2.2.2.1 rfl (Nat.le_of_ble_eq_true rfl) (by first | rfl | exact x_ok_q rfl) rfl ?_
    refine x_aload_n C D_X8_removePoint_0.2.2.2.2.2.2.2.2.2.2.1 rfl rfl (by first | exact Or.inr ⟨_, rfl⟩ | exact va_rf_or _ | exact Or.inl rfl) ?_
    refine x_getQ C (ci := 7) (k0 := 3) hx (by decide) rfl (by decide) in_X8 k_182 rfl rfl D_X8_removePoint_0.2.2.2.2.2.2.2.2.2.2.2 ?_
    refine x_eqr hq5 ?_
    refine x_iload_n C D_X8_removePoint_1.1 rfl rfl ?_
    refine x_callUz C (x := ⟨"ScapegoatSpur$PointTree", "holds", "(I)Z"⟩) (y := yX2_holds) (owner := "ScapegoatSpur$LazyTree") (k5_holdsN l G H5 hcc hnew) (ci := 4) kt5 (by decide) rfl k_458 k_459 k_461 k_462 k_61 k_463 rfl hu_X2_holds ⟨(Nat.le_of_ble_eq_true rfl), (Nat.le_of_ble_eq_true rfl)⟩ rfl (by first | exact Nat.le_of_ble_eq_true rfl | simp [x_crf, Value.category]) rfl rfl D_X8_removePoint_1.2.1 ⟨(Nat.le_of_ble_eq_true rfl), (Nat.le_of_ble_eq_true rfl)⟩ (fun r_21 S_21 h_21 => ?_)
    obtain ⟨rfl, hF, H5a, ht⟩ := h_21
    obtain ⟨K1, N1, I1, Q1, J1⟩ := S_21
    obtain ⟨hx1, hox1, hQ1⟩ := hF.obj (by omega) hx hox
    have hx1 : K1 x = 8 := hx1
    have hQ1 : Q1 x = Q x := hQ1
    have kt5a : K1 t5 = 5 := H5a.kc.1
    have l5a : I1 t5 3 = nI (cn pa m) := H5a.kc.2.1
    refine x_if_ne C 29 D_X8_removePoint_1.2.2.1 (by decide) (fun c_24 => ?_) (fun c_24 => ?_)
    · skip
      exact absurd rfl c_24
      --end
    · skip
      refine x_iconst C (v := nI 0) D_X8_removePoint_1.2.2.2.1 (by decide +kernel) ?_
      refine ret _ _ _ _ _ _ false rfl D_X8_removePoint_1.2.2.2.2.1 (Nat.le_of_ble_eq_true rfl) (Nat.le_of_ble_eq_true rfl) rfl ?_
      exact ⟨rfl, ow, hF.fr8 (by omega), SY.a5 hX0 H1 H7 H6 hE0 hn hb hF H5a ((ht 4).trans e5)⟩
  · skip
    exact absurd c_5 (by decide)
    --end
abbrev rm_X8_removePointG : Room := { frames := 4, cells := 0, slots := 0, locals := 90 }
set_option maxHeartbeats 4000000 in
set_option maxRecDepth 100000 in
theorem c_X8_removePointG (l : Launch) (G : xG) {K N : Nat → Nat} {I : Nat → Nat → Int32} {Q : Nat → Nat → Option Nat} {J : Nat → Nat → Int64} (ow : xO) (x n m : Nat) (c : Nat → Nat) (al : Nat → Bool) (sp tu pt pc ps : Nat → Nat) (pa : Nat → Bool) (r d u g w : Int32) (k : Nat) (hS : SY ow (K, N, I, Q, J) x n c al sp tu pt m pc pa ps r d u g w) (hk : k < m) (hal : pa k = false)  : XM l yX8_removePoint cX8_removePoint 4 (some .boolean) rm_X8_removePointG G Rz [.ref x, .int (nI (pc k / 100)), .int (nI (pc k % 100))] (K, N, I, Q, J) (fun r_ S1 => r_ = false ∧ ∃ ow1, FR8 ow ow1 (K, N, I, Q, J) S1 ∧ SY ow1 S1 x n c al sp tu pt m pc pa ps r d u g w) := by
  refine x_metz (lv := [_, _, _, _]) (by decide +kernel) (x_cc (by first | rfl | exact x_crf _) (x_cc (by first | rfl | exact x_crf _) (x_cc (by first | rfl | exact x_crf _) x_cn))) (Nat.le_of_ble_eq_true rfl) rfl ?_
  intro pP eE sS mM aA bB hH cC Z C hini ret
  obtain ⟨t1, t7, t6, t5, hX0, H1, H7, H6, H5, hE0, hn, hb⟩ := id hS
  obtain ⟨hx, hox, hq1, hq7, hq6, hq5⟩ := id hX0
  obtain ⟨e1, e2, e3, e4, e5⟩ := id hE0
  have hx : K x = 8 := hx
  have hq1 : Q x 0 = some t1 := hq1
  have hq7 : Q x 1 = some t7 := hq7
  have hq6 : Q x 2 = some t6 := hq6
  have hq5 : Q x 3 = some t5 := hq5
  have kt1 : K t1 = 2 := H1.kc.1
  have kt7 : K t7 = 7 := H7.kc
  have kt6 : K t6 = 6 := H6.kc
  have kt5 : K t5 = 5 := H5.kc.1
  have l1 : I t1 3 = nI (cn al n) := H1.kc.2
  have l5 : I t5 3 = nI (cn pa m) := H5.kc.2.1
  have hm120 := H5.kc.2.2
  have l6 : I t6 1 = nI n := H6.cnt.1
  have l62 : I t6 2 = nI (cn al n) := H6.cnt.2.1
  have hup := H6.cnt.2.2.1
  have hcl := cn_le al n
  have hcm := cn_le pa m
  have e1 : I t1 4 = r := e1
  have e2 : I t1 5 = d := e2
  have e3 : I t7 2 = u := e3
  have e4 : I t6 3 = g := e4
  have e5 : I t5 4 = w := e5
  have hpk := (H5.bd k hk).1
  refine x_iload_n C D_X8_removePoint_0.1 rfl rfl ?_
  refine x_iload_n C D_X8_removePoint_0.2.1 rfl rfl ?_
  refine x_callSz C (y := yX8_isPlace) (c_X8_isPlace l G (nI (pc k / 100)) (nI (pc k % 100))) k_452 k_453 k_60 k_454 hd_X8_isPlace ⟨(Nat.le_of_ble_eq_true rfl), (Nat.le_of_ble_eq_true rfl)⟩ rfl (by first | exact Nat.le_of_ble_eq_true rfl | simp [x_crf, Value.category]) rfl rfl D_X8_removePoint_0.2.2.1 ⟨(Nat.le_of_ble_eq_true rfl), (Nat.le_of_ble_eq_true rfl)⟩ (fun r_2 S_2 h_2 => ?_)
  obtain ⟨rfl, rfl⟩ := h_2
  rw [is_pl (show pc k / 100 < 100 by omega) (show pc k % 100 < 100 by omega)]
  refine x_if_ne C 10 D_X8_removePoint_0.2.2.2.1 (by decide) (fun c_5 => ?_) (fun c_5 => ?_)
  · skip
    refine x_iload_n C D_X8_removePoint_0.2.2.2.2.2.2.1 rfl rfl ?_
    refine x_iload_n C D_X8_removePoint_0.2.2.2.2.2.2.2.1 rfl rfl ?_
    refine x_callSi C (y := yX5_keyOf) (c_X5_keyOf l G (pc k)) k_455 k_456 k_66 k_457 hd_X5_keyOf ⟨(Nat.le_of_ble_eq_true rfl), (Nat.le_of_ble_eq_true rfl)⟩ rfl (by first | exact Nat.le_of_ble_eq_true rfl | simp [x_crf, Value.category]) rfl rfl D_X8_removePoint_0.2.2.2.2.2.2.2.2.1 ⟨(Nat.le_of_ble_eq_true rfl), (Nat.le_of_ble_eq_true rfl)⟩ (fun r_12 S_12 h_12 => ?_)
    obtain ⟨rfl, rfl⟩ := h_12
    refine x_istore_n C (lv' := [_, _, _, _]) D_X8_removePoint_0.2.2.2.2.2.2.2.2.2.1 rfl (Nat.le_of_ble_eq_true rfl) (by first | rfl | exact x_ok_q rfl) rfl ?_
    refine x_aload_n C D_X8_removePoint_0.2.2.2.2.2.2.2.2.2.2.1 rfl rfl (by first | exact Or.inr ⟨_, rfl⟩ | exact va_rf_or _ | exact Or.inl rfl) ?_
    refine x_getQ C (ci := 7) (k0 := 3) hx (by decide) rfl (by decide) in_X8 k_182 rfl rfl D_X8_removePoint_0.2.2.2.2.2.2.2.2.2.2.2 ?_
    refine x_eqr hq5 ?_
    refine x_iload_n C D_X8_removePoint_1.1 rfl rfl ?_
    refine x_callUz C (x := ⟨"ScapegoatSpur$PointTree", "holds", "(I)Z"⟩) (y := yX2_holds) (owner := "ScapegoatSpur$LazyTree") (k5_holdsY l G H5 hk) (ci := 4) kt5 (by decide) rfl k_458 k_459 k_461 k_462 k_61 k_463 rfl hu_X2_holds ⟨(Nat.le_of_ble_eq_true rfl), (Nat.le_of_ble_eq_true rfl)⟩ rfl (by first | exact Nat.le_of_ble_eq_true rfl | simp [x_crf, Value.category]) rfl rfl D_X8_removePoint_1.2.1 ⟨(Nat.le_of_ble_eq_true rfl), (Nat.le_of_ble_eq_true rfl)⟩ (fun r_21 S_21 h_21 => ?_)
    obtain ⟨rfl, hF, H5a, ht⟩ := h_21
    obtain ⟨K1, N1, I1, Q1, J1⟩ := S_21
    obtain ⟨hx1, hox1, hQ1⟩ := hF.obj (by omega) hx hox
    have hx1 : K1 x = 8 := hx1
    have hQ1 : Q1 x = Q x := hQ1
    have kt5a : K1 t5 = 5 := H5a.kc.1
    have l5a : I1 t5 3 = nI (cn pa m) := H5a.kc.2.1
    rw [hal]
    refine x_if_ne C 29 D_X8_removePoint_1.2.2.1 (by decide) (fun c_24 => ?_) (fun c_24 => ?_)
    · skip
      exact absurd rfl c_24
      --end
    · skip
      refine x_iconst C (v := nI 0) D_X8_removePoint_1.2.2.2.1 (by decide +kernel) ?_
      refine ret _ _ _ _ _ _ false rfl D_X8_removePoint_1.2.2.2.2.1 (Nat.le_of_ble_eq_true rfl) (Nat.le_of_ble_eq_true rfl) rfl ?_
      exact ⟨rfl, ow, hF.fr8 (by omega), SY.a5 hX0 H1 H7 H6 hE0 hn hb hF H5a ((ht 4).trans e5)⟩
  · skip
    exact absurd c_5 (by decide)
    --end
abbrev rm_X8_removePointK : Room := { frames := 46, cells := 0, slots := 0, locals := 1070 }
set_option maxHeartbeats 4000000 in
set_option maxRecDepth 100000 in
theorem c_X8_removePointK (l : Launch) (G : xG) {K N : Nat → Nat} {I : Nat → Nat → Int32} {Q : Nat → Nat → Option Nat} {J : Nat → Nat → Int64} (ow : xO) (x n m : Nat) (c : Nat → Nat) (al : Nat → Bool) (sp tu pt pc ps : Nat → Nat) (pa : Nat → Bool) (r d u g w : Int32) (k : Nat) (hS : SY ow (K, N, I, Q, J) x n c al sp tu pt m pc pa ps r d u g w) (hk : k < m) (hal : pa k = true) (hcond : m - (cn (x_up pa k false) m) ≤ (cn (x_up pa k false) m))  : XM l yX8_removePoint cX8_removePoint 4 (some .boolean) rm_X8_removePointK G Rz [.ref x, .int (nI (pc k / 100)), .int (nI (pc k % 100))] (K, N, I, Q, J) (fun r_ S1 => r_ = true ∧ ∃ ow1, FR8 ow ow1 (K, N, I, Q, J) S1 ∧ SY ow1 S1 x n c al sp tu pt m pc (x_up pa k false) ps r d u g w) := by
  refine x_metz (lv := [_, _, _, _]) (by decide +kernel) (x_cc (by first | rfl | exact x_crf _) (x_cc (by first | rfl | exact x_crf _) (x_cc (by first | rfl | exact x_crf _) x_cn))) (Nat.le_of_ble_eq_true rfl) rfl ?_
  intro pP eE sS mM aA bB hH cC Z C hini ret
  obtain ⟨t1, t7, t6, t5, hX0, H1, H7, H6, H5, hE0, hn, hb⟩ := id hS
  obtain ⟨hx, hox, hq1, hq7, hq6, hq5⟩ := id hX0
  obtain ⟨e1, e2, e3, e4, e5⟩ := id hE0
  have hx : K x = 8 := hx
  have hq1 : Q x 0 = some t1 := hq1
  have hq7 : Q x 1 = some t7 := hq7
  have hq6 : Q x 2 = some t6 := hq6
  have hq5 : Q x 3 = some t5 := hq5
  have kt1 : K t1 = 2 := H1.kc.1
  have kt7 : K t7 = 7 := H7.kc
  have kt6 : K t6 = 6 := H6.kc
  have kt5 : K t5 = 5 := H5.kc.1
  have l1 : I t1 3 = nI (cn al n) := H1.kc.2
  have l5 : I t5 3 = nI (cn pa m) := H5.kc.2.1
  have hm120 := H5.kc.2.2
  have l6 : I t6 1 = nI n := H6.cnt.1
  have l62 : I t6 2 = nI (cn al n) := H6.cnt.2.1
  have hup := H6.cnt.2.2.1
  have hcl := cn_le al n
  have hcm := cn_le pa m
  have e1 : I t1 4 = r := e1
  have e2 : I t1 5 = d := e2
  have e3 : I t7 2 = u := e3
  have e4 : I t6 3 = g := e4
  have e5 : I t5 4 = w := e5
  have hpk := (H5.bd k hk).1
  refine x_iload_n C D_X8_removePoint_0.1 rfl rfl ?_
  refine x_iload_n C D_X8_removePoint_0.2.1 rfl rfl ?_
  refine x_callSz C (y := yX8_isPlace) (c_X8_isPlace l G (nI (pc k / 100)) (nI (pc k % 100))) k_452 k_453 k_60 k_454 hd_X8_isPlace ⟨(Nat.le_of_ble_eq_true rfl), (Nat.le_of_ble_eq_true rfl)⟩ rfl (by first | exact Nat.le_of_ble_eq_true rfl | simp [x_crf, Value.category]) rfl rfl D_X8_removePoint_0.2.2.1 ⟨(Nat.le_of_ble_eq_true rfl), (Nat.le_of_ble_eq_true rfl)⟩ (fun r_2 S_2 h_2 => ?_)
  obtain ⟨rfl, rfl⟩ := h_2
  rw [is_pl (show pc k / 100 < 100 by omega) (show pc k % 100 < 100 by omega)]
  refine x_if_ne C 10 D_X8_removePoint_0.2.2.2.1 (by decide) (fun c_5 => ?_) (fun c_5 => ?_)
  · skip
    refine x_iload_n C D_X8_removePoint_0.2.2.2.2.2.2.1 rfl rfl ?_
    refine x_iload_n C D_X8_removePoint_0.2.2.2.2.2.2.2.1 rfl rfl ?_
    refine x_callSi C (y := yX5_keyOf) (c_X5_keyOf l G (pc k)) k_455 k_456 k_66 k_457 hd_X5_keyOf ⟨(Nat.le_of_ble_eq_true rfl), (Nat.le_of_ble_eq_true rfl)⟩ rfl (by first | exact Nat.le_of_ble_eq_true rfl | simp [x_crf, Value.category]) rfl rfl D_X8_removePoint_0.2.2.2.2.2.2.2.2.1 ⟨(Nat.le_of_ble_eq_true rfl), (Nat.le_of_ble_eq_true rfl)⟩ (fun r_12 S_12 h_12 => ?_)
    obtain ⟨rfl, rfl⟩ := h_12
    refine x_istore_n C (lv' := [_, _, _, _]) D_X8_removePoint_0.2.2.2.2.2.2.2.2.2.1 rfl (Nat.le_of_ble_eq_true rfl) (by first | rfl | exact x_ok_q rfl) rfl ?_
    refine x_aload_n C D_X8_removePoint_0.2.2.2.2.2.2.2.2.2.2.1 rfl rfl (by first | exact Or.inr ⟨_, rfl⟩ | exact va_rf_or _ | exact Or.inl rfl) ?_
    refine x_getQ C (ci := 7) (k0 := 3) hx (by decide) rfl (by decide) in_X8 k_182 rfl rfl D_X8_removePoint_0.2.2.2.2.2.2.2.2.2.2.2 ?_
    refine x_eqr hq5 ?_
    refine x_iload_n C D_X8_removePoint_1.1 rfl rfl ?_
    refine x_callUz C (x := ⟨"ScapegoatSpur$PointTree", "holds", "(I)Z"⟩) (y := yX2_holds) (owner := "ScapegoatSpur$LazyTree") (k5_holdsY l G H5 hk) (ci := 4) kt5 (by decide) rfl k_458 k_459 k_461 k_462 k_61 k_463 rfl hu_X2_holds ⟨(Nat.le_of_ble_eq_true rfl), (Nat.le_of_ble_eq_true rfl)⟩ rfl (by first | exact Nat.le_of_ble_eq_true rfl | simp [x_crf, Value.category]) rfl rfl D_X8_removePoint_1.2.1 ⟨(Nat.le_of_ble_eq_true rfl), (Nat.le_of_ble_eq_true rfl)⟩ (fun r_21 S_21 h_21 => ?_)
    obtain ⟨rfl, hF, H5a, ht⟩ := h_21
    obtain ⟨K1, N1, I1, Q1, J1⟩ := S_21
    obtain ⟨hx1, hox1, hQ1⟩ := hF.obj (by omega) hx hox
    have hx1 : K1 x = 8 := hx1
    have hQ1 : Q1 x = Q x := hQ1
    have kt5a : K1 t5 = 5 := H5a.kc.1
    have l5a : I1 t5 3 = nI (cn pa m) := H5a.kc.2.1
    rw [hal]
    refine x_if_ne C 29 D_X8_removePoint_1.2.2.1 (by decide) (fun c_24 => ?_) (fun c_24 => ?_)
    · skip
      refine x_aload_n C D_X8_removePoint_1.2.2.2.2.2.1 rfl rfl (by first | exact Or.inr ⟨_, rfl⟩ | exact va_rf_or _ | exact Or.inl rfl) ?_
      refine x_getQ C (ci := 7) (k0 := 3) hx1 (by decide) rfl (by decide) in_X8 k_182 rfl rfl D_X8_removePoint_1.2.2.2.2.2.2.1 ?_
      refine x_eqr (show Q1 x 3 = some t5 by rw [hQ1]; exact hq5) ?_
      refine x_iload_n C D_X8_removePoint_1.2.2.2.2.2.2.2.1 rfl rfl ?_
      refine x_callUv C (x := ⟨"ScapegoatSpur$PointTree", "retire", "(I)V"⟩) (y := yX2_retire) (owner := "ScapegoatSpur$LazyTree") (k5_retireK l G H5a hk hal hcond) (ci := 4) kt5a (by decide) rfl k_464 k_465 k_466 k_208 k_61 k_209 rfl hu_X2_retire ⟨(Nat.le_of_ble_eq_true rfl), (Nat.le_of_ble_eq_true rfl)⟩ rfl (by first | exact Nat.le_of_ble_eq_true rfl | simp [x_crf, Value.category]) rfl rfl D_X8_removePoint_1.2.2.2.2.2.2.2.2.1 ⟨(Nat.le_of_ble_eq_true rfl), (Nat.le_of_ble_eq_true rfl)⟩ (fun _ S_34 h_34 => ?_)
      obtain ⟨ow2, hF2, H5b, q4⟩ := h_34
      obtain ⟨K2, N2, I2, Q2, J2⟩ := S_34
      refine x_iconst C (v := nI 1) D_X8_removePoint_1.2.2.2.2.2.2.2.2.2.1 (by decide +kernel) ?_
      refine ret _ _ _ _ _ _ true rfl D_X8_removePoint_1.2.2.2.2.2.2.2.2.2.2 (Nat.le_of_ble_eq_true rfl) (Nat.le_of_ble_eq_true rfl) rfl ?_
      exact ⟨rfl, ow2, (hF.trans hF2).fr8 (by omega), SY.a5 hX0 H1 H7 H6 hE0 hn hb (hF.trans hF2) H5b (q4.trans ((ht 4).trans e5))⟩
    · skip
      exact absurd c_24 (by decide)
      --end
  · skip
    exact absurd c_5 (by decide)
    --end
abbrev rm_X8_removePointD : Room := { frames := 46, cells := 0, slots := 0, locals := 1070 }
set_option maxHeartbeats 4000000 in
set_option maxRecDepth 100000 in
theorem c_X8_removePointD (l : Launch) (G : xG) {K N : Nat → Nat} {I : Nat → Nat → Int32} {Q : Nat → Nat → Option Nat} {J : Nat → Nat → Int64} (ow : xO) (x n m : Nat) (c : Nat → Nat) (al : Nat → Bool) (sp tu pt pc ps : Nat → Nat) (pa : Nat → Bool) (r d u g w : Int32) (k : Nat) (hS : SY ow (K, N, I, Q, J) x n c al sp tu pt m pc pa ps r d u g w) (hk : k < m) (hal : pa k = true) (hcond : (cn (x_up pa k false) m) < m - (cn (x_up pa k false) m))  : XM l yX8_removePoint cX8_removePoint 4 (some .boolean) rm_X8_removePointD G Rz [.ref x, .int (nI (pc k / 100)), .int (nI (pc k % 100))] (K, N, I, Q, J) (fun r_ S1 => r_ = true ∧ ∃ ow1 OP PS, FR8 ow ow1 (K, N, I, Q, J) S1 ∧ ((∀ i, i < (cn (x_up pa k false) m) → OP 0 i = true) ∧ (∀ i, i < (cn (x_up pa k false) m) → PS 0 i = 1) ∧ LOR (cn (x_up pa k false) m) (fun j => pc (selF (x_up pa k false) m j)) OP PS 8) ∧ SY ow1 S1 x n c al sp tu pt (cn (x_up pa k false) m) (fun j => pc (selF (x_up pa k false) m j)) (fun _ => true) (PS 8) r d u g w) := by
  refine x_metz (lv := [_, _, _, _]) (by decide +kernel) (x_cc (by first | rfl | exact x_crf _) (x_cc (by first | rfl | exact x_crf _) (x_cc (by first | rfl | exact x_crf _) x_cn))) (Nat.le_of_ble_eq_true rfl) rfl ?_
  intro pP eE sS mM aA bB hH cC Z C hini ret
  obtain ⟨t1, t7, t6, t5, hX0, H1, H7, H6, H5, hE0, hn, hb⟩ := id hS
  obtain ⟨hx, hox, hq1, hq7, hq6, hq5⟩ := id hX0
  obtain ⟨e1, e2, e3, e4, e5⟩ := id hE0
  have hx : K x = 8 := hx
  have hq1 : Q x 0 = some t1 := hq1
  have hq7 : Q x 1 = some t7 := hq7
  have hq6 : Q x 2 = some t6 := hq6
  have hq5 : Q x 3 = some t5 := hq5
  have kt1 : K t1 = 2 := H1.kc.1
  have kt7 : K t7 = 7 := H7.kc
  have kt6 : K t6 = 6 := H6.kc
  have kt5 : K t5 = 5 := H5.kc.1
  have l1 : I t1 3 = nI (cn al n) := H1.kc.2
  have l5 : I t5 3 = nI (cn pa m) := H5.kc.2.1
  have hm120 := H5.kc.2.2
  have l6 : I t6 1 = nI n := H6.cnt.1
  have l62 : I t6 2 = nI (cn al n) := H6.cnt.2.1
  have hup := H6.cnt.2.2.1
  have hcl := cn_le al n
  have hcm := cn_le pa m
  have e1 : I t1 4 = r := e1
  have e2 : I t1 5 = d := e2
  have e3 : I t7 2 = u := e3
  have e4 : I t6 3 = g := e4
  have e5 : I t5 4 = w := e5
  have hpk := (H5.bd k hk).1
  refine x_iload_n C D_X8_removePoint_0.1 rfl rfl ?_
  refine x_iload_n C D_X8_removePoint_0.2.1 rfl rfl ?_
  refine x_callSz C (y := yX8_isPlace) (c_X8_isPlace l G (nI (pc k / 100)) (nI (pc k % 100))) k_452 k_453 k_60 k_454 hd_X8_isPlace ⟨(Nat.le_of_ble_eq_true rfl), (Nat.le_of_ble_eq_true rfl)⟩ rfl (by first | exact Nat.le_of_ble_eq_true rfl | simp [x_crf, Value.category]) rfl rfl D_X8_removePoint_0.2.2.1 ⟨(Nat.le_of_ble_eq_true rfl), (Nat.le_of_ble_eq_true rfl)⟩ (fun r_2 S_2 h_2 => ?_)
  obtain ⟨rfl, rfl⟩ := h_2
  rw [is_pl (show pc k / 100 < 100 by omega) (show pc k % 100 < 100 by omega)]
  refine x_if_ne C 10 D_X8_removePoint_0.2.2.2.1 (by decide) (fun c_5 => ?_) (fun c_5 => ?_)
  · skip
    refine x_iload_n C D_X8_removePoint_0.2.2.2.2.2.2.1 rfl rfl ?_
    refine x_iload_n C D_X8_removePoint_0.2.2.2.2.2.2.2.1 rfl rfl ?_
    refine x_callSi C (y := yX5_keyOf) (c_X5_keyOf l G (pc k)) k_455 k_456 k_66 k_457 hd_X5_keyOf ⟨(Nat.le_of_ble_eq_true rfl), (Nat.le_of_ble_eq_true rfl)⟩ rfl (by first | exact Nat.le_of_ble_eq_true rfl | simp [x_crf, Value.category]) rfl rfl D_X8_removePoint_0.2.2.2.2.2.2.2.2.1 ⟨(Nat.le_of_ble_eq_true rfl), (Nat.le_of_ble_eq_true rfl)⟩ (fun r_12 S_12 h_12 => ?_)
    obtain ⟨rfl, rfl⟩ := h_12
    refine x_istore_n C (lv' := [_, _, _, _]) D_X8_removePoint_0.2.2.2.2.2.2.2.2.2.1 rfl (Nat.le_of_ble_eq_true rfl) (by first | rfl | exact x_ok_q rfl) rfl ?_
    refine x_aload_n C D_X8_removePoint_0.2.2.2.2.2.2.2.2.2.2.1 rfl rfl (by first | exact Or.inr ⟨_, rfl⟩ | exact va_rf_or _ | exact Or.inl rfl) ?_
    refine x_getQ C (ci := 7) (k0 := 3) hx (by decide) rfl (by decide) in_X8 k_182 rfl rfl D_X8_removePoint_0.2.2.2.2.2.2.2.2.2.2.2 ?_
    refine x_eqr hq5 ?_
    refine x_iload_n C D_X8_removePoint_1.1 rfl rfl ?_
    refine x_callUz C (x := ⟨"ScapegoatSpur$PointTree", "holds", "(I)Z"⟩) (y := yX2_holds) (owner := "ScapegoatSpur$LazyTree") (k5_holdsY l G H5 hk) (ci := 4) kt5 (by decide) rfl k_458 k_459 k_461 k_462 k_61 k_463 rfl hu_X2_holds ⟨(Nat.le_of_ble_eq_true rfl), (Nat.le_of_ble_eq_true rfl)⟩ rfl (by first | exact Nat.le_of_ble_eq_true rfl | simp [x_crf, Value.category]) rfl rfl D_X8_removePoint_1.2.1 ⟨(Nat.le_of_ble_eq_true rfl), (Nat.le_of_ble_eq_true rfl)⟩ (fun r_21 S_21 h_21 => ?_)
    obtain ⟨rfl, hF, H5a, ht⟩ := h_21
    obtain ⟨K1, N1, I1, Q1, J1⟩ := S_21
    obtain ⟨hx1, hox1, hQ1⟩ := hF.obj (by omega) hx hox
    have hx1 : K1 x = 8 := hx1
    have hQ1 : Q1 x = Q x := hQ1
    have kt5a : K1 t5 = 5 := H5a.kc.1
    have l5a : I1 t5 3 = nI (cn pa m) := H5a.kc.2.1
    rw [hal]
    refine x_if_ne C 29 D_X8_removePoint_1.2.2.1 (by decide) (fun c_24 => ?_) (fun c_24 => ?_)
    · skip
      refine x_aload_n C D_X8_removePoint_1.2.2.2.2.2.1 rfl rfl (by first | exact Or.inr ⟨_, rfl⟩ | exact va_rf_or _ | exact Or.inl rfl) ?_
      refine x_getQ C (ci := 7) (k0 := 3) hx1 (by decide) rfl (by decide) in_X8 k_182 rfl rfl D_X8_removePoint_1.2.2.2.2.2.2.1 ?_
      refine x_eqr (show Q1 x 3 = some t5 by rw [hQ1]; exact hq5) ?_
      refine x_iload_n C D_X8_removePoint_1.2.2.2.2.2.2.2.1 rfl rfl ?_
      refine x_callUv C (x := ⟨"ScapegoatSpur$PointTree", "retire", "(I)V"⟩) (y := yX2_retire) (owner := "ScapegoatSpur$LazyTree") (k5_retireD l G H5a hk hal hcond) (ci := 4) kt5a (by decide) rfl k_464 k_465 k_466 k_208 k_61 k_209 rfl hu_X2_retire ⟨(Nat.le_of_ble_eq_true rfl), (Nat.le_of_ble_eq_true rfl)⟩ rfl (by first | exact Nat.le_of_ble_eq_true rfl | simp [x_crf, Value.category]) rfl rfl D_X8_removePoint_1.2.2.2.2.2.2.2.2.1 ⟨(Nat.le_of_ble_eq_true rfl), (Nat.le_of_ble_eq_true rfl)⟩ (fun _ S_34 h_34 => ?_)
      obtain ⟨ow2, OP, PS, hF2, hPX, H5b, q4⟩ := h_34
      obtain ⟨K2, N2, I2, Q2, J2⟩ := S_34
      refine x_iconst C (v := nI 1) D_X8_removePoint_1.2.2.2.2.2.2.2.2.2.1 (by decide +kernel) ?_
      refine ret _ _ _ _ _ _ true rfl D_X8_removePoint_1.2.2.2.2.2.2.2.2.2.2 (Nat.le_of_ble_eq_true rfl) (Nat.le_of_ble_eq_true rfl) rfl ?_
      exact ⟨rfl, ow2, OP, PS, (hF.trans hF2).fr8 (by omega), hPX, SY.a5 hX0 H1 H7 H6 hE0 hn hb (hF.trans hF2) H5b (q4.trans ((ht 4).trans e5))⟩
    · skip
      exact absurd c_24 (by decide)
      --end
  · skip
    exact absurd c_5 (by decide)
    --end
abbrev rm_X8_pointDepthR : Room := { frames := 6, cells := 1, slots := 6, locals := 90 }
set_option maxHeartbeats 4000000 in
set_option maxRecDepth 100000 in
theorem c_X8_pointDepthR (l : Launch) (G : xG) {K N : Nat → Nat} {I : Nat → Nat → Int32} {Q : Nat → Nat → Option Nat} {J : Nat → Nat → Int64} (ow : xO) (x n m : Nat) (c : Nat → Nat) (al : Nat → Bool) (sp tu pt pc ps : Nat → Nat) (pa : Nat → Bool) (r d u g w : Int32) (y z : Int32) (hlt : l.stackTraces = false) (hS : SY ow (K, N, I, Q, J) x n c al sp tu pt m pc pa ps r d u g w) (hyz : y < 0 ∨ nI 99 < y ∨ z < 0 ∨ nI 99 < z)  : XMT l yX8_pointDepth cX8_pointDepth 4 (some .int) rm_X8_pointDepthR G Ri [.ref x, .int y, .int z] (K, N, I, Q, J) (fun _ _ => False) (fun E S1 => E = eNS ∧ ∃ ow1, FR8 ow ow1 (K, N, I, Q, J) S1 ∧ SY ow1 S1 x n c al sp tu pt m pc pa ps r d u g w) := by
  refine x_metTi (lv := [_, _, _, _]) hlt rfl ⟨(Nat.le_of_ble_eq_true rfl), (Nat.le_of_ble_eq_true rfl)⟩ (by decide +kernel) (x_cc (by first | rfl | exact x_crf _) (x_cc (by first | rfl | exact x_crf _) (x_cc (by first | rfl | exact x_crf _) x_cn))) (Nat.le_of_ble_eq_true rfl) rfl ?_
  intro pP eE sS mM aA bB hH cC Z C hini ret thr
  obtain ⟨t1, t7, t6, t5, hX0, H1, H7, H6, H5, hE0, hn, hb⟩ := id hS
  obtain ⟨hx, hox, hq1, hq7, hq6, hq5⟩ := id hX0
  obtain ⟨e1, e2, e3, e4, e5⟩ := id hE0
  have hx : K x = 8 := hx
  have hq1 : Q x 0 = some t1 := hq1
  have hq7 : Q x 1 = some t7 := hq7
  have hq6 : Q x 2 = some t6 := hq6
  have hq5 : Q x 3 = some t5 := hq5
  have kt1 : K t1 = 2 := H1.kc.1
  have kt7 : K t7 = 7 := H7.kc
  have kt6 : K t6 = 6 := H6.kc
  have kt5 : K t5 = 5 := H5.kc.1
  have l1 : I t1 3 = nI (cn al n) := H1.kc.2
  have l5 : I t5 3 = nI (cn pa m) := H5.kc.2.1
  have hm120 := H5.kc.2.2
  have l6 : I t6 1 = nI n := H6.cnt.1
  have l62 : I t6 2 = nI (cn al n) := H6.cnt.2.1
  have hup := H6.cnt.2.2.1
  have hcl := cn_le al n
  have hcm := cn_le pa m
  have e1 : I t1 4 = r := e1
  have e2 : I t1 5 = d := e2
  have e3 : I t7 2 = u := e3
  have e4 : I t6 3 = g := e4
  have e5 : I t5 4 = w := e5
  refine x_iload_n C D_X8_pointDepth_0.1 rfl rfl ?_
  refine x_iload_n C D_X8_pointDepth_0.2.1 rfl rfl ?_
  refine x_callSz C (y := yX8_isPlace) (c_X8_isPlace l G (y) (z)) k_452 k_453 k_60 k_454 hd_X8_isPlace ⟨(Nat.le_of_ble_eq_true rfl), (Nat.le_of_ble_eq_true rfl)⟩ rfl (by first | exact Nat.le_of_ble_eq_true rfl | simp [x_crf, Value.category]) rfl rfl D_X8_pointDepth_0.2.2.1 ⟨(Nat.le_of_ble_eq_true rfl), (Nat.le_of_ble_eq_true rfl)⟩ (fun r_2 S_2 h_2 => ?_)
  obtain ⟨rfl, rfl⟩ := h_2
  rw [is_np hyz]
  refine x_if_eq C 23 D_X8_pointDepth_0.2.2.2.1 (by decide) (fun c_5 => ?_) (fun c_5 => ?_)
  · skip
    refine x_iconst C (v := (-1)) D_X8_pointDepth_0.2.2.2.2.2.2.2.2.2.2.2 (by decide +kernel) ?_
    refine x_istore_n C (lv' := [_, _, _, _]) D_X8_pointDepth_1.1 rfl (Nat.le_of_ble_eq_true rfl) (by first | rfl | exact x_ok_q rfl) rfl ?_
    refine x_iload_n C D_X8_pointDepth_1.2.1 rfl rfl ?_
    refine x_iconst C (v := (-1)) D_X8_pointDepth_1.2.2.1 (by decide +kernel) ?_
    refine x_icmp_ne C 40 D_X8_pointDepth_1.2.2.2.1 (by decide) (fun c_27 => ?_) (fun c_27 => ?_)
    · skip
      exact absurd rfl c_27
      --end
    · skip
      refine thr _ _ _ _ _ _ _ 181 _ _ "no node has this point" thr_NS (by decide +kernel) D_X8_pointDepth_1.2.2.2.2.1 D_X8_pointDepth_1.2.2.2.2.2.1 D_X8_pointDepth_1.2.2.2.2.2.2.1 D_X8_pointDepth_1.2.2.2.2.2.2.2.1 D_X8_pointDepth_1.2.2.2.2.2.2.2.2.1 (by first | exact Nat.le_of_ble_eq_true rfl | simp [x_crf, Value.category]) rfl (Nat.le_of_ble_eq_true rfl) (Nat.le_of_ble_eq_true rfl) ?_
      exact ⟨rfl, ow, FR8.refl _ _, hS⟩
  · skip
    exact absurd rfl c_5
    --end
abbrev rm_X8_pointDepthN : Room := { frames := 6, cells := 1, slots := 6, locals := 90 }
set_option maxHeartbeats 4000000 in
set_option maxRecDepth 100000 in
theorem c_X8_pointDepthN (l : Launch) (G : xG) {K N : Nat → Nat} {I : Nat → Nat → Int32} {Q : Nat → Nat → Option Nat} {J : Nat → Nat → Int64} (ow : xO) (x n m : Nat) (c : Nat → Nat) (al : Nat → Bool) (sp tu pt pc ps : Nat → Nat) (pa : Nat → Bool) (r d u g w : Int32) (cc : Nat) (hlt : l.stackTraces = false) (hS : SY ow (K, N, I, Q, J) x n c al sp tu pt m pc pa ps r d u g w) (hcc : cc < 10000) (hnew : ∀ i, i < m → pc i ≠ cc)  : XMT l yX8_pointDepth cX8_pointDepth 4 (some .int) rm_X8_pointDepthN G Ri [.ref x, .int (nI (cc / 100)), .int (nI (cc % 100))] (K, N, I, Q, J) (fun _ _ => False) (fun E S1 => E = eNS ∧ ∃ ow1, FR8 ow ow1 (K, N, I, Q, J) S1 ∧ SY ow1 S1 x n c al sp tu pt m pc pa ps r d u g w) := by
  refine x_metTi (lv := [_, _, _, _]) hlt rfl ⟨(Nat.le_of_ble_eq_true rfl), (Nat.le_of_ble_eq_true rfl)⟩ (by decide +kernel) (x_cc (by first | rfl | exact x_crf _) (x_cc (by first | rfl | exact x_crf _) (x_cc (by first | rfl | exact x_crf _) x_cn))) (Nat.le_of_ble_eq_true rfl) rfl ?_
  intro pP eE sS mM aA bB hH cC Z C hini ret thr
  obtain ⟨t1, t7, t6, t5, hX0, H1, H7, H6, H5, hE0, hn, hb⟩ := id hS
  obtain ⟨hx, hox, hq1, hq7, hq6, hq5⟩ := id hX0
  obtain ⟨e1, e2, e3, e4, e5⟩ := id hE0
  have hx : K x = 8 := hx
  have hq1 : Q x 0 = some t1 := hq1
  have hq7 : Q x 1 = some t7 := hq7
  have hq6 : Q x 2 = some t6 := hq6
  have hq5 : Q x 3 = some t5 := hq5
  have kt1 : K t1 = 2 := H1.kc.1
  have kt7 : K t7 = 7 := H7.kc
  have kt6 : K t6 = 6 := H6.kc
  have kt5 : K t5 = 5 := H5.kc.1
  have l1 : I t1 3 = nI (cn al n) := H1.kc.2
  have l5 : I t5 3 = nI (cn pa m) := H5.kc.2.1
  have hm120 := H5.kc.2.2
  have l6 : I t6 1 = nI n := H6.cnt.1
  have l62 : I t6 2 = nI (cn al n) := H6.cnt.2.1
  have hup := H6.cnt.2.2.1
  have hcl := cn_le al n
  have hcm := cn_le pa m
  have e1 : I t1 4 = r := e1
  have e2 : I t1 5 = d := e2
  have e3 : I t7 2 = u := e3
  have e4 : I t6 3 = g := e4
  have e5 : I t5 4 = w := e5
  refine x_iload_n C D_X8_pointDepth_0.1 rfl rfl ?_
  refine x_iload_n C D_X8_pointDepth_0.2.1 rfl rfl ?_
  refine x_callSz C (y := yX8_isPlace) (c_X8_isPlace l G (nI (cc / 100)) (nI (cc % 100))) k_452 k_453 k_60 k_454 hd_X8_isPlace ⟨(Nat.le_of_ble_eq_true rfl), (Nat.le_of_ble_eq_true rfl)⟩ rfl (by first | exact Nat.le_of_ble_eq_true rfl | simp [x_crf, Value.category]) rfl rfl D_X8_pointDepth_0.2.2.1 ⟨(Nat.le_of_ble_eq_true rfl), (Nat.le_of_ble_eq_true rfl)⟩ (fun r_2 S_2 h_2 => ?_)
  obtain ⟨rfl, rfl⟩ := h_2
  rw [is_pl (show cc / 100 < 100 by omega) (show cc % 100 < 100 by omega)]
  refine x_if_eq C 23 D_X8_pointDepth_0.2.2.2.1 (by decide) (fun c_5 => ?_) (fun c_5 => ?_)
  · skip
    exact absurd c_5 (by decide)
    --end
  · skip
    refine x_aload_n C D_X8_pointDepth_0.2.2.2.2.1 rfl rfl (by first | exact Or.inr ⟨_, rfl⟩ | exact va_rf_or _ | exact Or.inl rfl) ?_
    refine x_getQ C (ci := 7) (k0 := 3) hx (by decide) rfl (by decide) in_X8 k_182 rfl rfl D_X8_pointDepth_0.2.2.2.2.2.1 ?_
    refine x_eqr hq5 ?_
    refine x_iload_n C D_X8_pointDepth_0.2.2.2.2.2.2.1 rfl rfl ?_
    refine x_iload_n C D_X8_pointDepth_0.2.2.2.2.2.2.2.1 rfl rfl ?_
    refine x_callSi C (y := yX5_keyOf) (c_X5_keyOf l G (cc)) k_455 k_456 k_66 k_457 hd_X5_keyOf ⟨(Nat.le_of_ble_eq_true rfl), (Nat.le_of_ble_eq_true rfl)⟩ rfl (by first | exact Nat.le_of_ble_eq_true rfl | simp [x_crf, Value.category]) rfl rfl D_X8_pointDepth_0.2.2.2.2.2.2.2.2.1 ⟨(Nat.le_of_ble_eq_true rfl), (Nat.le_of_ble_eq_true rfl)⟩ (fun r_14 S_14 h_14 => ?_)
    obtain ⟨rfl, rfl⟩ := h_14
    refine x_callUi C (x := ⟨"ScapegoatSpur$PointTree", "depthOf", "(I)I"⟩) (y := yX2_depthOf) (owner := "ScapegoatSpur$LazyTree") (k5_depthN l G H5 hcc hnew) (ci := 4) kt5 (by decide) rfl k_850 k_851 k_852 k_752 k_61 k_753 rfl hu_X2_depthOf ⟨(Nat.le_of_ble_eq_true rfl), (Nat.le_of_ble_eq_true rfl)⟩ rfl (by first | exact Nat.le_of_ble_eq_true rfl | simp [x_crf, Value.category]) rfl rfl D_X8_pointDepth_0.2.2.2.2.2.2.2.2.2.1 ⟨(Nat.le_of_ble_eq_true rfl), (Nat.le_of_ble_eq_true rfl)⟩ (fun r_17 S_17 h_17 => ?_)
    obtain ⟨rfl, hF, H5a, ht⟩ := h_17
    obtain ⟨K1, N1, I1, Q1, J1⟩ := S_17
    refine x_goto C 24 D_X8_pointDepth_0.2.2.2.2.2.2.2.2.2.2.1 (by decide) ?_
    refine x_istore_n C (lv' := [_, _, _, _]) D_X8_pointDepth_1.1 rfl (Nat.le_of_ble_eq_true rfl) (by first | rfl | exact x_ok_q rfl) rfl ?_
    refine x_iload_n C D_X8_pointDepth_1.2.1 rfl rfl ?_
    refine x_iconst C (v := (-1)) D_X8_pointDepth_1.2.2.1 (by decide +kernel) ?_
    refine x_icmp_ne C 40 D_X8_pointDepth_1.2.2.2.1 (by decide) (fun c_27 => ?_) (fun c_27 => ?_)
    · skip
      exact absurd rfl c_27
      --end
    · skip
      refine thr _ _ _ _ _ _ _ 181 _ _ "no node has this point" thr_NS (by decide +kernel) D_X8_pointDepth_1.2.2.2.2.1 D_X8_pointDepth_1.2.2.2.2.2.1 D_X8_pointDepth_1.2.2.2.2.2.2.1 D_X8_pointDepth_1.2.2.2.2.2.2.2.1 D_X8_pointDepth_1.2.2.2.2.2.2.2.2.1 (by first | exact Nat.le_of_ble_eq_true rfl | simp [x_crf, Value.category]) rfl (Nat.le_of_ble_eq_true rfl) (Nat.le_of_ble_eq_true rfl) ?_
      exact ⟨rfl, ow, hF.fr8 (by omega), SY.a5 hX0 H1 H7 H6 hE0 hn hb hF H5a ((ht 4).trans e5)⟩
abbrev rm_X8_pointDepthY : Room := { frames := 6, cells := 1, slots := 6, locals := 90 }
set_option maxHeartbeats 4000000 in
set_option maxRecDepth 100000 in
theorem c_X8_pointDepthY (l : Launch) (G : xG) {K N : Nat → Nat} {I : Nat → Nat → Int32} {Q : Nat → Nat → Option Nat} {J : Nat → Nat → Int64} (ow : xO) (x n m : Nat) (c : Nat → Nat) (al : Nat → Bool) (sp tu pt pc ps : Nat → Nat) (pa : Nat → Bool) (r d u g w : Int32) (k : Nat) (hlt : l.stackTraces = false) (hS : SY ow (K, N, I, Q, J) x n c al sp tu pt m pc pa ps r d u g w) (hk : k < m)  : XMT l yX8_pointDepth cX8_pointDepth 4 (some .int) rm_X8_pointDepthY G Ri [.ref x, .int (nI (pc k / 100)), .int (nI (pc k % 100))] (K, N, I, Q, J) (fun r_ S1 => r_ = nI (dep (ps k)) ∧ ∃ ow1, FR8 ow ow1 (K, N, I, Q, J) S1 ∧ SY ow1 S1 x n c al sp tu pt m pc pa ps r d u g w) (fun _ _ => False) := by
  refine x_metTi (lv := [_, _, _, _]) hlt rfl ⟨(Nat.le_of_ble_eq_true rfl), (Nat.le_of_ble_eq_true rfl)⟩ (by decide +kernel) (x_cc (by first | rfl | exact x_crf _) (x_cc (by first | rfl | exact x_crf _) (x_cc (by first | rfl | exact x_crf _) x_cn))) (Nat.le_of_ble_eq_true rfl) rfl ?_
  intro pP eE sS mM aA bB hH cC Z C hini ret thr
  obtain ⟨t1, t7, t6, t5, hX0, H1, H7, H6, H5, hE0, hn, hb⟩ := id hS
  obtain ⟨hx, hox, hq1, hq7, hq6, hq5⟩ := id hX0
  obtain ⟨e1, e2, e3, e4, e5⟩ := id hE0
  have hx : K x = 8 := hx
  have hq1 : Q x 0 = some t1 := hq1
  have hq7 : Q x 1 = some t7 := hq7
  have hq6 : Q x 2 = some t6 := hq6
  have hq5 : Q x 3 = some t5 := hq5
  have kt1 : K t1 = 2 := H1.kc.1
  have kt7 : K t7 = 7 := H7.kc
  have kt6 : K t6 = 6 := H6.kc
  have kt5 : K t5 = 5 := H5.kc.1
  have l1 : I t1 3 = nI (cn al n) := H1.kc.2
  have l5 : I t5 3 = nI (cn pa m) := H5.kc.2.1
  have hm120 := H5.kc.2.2
  have l6 : I t6 1 = nI n := H6.cnt.1
  have l62 : I t6 2 = nI (cn al n) := H6.cnt.2.1
  have hup := H6.cnt.2.2.1
  have hcl := cn_le al n
  have hcm := cn_le pa m
  have e1 : I t1 4 = r := e1
  have e2 : I t1 5 = d := e2
  have e3 : I t7 2 = u := e3
  have e4 : I t6 3 = g := e4
  have e5 : I t5 4 = w := e5
  have hpk := (H5.bd k hk).1
  refine x_iload_n C D_X8_pointDepth_0.1 rfl rfl ?_
  refine x_iload_n C D_X8_pointDepth_0.2.1 rfl rfl ?_
  refine x_callSz C (y := yX8_isPlace) (c_X8_isPlace l G (nI (pc k / 100)) (nI (pc k % 100))) k_452 k_453 k_60 k_454 hd_X8_isPlace ⟨(Nat.le_of_ble_eq_true rfl), (Nat.le_of_ble_eq_true rfl)⟩ rfl (by first | exact Nat.le_of_ble_eq_true rfl | simp [x_crf, Value.category]) rfl rfl D_X8_pointDepth_0.2.2.1 ⟨(Nat.le_of_ble_eq_true rfl), (Nat.le_of_ble_eq_true rfl)⟩ (fun r_2 S_2 h_2 => ?_)
  obtain ⟨rfl, rfl⟩ := h_2
  rw [is_pl (show pc k / 100 < 100 by omega) (show pc k % 100 < 100 by omega)]
  refine x_if_eq C 23 D_X8_pointDepth_0.2.2.2.1 (by decide) (fun c_5 => ?_) (fun c_5 => ?_)
  · skip
    exact absurd c_5 (by decide)
    --end
  · skip
    refine x_aload_n C D_X8_pointDepth_0.2.2.2.2.1 rfl rfl (by first | exact Or.inr ⟨_, rfl⟩ | exact va_rf_or _ | exact Or.inl rfl) ?_
    refine x_getQ C (ci := 7) (k0 := 3) hx (by decide) rfl (by decide) in_X8 k_182 rfl rfl D_X8_pointDepth_0.2.2.2.2.2.1 ?_
    refine x_eqr hq5 ?_
    refine x_iload_n C D_X8_pointDepth_0.2.2.2.2.2.2.1 rfl rfl ?_
    refine x_iload_n C D_X8_pointDepth_0.2.2.2.2.2.2.2.1 rfl rfl ?_
    refine x_callSi C (y := yX5_keyOf) (c_X5_keyOf l G (pc k)) k_455 k_456 k_66 k_457 hd_X5_keyOf ⟨(Nat.le_of_ble_eq_true rfl), (Nat.le_of_ble_eq_true rfl)⟩ rfl (by first | exact Nat.le_of_ble_eq_true rfl | simp [x_crf, Value.category]) rfl rfl D_X8_pointDepth_0.2.2.2.2.2.2.2.2.1 ⟨(Nat.le_of_ble_eq_true rfl), (Nat.le_of_ble_eq_true rfl)⟩ (fun r_14 S_14 h_14 => ?_)
    obtain ⟨rfl, rfl⟩ := h_14
    refine x_callUi C (x := ⟨"ScapegoatSpur$PointTree", "depthOf", "(I)I"⟩) (y := yX2_depthOf) (owner := "ScapegoatSpur$LazyTree") (k5_depthY l G H5 hk) (ci := 4) kt5 (by decide) rfl k_850 k_851 k_852 k_752 k_61 k_753 rfl hu_X2_depthOf ⟨(Nat.le_of_ble_eq_true rfl), (Nat.le_of_ble_eq_true rfl)⟩ rfl (by first | exact Nat.le_of_ble_eq_true rfl | simp [x_crf, Value.category]) rfl rfl D_X8_pointDepth_0.2.2.2.2.2.2.2.2.2.1 ⟨(Nat.le_of_ble_eq_true rfl), (Nat.le_of_ble_eq_true rfl)⟩ (fun r_17 S_17 h_17 => ?_)
    obtain ⟨rfl, hF, H5a, ht⟩ := h_17
    obtain ⟨K1, N1, I1, Q1, J1⟩ := S_17
    refine x_goto C 24 D_X8_pointDepth_0.2.2.2.2.2.2.2.2.2.2.1 (by decide) ?_
    refine x_istore_n C (lv' := [_, _, _, _]) D_X8_pointDepth_1.1 rfl (Nat.le_of_ble_eq_true rfl) (by first | rfl | exact x_ok_q rfl) rfl ?_
    refine x_iload_n C D_X8_pointDepth_1.2.1 rfl rfl ?_
    refine x_iconst C (v := (-1)) D_X8_pointDepth_1.2.2.1 (by decide +kernel) ?_
    refine x_icmp_ne C 40 D_X8_pointDepth_1.2.2.2.1 (by decide) (fun c_27 => ?_) (fun c_27 => ?_)
    · skip
      refine x_iload_n C D_X8_pointDepth_1.2.2.2.2.2.2.2.2.2.1 rfl rfl ?_
      refine ret _ _ _ _ _ _ rfl D_X8_pointDepth_1.2.2.2.2.2.2.2.2.2.2 (Nat.le_of_ble_eq_true rfl) (Nat.le_of_ble_eq_true rfl) ?_
      exact ⟨rfl, ow, hF.fr8 (by omega), SY.a5 hX0 H1 H7 H6 hE0 hn hb hF H5a ((ht 4).trans e5)⟩
    · skip
      exact absurd c_27 (ni_m1 (dep_b (H5.bd k hk).2.2))
      --end
abbrev rm_X8_countInX : Room := { frames := 6, cells := 1, slots := 6, locals := 90 }
set_option maxHeartbeats 4000000 in
set_option maxRecDepth 100000 in
theorem c_X8_countInX (l : Launch) (G : xG) {K N : Nat → Nat} {I : Nat → Nat → Int32} {Q : Nat → Nat → Option Nat} {J : Nat → Nat → Int64} (ow : xO) (x n m : Nat) (c : Nat → Nat) (al : Nat → Bool) (sp tu pt pc ps : Nat → Nat) (pa : Nat → Bool) (r d u g w : Int32) (a b e f : Int32) (hlt : l.stackTraces = false) (hS : SY ow (K, N, I, Q, J) x n c al sp tu pt m pc pa ps r d u g w) (hx9 : a < 0 ∨ e < a ∨ nI 99 < e ∨ b < 0 ∨ f < b ∨ nI 99 < f)  : XMT l yX8_countIn cX8_countIn 5 (some .int) rm_X8_countInX G Ri [.ref x, .int a, .int b, .int e, .int f] (K, N, I, Q, J) (fun _ _ => False) (fun E S1 => E = eIA ∧ ∃ ow1, FR8 ow ow1 (K, N, I, Q, J) S1 ∧ SY ow1 S1 x n c al sp tu pt m pc pa ps r d u g w) := by
  refine x_metTi (lv := [_, _, _, _, _]) hlt rfl ⟨(Nat.le_of_ble_eq_true rfl), (Nat.le_of_ble_eq_true rfl)⟩ (by decide +kernel) (x_cc (by first | rfl | exact x_crf _) (x_cc (by first | rfl | exact x_crf _) (x_cc (by first | rfl | exact x_crf _) (x_cc (by first | rfl | exact x_crf _) (x_cc (by first | rfl | exact x_crf _) x_cn))))) (Nat.le_of_ble_eq_true rfl) rfl ?_
  intro pP eE sS mM aA bB hH cC Z C hini ret thr
  obtain ⟨t1, t7, t6, t5, hX0, H1, H7, H6, H5, hE0, hn, hb⟩ := id hS
  obtain ⟨hx, hox, hq1, hq7, hq6, hq5⟩ := id hX0
  obtain ⟨e1, e2, e3, e4, e5⟩ := id hE0
  have hx : K x = 8 := hx
  have hq1 : Q x 0 = some t1 := hq1
  have hq7 : Q x 1 = some t7 := hq7
  have hq6 : Q x 2 = some t6 := hq6
  have hq5 : Q x 3 = some t5 := hq5
  have kt1 : K t1 = 2 := H1.kc.1
  have kt7 : K t7 = 7 := H7.kc
  have kt6 : K t6 = 6 := H6.kc
  have kt5 : K t5 = 5 := H5.kc.1
  have l1 : I t1 3 = nI (cn al n) := H1.kc.2
  have l5 : I t5 3 = nI (cn pa m) := H5.kc.2.1
  have hm120 := H5.kc.2.2
  have l6 : I t6 1 = nI n := H6.cnt.1
  have l62 : I t6 2 = nI (cn al n) := H6.cnt.2.1
  have hup := H6.cnt.2.2.1
  have hcl := cn_le al n
  have hcm := cn_le pa m
  have e1 : I t1 4 = r := e1
  have e2 : I t1 5 = d := e2
  have e3 : I t7 2 = u := e3
  have e4 : I t6 3 = g := e4
  have e5 : I t5 4 = w := e5
  refine x_iload_n C D_X8_countIn_0.1 rfl rfl ?_
  refine x_iload_n C D_X8_countIn_0.2.1 rfl rfl ?_
  refine x_callSz C (y := yX8_isPlace) (c_X8_isPlace l G a b) k_452 k_453 k_60 k_454 hd_X8_isPlace ⟨(Nat.le_of_ble_eq_true rfl), (Nat.le_of_ble_eq_true rfl)⟩ rfl (by first | exact Nat.le_of_ble_eq_true rfl | simp [x_crf, Value.category]) rfl rfl D_X8_countIn_0.2.2.1 ⟨(Nat.le_of_ble_eq_true rfl), (Nat.le_of_ble_eq_true rfl)⟩ (fun r_2 S_2 h_2 => ?_)
  obtain ⟨rfl, rfl⟩ := h_2
  refine x_if_eq C 28 D_X8_countIn_0.2.2.2.1 (by decide) (fun c_5 => ?_) (fun c_5 => ?_)
  · skip
    refine thr _ _ _ _ _ _ _ 184 _ _ "an edge of the box is out of range" thr_IA (by decide +kernel) D_X8_countIn_1.2.2.1 D_X8_countIn_1.2.2.2.1 D_X8_countIn_1.2.2.2.2.1 D_X8_countIn_1.2.2.2.2.2.1 D_X8_countIn_1.2.2.2.2.2.2.1 (by first | exact Nat.le_of_ble_eq_true rfl | simp [x_crf, Value.category]) rfl (Nat.le_of_ble_eq_true rfl) (Nat.le_of_ble_eq_true rfl) ?_
    exact ⟨rfl, ow, FR8.refl _ _, hS⟩
  · skip
    refine x_iload_n C D_X8_countIn_0.2.2.2.2.1 rfl rfl ?_
    refine x_iload C D_X8_countIn_0.2.2.2.2.2.1 rfl ?_
    refine x_callSz C (y := yX8_isPlace) (c_X8_isPlace l G e f) k_452 k_453 k_60 k_454 hd_X8_isPlace ⟨(Nat.le_of_ble_eq_true rfl), (Nat.le_of_ble_eq_true rfl)⟩ rfl (by first | exact Nat.le_of_ble_eq_true rfl | simp [x_crf, Value.category]) rfl rfl D_X8_countIn_0.2.2.2.2.2.2.1 ⟨(Nat.le_of_ble_eq_true rfl), (Nat.le_of_ble_eq_true rfl)⟩ (fun r_11 S_11 h_11 => ?_)
    obtain ⟨rfl, rfl⟩ := h_11
    refine x_if_eq C 28 D_X8_countIn_0.2.2.2.2.2.2.2.1 (by decide) (fun c_14 => ?_) (fun c_14 => ?_)
    · skip
      refine thr _ _ _ _ _ _ _ 184 _ _ "an edge of the box is out of range" thr_IA (by decide +kernel) D_X8_countIn_1.2.2.1 D_X8_countIn_1.2.2.2.1 D_X8_countIn_1.2.2.2.2.1 D_X8_countIn_1.2.2.2.2.2.1 D_X8_countIn_1.2.2.2.2.2.2.1 (by first | exact Nat.le_of_ble_eq_true rfl | simp [x_crf, Value.category]) rfl (Nat.le_of_ble_eq_true rfl) (Nat.le_of_ble_eq_true rfl) ?_
      exact ⟨rfl, ow, FR8.refl _ _, hS⟩
    · skip
      refine x_iload_n C D_X8_countIn_0.2.2.2.2.2.2.2.2.1 rfl rfl ?_
      refine x_iload_n C D_X8_countIn_0.2.2.2.2.2.2.2.2.2.1 rfl rfl ?_
      refine x_icmp_lt C 28 D_X8_countIn_0.2.2.2.2.2.2.2.2.2.2.1 (by decide) (fun c_19 => ?_) (fun c_19 => ?_)
      · skip
        refine thr _ _ _ _ _ _ _ 184 _ _ "an edge of the box is out of range" thr_IA (by decide +kernel) D_X8_countIn_1.2.2.1 D_X8_countIn_1.2.2.2.1 D_X8_countIn_1.2.2.2.2.1 D_X8_countIn_1.2.2.2.2.2.1 D_X8_countIn_1.2.2.2.2.2.2.1 (by first | exact Nat.le_of_ble_eq_true rfl | simp [x_crf, Value.category]) rfl (Nat.le_of_ble_eq_true rfl) (Nat.le_of_ble_eq_true rfl) ?_
        exact ⟨rfl, ow, FR8.refl _ _, hS⟩
      · skip
        refine x_iload C D_X8_countIn_0.2.2.2.2.2.2.2.2.2.2.2 rfl ?_
        refine x_iload_n C D_X8_countIn_1.1 rfl rfl ?_
        refine x_icmp_ge C 38 D_X8_countIn_1.2.1 (by decide) (fun c_25 => ?_) (fun c_25 => ?_)
        · skip
          exfalso
          have p1 := of_decide_eq_true (cb_ne c_5)
          have p2 := of_decide_eq_true (cb_ne c_14)
          simp only [not_or] at p1 p2
          rw [i32_lt] at c_19
          rw [i32_le] at c_25
          rcases hx9 with h | h | h | h | h | h
          · exact p1.1 h
          · rw [i32_lt] at h; omega
          · exact p2.2.1 h
          · exact p1.2.2.1 h
          · rw [i32_lt] at h; omega
          · exact p2.2.2.2 h
          --end
        · skip
          refine thr _ _ _ _ _ _ _ 184 _ _ "an edge of the box is out of range" thr_IA (by decide +kernel) D_X8_countIn_1.2.2.1 D_X8_countIn_1.2.2.2.1 D_X8_countIn_1.2.2.2.2.1 D_X8_countIn_1.2.2.2.2.2.1 D_X8_countIn_1.2.2.2.2.2.2.1 (by first | exact Nat.le_of_ble_eq_true rfl | simp [x_crf, Value.category]) rfl (Nat.le_of_ble_eq_true rfl) (Nat.le_of_ble_eq_true rfl) ?_
          exact ⟨rfl, ow, FR8.refl _ _, hS⟩
abbrev rm_X8_countInY : Room := { frames := 46, cells := 1, slots := 6, locals := 1076 }
theorem hd_X5_livingInBox : yX5_livingInBox.cls ≠ "java/lang/invoke/MethodHandle" ∧ yX5_livingInBox.cls ≠ "java/lang/invoke/VarHandle" ∧ (parseMethodDescriptor yX5_livingInBox.desc).map (fun d => d.parameters.length) = some 4 := by decide +kernel
set_option maxHeartbeats 4000000 in
set_option maxRecDepth 100000 in
theorem c_X8_countInY (l : Launch) (G : xG) {K N : Nat → Nat} {I : Nat → Nat → Int32} {Q : Nat → Nat → Option Nat} {J : Nat → Nat → Int64} (ow : xO) (x n m : Nat) (c : Nat → Nat) (al : Nat → Bool) (sp tu pt pc ps : Nat → Nat) (pa : Nat → Bool) (r d u g w : Int32) (a b e f : Nat) (hlt : l.stackTraces = false) (hS : SY ow (K, N, I, Q, J) x n c al sp tu pt m pc pa ps r d u g w) (hac : a ≤ e) (hc9 : e ≤ 99) (hbd : b ≤ f) (hd9 : f ≤ 99)  : XMT l yX8_countIn cX8_countIn 5 (some .int) rm_X8_countInY G Ri [.ref x, .int (nI a), .int (nI b), .int (nI e), .int (nI f)] (K, N, I, Q, J) (fun r_ S1 => r_ = nI (cn (fun i => pa i && decide (a ≤ pc i / 100) && decide (pc i / 100 ≤ e) && decide (b ≤ pc i % 100) && decide (pc i % 100 ≤ f)) m) ∧ ∃ ow1, FR8 ow ow1 (K, N, I, Q, J) S1 ∧ SY ow1 S1 x n c al sp tu pt m pc pa ps r d u g w) (fun _ _ => False) := by
  refine x_metTi (lv := [_, _, _, _, _]) hlt rfl ⟨(Nat.le_of_ble_eq_true rfl), (Nat.le_of_ble_eq_true rfl)⟩ (by decide +kernel) (x_cc (by first | rfl | exact x_crf _) (x_cc (by first | rfl | exact x_crf _) (x_cc (by first | rfl | exact x_crf _) (x_cc (by first | rfl | exact x_crf _) (x_cc (by first | rfl | exact x_crf _) x_cn))))) (Nat.le_of_ble_eq_true rfl) rfl ?_
  intro pP eE sS mM aA bB hH cC Z C hini ret thr
  obtain ⟨t1, t7, t6, t5, hX0, H1, H7, H6, H5, hE0, hn, hb⟩ := id hS
  obtain ⟨hx, hox, hq1, hq7, hq6, hq5⟩ := id hX0
  obtain ⟨e1, e2, e3, e4, e5⟩ := id hE0
  have hx : K x = 8 := hx
  have hq1 : Q x 0 = some t1 := hq1
  have hq7 : Q x 1 = some t7 := hq7
  have hq6 : Q x 2 = some t6 := hq6
  have hq5 : Q x 3 = some t5 := hq5
  have kt1 : K t1 = 2 := H1.kc.1
  have kt7 : K t7 = 7 := H7.kc
  have kt6 : K t6 = 6 := H6.kc
  have kt5 : K t5 = 5 := H5.kc.1
  have l1 : I t1 3 = nI (cn al n) := H1.kc.2
  have l5 : I t5 3 = nI (cn pa m) := H5.kc.2.1
  have hm120 := H5.kc.2.2
  have l6 : I t6 1 = nI n := H6.cnt.1
  have l62 : I t6 2 = nI (cn al n) := H6.cnt.2.1
  have hup := H6.cnt.2.2.1
  have hcl := cn_le al n
  have hcm := cn_le pa m
  have e1 : I t1 4 = r := e1
  have e2 : I t1 5 = d := e2
  have e3 : I t7 2 = u := e3
  have e4 : I t6 3 = g := e4
  have e5 : I t5 4 = w := e5
  refine x_iload_n C D_X8_countIn_0.1 rfl rfl ?_
  refine x_iload_n C D_X8_countIn_0.2.1 rfl rfl ?_
  refine x_callSz C (y := yX8_isPlace) (c_X8_isPlace l G (nI a) (nI b)) k_452 k_453 k_60 k_454 hd_X8_isPlace ⟨(Nat.le_of_ble_eq_true rfl), (Nat.le_of_ble_eq_true rfl)⟩ rfl (by first | exact Nat.le_of_ble_eq_true rfl | simp [x_crf, Value.category]) rfl rfl D_X8_countIn_0.2.2.1 ⟨(Nat.le_of_ble_eq_true rfl), (Nat.le_of_ble_eq_true rfl)⟩ (fun r_2 S_2 h_2 => ?_)
  obtain ⟨rfl, rfl⟩ := h_2
  rw [is_pl (show a < 100 by omega) (show b < 100 by omega)]
  refine x_if_eq C 28 D_X8_countIn_0.2.2.2.1 (by decide) (fun c_5 => ?_) (fun c_5 => ?_)
  · skip
    exact absurd c_5 (by decide)
    --end
  · skip
    refine x_iload_n C D_X8_countIn_0.2.2.2.2.1 rfl rfl ?_
    refine x_iload C D_X8_countIn_0.2.2.2.2.2.1 rfl ?_
    refine x_callSz C (y := yX8_isPlace) (c_X8_isPlace l G (nI e) (nI f)) k_452 k_453 k_60 k_454 hd_X8_isPlace ⟨(Nat.le_of_ble_eq_true rfl), (Nat.le_of_ble_eq_true rfl)⟩ rfl (by first | exact Nat.le_of_ble_eq_true rfl | simp [x_crf, Value.category]) rfl rfl D_X8_countIn_0.2.2.2.2.2.2.1 ⟨(Nat.le_of_ble_eq_true rfl), (Nat.le_of_ble_eq_true rfl)⟩ (fun r_11 S_11 h_11 => ?_)
    obtain ⟨rfl, rfl⟩ := h_11
    rw [is_pl (show e < 100 by omega) (show f < 100 by omega)]
    refine x_if_eq C 28 D_X8_countIn_0.2.2.2.2.2.2.2.1 (by decide) (fun c_14 => ?_) (fun c_14 => ?_)
    · skip
      exact absurd c_14 (by decide)
      --end
    · skip
      refine x_iload_n C D_X8_countIn_0.2.2.2.2.2.2.2.2.1 rfl rfl ?_
      refine x_iload_n C D_X8_countIn_0.2.2.2.2.2.2.2.2.2.1 rfl rfl ?_
      refine x_icmp_lt C 28 D_X8_countIn_0.2.2.2.2.2.2.2.2.2.2.1 (by decide) (fun c_19 => ?_) (fun c_19 => ?_)
      · skip
        first
        | have d_19 := cv_lt c_19 (by omega) (by omega)
        | skip
        exfalso; omega
        --end
      · skip
        first
        | have d_19 := cv_nlt c_19 (by omega) (by omega)
        | skip
        refine x_iload C D_X8_countIn_0.2.2.2.2.2.2.2.2.2.2.2 rfl ?_
        refine x_iload_n C D_X8_countIn_1.1 rfl rfl ?_
        refine x_icmp_ge C 38 D_X8_countIn_1.2.1 (by decide) (fun c_25 => ?_) (fun c_25 => ?_)
        · skip
          first
          | have d_25 := cv_le c_25 (by omega) (by omega)
          | skip
          refine x_aload_n C D_X8_countIn_1.2.2.2.2.2.2.2.1 rfl rfl (by first | exact Or.inr ⟨_, rfl⟩ | exact va_rf_or _ | exact Or.inl rfl) ?_
          refine x_getQ C (ci := 7) (k0 := 3) hx (by decide) rfl (by decide) in_X8 k_182 rfl rfl D_X8_countIn_1.2.2.2.2.2.2.2.2.1 ?_
          refine x_eqr hq5 ?_
          refine x_iload_n C D_X8_countIn_1.2.2.2.2.2.2.2.2.2.1 rfl rfl ?_
          refine x_iload_n C D_X8_countIn_1.2.2.2.2.2.2.2.2.2.2.1 rfl rfl ?_
          refine x_iload_n C D_X8_countIn_1.2.2.2.2.2.2.2.2.2.2.2 rfl rfl ?_
          refine x_iload C D_X8_countIn_2.1 rfl ?_
          refine x_callVi C (y := yX5_livingInBox) (k5_box l G H5 (a := a) (b := b) (c := e) (d := f) (by omega) (by omega) (by omega) (by omega)) (ci := 4) kt5 (by decide) rfl rfl k_862 k_863 k_864 k_66 k_865 hd_X5_livingInBox ⟨(Nat.le_of_ble_eq_true rfl), (Nat.le_of_ble_eq_true rfl)⟩ rfl (by first | exact Nat.le_of_ble_eq_true rfl | simp [x_crf, Value.category]) rfl rfl D_X8_countIn_2.2.1 ⟨(Nat.le_of_ble_eq_true rfl), (Nat.le_of_ble_eq_true rfl)⟩ (fun r_47 S_47 h_47 => ?_)
          obtain ⟨rfl, hF, H5a, ht⟩ := h_47
          obtain ⟨K1, N1, I1, Q1, J1⟩ := S_47
          refine ret _ _ _ _ _ _ rfl D_X8_countIn_2.2.2 (Nat.le_of_ble_eq_true rfl) (Nat.le_of_ble_eq_true rfl) ?_
          exact ⟨rfl, ow, hF.fr8 (by omega), SY.a5 hX0 H1 H7 H6 hE0 hn hb hF H5a ((ht 4).trans e5)⟩
        · skip
          first
          | have d_25 := cv_nle c_25 (by omega) (by omega)
          | skip
          exfalso; omega
          --end
abbrev rm_X8_nearestX : Room := { frames := 6, cells := 1, slots := 6, locals := 90 }
set_option maxHeartbeats 4000000 in
set_option maxRecDepth 100000 in
theorem c_X8_nearestX (l : Launch) (G : xG) {K N : Nat → Nat} {I : Nat → Nat → Int32} {Q : Nat → Nat → Option Nat} {J : Nat → Nat → Int64} (ow : xO) (x n m : Nat) (c : Nat → Nat) (al : Nat → Bool) (sp tu pt pc ps : Nat → Nat) (pa : Nat → Bool) (r d u g w : Int32) (y z : Int32) (hlt : l.stackTraces = false) (hS : SY ow (K, N, I, Q, J) x n c al sp tu pt m pc pa ps r d u g w) (hyz : y < 0 ∨ nI 99 < y ∨ z < 0 ∨ nI 99 < z)  : XMT l yX8_nearest cX8_nearest 4 (some .int) rm_X8_nearestX G Ri [.ref x, .int y, .int z] (K, N, I, Q, J) (fun _ _ => False) (fun E S1 => E = eIA ∧ ∃ ow1, FR8 ow ow1 (K, N, I, Q, J) S1 ∧ SY ow1 S1 x n c al sp tu pt m pc pa ps r d u g w) := by
  refine x_metTi (lv := [_, _, _, _]) hlt rfl ⟨(Nat.le_of_ble_eq_true rfl), (Nat.le_of_ble_eq_true rfl)⟩ (by decide +kernel) (x_cc (by first | rfl | exact x_crf _) (x_cc (by first | rfl | exact x_crf _) (x_cc (by first | rfl | exact x_crf _) x_cn))) (Nat.le_of_ble_eq_true rfl) rfl ?_
  intro pP eE sS mM aA bB hH cC Z C hini ret thr
  obtain ⟨t1, t7, t6, t5, hX0, H1, H7, H6, H5, hE0, hn, hb⟩ := id hS
  obtain ⟨hx, hox, hq1, hq7, hq6, hq5⟩ := id hX0
  obtain ⟨e1, e2, e3, e4, e5⟩ := id hE0
  have hx : K x = 8 := hx
  have hq1 : Q x 0 = some t1 := hq1
  have hq7 : Q x 1 = some t7 := hq7
  have hq6 : Q x 2 = some t6 := hq6
  have hq5 : Q x 3 = some t5 := hq5
  have kt1 : K t1 = 2 := H1.kc.1
  have kt7 : K t7 = 7 := H7.kc
  have kt6 : K t6 = 6 := H6.kc
  have kt5 : K t5 = 5 := H5.kc.1
  have l1 : I t1 3 = nI (cn al n) := H1.kc.2
  have l5 : I t5 3 = nI (cn pa m) := H5.kc.2.1
  have hm120 := H5.kc.2.2
  have l6 : I t6 1 = nI n := H6.cnt.1
  have l62 : I t6 2 = nI (cn al n) := H6.cnt.2.1
  have hup := H6.cnt.2.2.1
  have hcl := cn_le al n
  have hcm := cn_le pa m
  have e1 : I t1 4 = r := e1
  have e2 : I t1 5 = d := e2
  have e3 : I t7 2 = u := e3
  have e4 : I t6 3 = g := e4
  have e5 : I t5 4 = w := e5
  refine x_iload_n C D_X8_nearest_0.1 rfl rfl ?_
  refine x_iload_n C D_X8_nearest_0.2.1 rfl rfl ?_
  refine x_callSz C (y := yX8_isPlace) (c_X8_isPlace l G (y) (z)) k_452 k_453 k_60 k_454 hd_X8_isPlace ⟨(Nat.le_of_ble_eq_true rfl), (Nat.le_of_ble_eq_true rfl)⟩ rfl (by first | exact Nat.le_of_ble_eq_true rfl | simp [x_crf, Value.category]) rfl rfl D_X8_nearest_0.2.2.1 ⟨(Nat.le_of_ble_eq_true rfl), (Nat.le_of_ble_eq_true rfl)⟩ (fun r_2 S_2 h_2 => ?_)
  obtain ⟨rfl, rfl⟩ := h_2
  rw [is_np hyz]
  refine x_if_ne C 18 D_X8_nearest_0.2.2.2.1 (by decide) (fun c_5 => ?_) (fun c_5 => ?_)
  · skip
    exact absurd rfl c_5
    --end
  · skip
    refine thr _ _ _ _ _ _ _ 167 _ _ "x or y is out of range" thr_IA (by decide +kernel) D_X8_nearest_0.2.2.2.2.1 D_X8_nearest_0.2.2.2.2.2.1 D_X8_nearest_0.2.2.2.2.2.2.1 D_X8_nearest_0.2.2.2.2.2.2.2.1 D_X8_nearest_0.2.2.2.2.2.2.2.2.1 (by first | exact Nat.le_of_ble_eq_true rfl | simp [x_crf, Value.category]) rfl (Nat.le_of_ble_eq_true rfl) (Nat.le_of_ble_eq_true rfl) ?_
    exact ⟨rfl, ow, FR8.refl _ _, hS⟩
abbrev rm_X8_nearestZ : Room := { frames := 46, cells := 1, slots := 6, locals := 1076 }
theorem hd_X5_livingNearestTo : yX5_livingNearestTo.cls ≠ "java/lang/invoke/MethodHandle" ∧ yX5_livingNearestTo.cls ≠ "java/lang/invoke/VarHandle" ∧ (parseMethodDescriptor yX5_livingNearestTo.desc).map (fun d => d.parameters.length) = some 2 := by decide +kernel
set_option maxHeartbeats 4000000 in
set_option maxRecDepth 100000 in
theorem c_X8_nearestZ (l : Launch) (G : xG) {K N : Nat → Nat} {I : Nat → Nat → Int32} {Q : Nat → Nat → Option Nat} {J : Nat → Nat → Int64} (ow : xO) (x n m : Nat) (c : Nat → Nat) (al : Nat → Bool) (sp tu pt pc ps : Nat → Nat) (pa : Nat → Bool) (r d u g w : Int32) (a b : Nat) (hlt : l.stackTraces = false) (hS : SY ow (K, N, I, Q, J) x n c al sp tu pt m pc pa ps r d u g w) (ha : a < 100) (hb9 : b < 100) (hlv : cn pa m = 0)  : XMT l yX8_nearest cX8_nearest 4 (some .int) rm_X8_nearestZ G Ri [.ref x, .int (nI a), .int (nI b)] (K, N, I, Q, J) (fun _ _ => False) (fun E S1 => E = eNS ∧ ∃ ow1, FR8 ow ow1 (K, N, I, Q, J) S1 ∧ SY ow1 S1 x n c al sp tu pt m pc pa ps r d u g w) := by
  refine x_metTi (lv := [_, _, _, _]) hlt rfl ⟨(Nat.le_of_ble_eq_true rfl), (Nat.le_of_ble_eq_true rfl)⟩ (by decide +kernel) (x_cc (by first | rfl | exact x_crf _) (x_cc (by first | rfl | exact x_crf _) (x_cc (by first | rfl | exact x_crf _) x_cn))) (Nat.le_of_ble_eq_true rfl) rfl ?_
  intro pP eE sS mM aA bB hH cC Z C hini ret thr
  obtain ⟨t1, t7, t6, t5, hX0, H1, H7, H6, H5, hE0, hn, hb⟩ := id hS
  obtain ⟨hx, hox, hq1, hq7, hq6, hq5⟩ := id hX0
  obtain ⟨e1, e2, e3, e4, e5⟩ := id hE0
  have hx : K x = 8 := hx
  have hq1 : Q x 0 = some t1 := hq1
  have hq7 : Q x 1 = some t7 := hq7
  have hq6 : Q x 2 = some t6 := hq6
  have hq5 : Q x 3 = some t5 := hq5
  have kt1 : K t1 = 2 := H1.kc.1
  have kt7 : K t7 = 7 := H7.kc
  have kt6 : K t6 = 6 := H6.kc
  have kt5 : K t5 = 5 := H5.kc.1
  have l1 : I t1 3 = nI (cn al n) := H1.kc.2
  have l5 : I t5 3 = nI (cn pa m) := H5.kc.2.1
  have hm120 := H5.kc.2.2
  have l6 : I t6 1 = nI n := H6.cnt.1
  have l62 : I t6 2 = nI (cn al n) := H6.cnt.2.1
  have hup := H6.cnt.2.2.1
  have hcl := cn_le al n
  have hcm := cn_le pa m
  have e1 : I t1 4 = r := e1
  have e2 : I t1 5 = d := e2
  have e3 : I t7 2 = u := e3
  have e4 : I t6 3 = g := e4
  have e5 : I t5 4 = w := e5
  refine x_iload_n C D_X8_nearest_0.1 rfl rfl ?_
  refine x_iload_n C D_X8_nearest_0.2.1 rfl rfl ?_
  refine x_callSz C (y := yX8_isPlace) (c_X8_isPlace l G (nI a) (nI b)) k_452 k_453 k_60 k_454 hd_X8_isPlace ⟨(Nat.le_of_ble_eq_true rfl), (Nat.le_of_ble_eq_true rfl)⟩ rfl (by first | exact Nat.le_of_ble_eq_true rfl | simp [x_crf, Value.category]) rfl rfl D_X8_nearest_0.2.2.1 ⟨(Nat.le_of_ble_eq_true rfl), (Nat.le_of_ble_eq_true rfl)⟩ (fun r_2 S_2 h_2 => ?_)
  obtain ⟨rfl, rfl⟩ := h_2
  rw [is_pl ha hb9]
  refine x_if_ne C 18 D_X8_nearest_0.2.2.2.1 (by decide) (fun c_5 => ?_) (fun c_5 => ?_)
  · skip
    refine x_aload_n C D_X8_nearest_0.2.2.2.2.2.2.2.2.2.1 rfl rfl (by first | exact Or.inr ⟨_, rfl⟩ | exact va_rf_or _ | exact Or.inl rfl) ?_
    refine x_getQ C (ci := 7) (k0 := 3) hx (by decide) rfl (by decide) in_X8 k_182 rfl rfl D_X8_nearest_0.2.2.2.2.2.2.2.2.2.2.1 ?_
    refine x_eqr hq5 ?_
    refine x_iload_n C D_X8_nearest_0.2.2.2.2.2.2.2.2.2.2.2 rfl rfl ?_
    refine x_iload_n C D_X8_nearest_1.1 rfl rfl ?_
    refine x_callVi C (y := yX5_livingNearestTo) (k5_near l G H5 (x := a) (y := b) ha hb9) (ci := 4) kt5 (by decide) rfl rfl k_888 k_889 k_890 k_66 k_891 hd_X5_livingNearestTo ⟨(Nat.le_of_ble_eq_true rfl), (Nat.le_of_ble_eq_true rfl)⟩ rfl (by first | exact Nat.le_of_ble_eq_true rfl | simp [x_crf, Value.category]) rfl rfl D_X8_nearest_1.2.1 ⟨(Nat.le_of_ble_eq_true rfl), (Nat.le_of_ble_eq_true rfl)⟩ (fun rN S_24 h_24 => ?_)
    obtain ⟨hr, hF, H5a, ht⟩ := h_24
    obtain ⟨K1, N1, I1, Q1, J1⟩ := S_24
    obtain rfl : rN = -1 := by rcases hr with ⟨-, h2⟩ | ⟨h1, -⟩; exact h2; exact absurd h1 (by omega)
    refine x_istore_n C (lv' := [_, _, _, _]) D_X8_nearest_1.2.2.1 rfl (Nat.le_of_ble_eq_true rfl) (by first | rfl | exact x_ok_q rfl) rfl ?_
    refine x_iload_n C D_X8_nearest_1.2.2.2.1 rfl rfl ?_
    refine x_iconst C (v := (-1)) D_X8_nearest_1.2.2.2.2.1 (by decide +kernel) ?_
    refine x_icmp_ne C 43 D_X8_nearest_1.2.2.2.2.2.1 (by decide) (fun c_30 => ?_) (fun c_30 => ?_)
    · skip
      exact absurd rfl c_30
      --end
    · skip
      refine thr _ _ _ _ _ _ _ 193 _ _ "there are no points" thr_NS (by decide +kernel) D_X8_nearest_1.2.2.2.2.2.2.1 D_X8_nearest_1.2.2.2.2.2.2.2.1 D_X8_nearest_1.2.2.2.2.2.2.2.2.1 D_X8_nearest_1.2.2.2.2.2.2.2.2.2.1 D_X8_nearest_1.2.2.2.2.2.2.2.2.2.2.1 (by first | exact Nat.le_of_ble_eq_true rfl | simp [x_crf, Value.category]) rfl (Nat.le_of_ble_eq_true rfl) (Nat.le_of_ble_eq_true rfl) ?_
      exact ⟨rfl, ow, hF.fr8 (by omega), SY.a5 hX0 H1 H7 H6 hE0 hn hb hF H5a ((ht 4).trans e5)⟩
  · skip
    exact absurd c_5 (by decide)
    --end
abbrev rm_X8_nearestY : Room := { frames := 46, cells := 1, slots := 6, locals := 1076 }
set_option maxHeartbeats 4000000 in
set_option maxRecDepth 100000 in
theorem c_X8_nearestY (l : Launch) (G : xG) {K N : Nat → Nat} {I : Nat → Nat → Int32} {Q : Nat → Nat → Option Nat} {J : Nat → Nat → Int64} (ow : xO) (x n m : Nat) (c : Nat → Nat) (al : Nat → Bool) (sp tu pt pc ps : Nat → Nat) (pa : Nat → Bool) (r d u g w : Int32) (a b : Nat) (hlt : l.stackTraces = false) (hS : SY ow (K, N, I, Q, J) x n c al sp tu pt m pc pa ps r d u g w) (ha : a < 100) (hb9 : b < 100) (hlv : 0 < cn pa m)  : XMT l yX8_nearest cX8_nearest 4 (some .int) rm_X8_nearestY G Ri [.ref x, .int (nI a), .int (nI b)] (K, N, I, Q, J) (fun r_ S1 => r_ = nI (nrM pc pa a b m).1 ∧ ∃ ow1, FR8 ow ow1 (K, N, I, Q, J) S1 ∧ SY ow1 S1 x n c al sp tu pt m pc pa ps r d u g w) (fun _ _ => False) := by
  refine x_metTi (lv := [_, _, _, _]) hlt rfl ⟨(Nat.le_of_ble_eq_true rfl), (Nat.le_of_ble_eq_true rfl)⟩ (by decide +kernel) (x_cc (by first | rfl | exact x_crf _) (x_cc (by first | rfl | exact x_crf _) (x_cc (by first | rfl | exact x_crf _) x_cn))) (Nat.le_of_ble_eq_true rfl) rfl ?_
  intro pP eE sS mM aA bB hH cC Z C hini ret thr
  obtain ⟨t1, t7, t6, t5, hX0, H1, H7, H6, H5, hE0, hn, hb⟩ := id hS
  obtain ⟨hx, hox, hq1, hq7, hq6, hq5⟩ := id hX0
  obtain ⟨e1, e2, e3, e4, e5⟩ := id hE0
  have hx : K x = 8 := hx
  have hq1 : Q x 0 = some t1 := hq1
  have hq7 : Q x 1 = some t7 := hq7
  have hq6 : Q x 2 = some t6 := hq6
  have hq5 : Q x 3 = some t5 := hq5
  have kt1 : K t1 = 2 := H1.kc.1
  have kt7 : K t7 = 7 := H7.kc
  have kt6 : K t6 = 6 := H6.kc
  have kt5 : K t5 = 5 := H5.kc.1
  have l1 : I t1 3 = nI (cn al n) := H1.kc.2
  have l5 : I t5 3 = nI (cn pa m) := H5.kc.2.1
  have hm120 := H5.kc.2.2
  have l6 : I t6 1 = nI n := H6.cnt.1
  have l62 : I t6 2 = nI (cn al n) := H6.cnt.2.1
  have hup := H6.cnt.2.2.1
  have hcl := cn_le al n
  have hcm := cn_le pa m
  have e1 : I t1 4 = r := e1
  have e2 : I t1 5 = d := e2
  have e3 : I t7 2 = u := e3
  have e4 : I t6 3 = g := e4
  have e5 : I t5 4 = w := e5
  refine x_iload_n C D_X8_nearest_0.1 rfl rfl ?_
  refine x_iload_n C D_X8_nearest_0.2.1 rfl rfl ?_
  refine x_callSz C (y := yX8_isPlace) (c_X8_isPlace l G (nI a) (nI b)) k_452 k_453 k_60 k_454 hd_X8_isPlace ⟨(Nat.le_of_ble_eq_true rfl), (Nat.le_of_ble_eq_true rfl)⟩ rfl (by first | exact Nat.le_of_ble_eq_true rfl | simp [x_crf, Value.category]) rfl rfl D_X8_nearest_0.2.2.1 ⟨(Nat.le_of_ble_eq_true rfl), (Nat.le_of_ble_eq_true rfl)⟩ (fun r_2 S_2 h_2 => ?_)
  obtain ⟨rfl, rfl⟩ := h_2
  rw [is_pl ha hb9]
  refine x_if_ne C 18 D_X8_nearest_0.2.2.2.1 (by decide) (fun c_5 => ?_) (fun c_5 => ?_)
  · skip
    refine x_aload_n C D_X8_nearest_0.2.2.2.2.2.2.2.2.2.1 rfl rfl (by first | exact Or.inr ⟨_, rfl⟩ | exact va_rf_or _ | exact Or.inl rfl) ?_
    refine x_getQ C (ci := 7) (k0 := 3) hx (by decide) rfl (by decide) in_X8 k_182 rfl rfl D_X8_nearest_0.2.2.2.2.2.2.2.2.2.2.1 ?_
    refine x_eqr hq5 ?_
    refine x_iload_n C D_X8_nearest_0.2.2.2.2.2.2.2.2.2.2.2 rfl rfl ?_
    refine x_iload_n C D_X8_nearest_1.1 rfl rfl ?_
    refine x_callVi C (y := yX5_livingNearestTo) (k5_near l G H5 (x := a) (y := b) ha hb9) (ci := 4) kt5 (by decide) rfl rfl k_888 k_889 k_890 k_66 k_891 hd_X5_livingNearestTo ⟨(Nat.le_of_ble_eq_true rfl), (Nat.le_of_ble_eq_true rfl)⟩ rfl (by first | exact Nat.le_of_ble_eq_true rfl | simp [x_crf, Value.category]) rfl rfl D_X8_nearest_1.2.1 ⟨(Nat.le_of_ble_eq_true rfl), (Nat.le_of_ble_eq_true rfl)⟩ (fun rN S_24 h_24 => ?_)
    obtain ⟨hr, hF, H5a, ht⟩ := h_24
    obtain ⟨K1, N1, I1, Q1, J1⟩ := S_24
    obtain rfl : rN = nI (nrM pc pa a b m).1 := by rcases hr with ⟨h1, -⟩ | ⟨-, h2⟩; exact absurd h1 (by omega); exact h2
    have hnb := nrM_b (pa := pa) ha hb9 (fun i hi => (H5.bd i hi).1)
    refine x_istore_n C (lv' := [_, _, _, _]) D_X8_nearest_1.2.2.1 rfl (Nat.le_of_ble_eq_true rfl) (by first | rfl | exact x_ok_q rfl) rfl ?_
    refine x_iload_n C D_X8_nearest_1.2.2.2.1 rfl rfl ?_
    refine x_iconst C (v := (-1)) D_X8_nearest_1.2.2.2.2.1 (by decide +kernel) ?_
    refine x_icmp_ne C 43 D_X8_nearest_1.2.2.2.2.2.1 (by decide) (fun c_30 => ?_) (fun c_30 => ?_)
    · skip
      refine x_iload_n C D_X8_nearest_1.2.2.2.2.2.2.2.2.2.2.2 rfl rfl ?_
      refine ret _ _ _ _ _ _ rfl D_X8_nearest_2 (Nat.le_of_ble_eq_true rfl) (Nat.le_of_ble_eq_true rfl) ?_
      exact ⟨rfl, ow, hF.fr8 (by omega), SY.a5 hX0 H1 H7 H6 hE0 hn hb hF H5a ((ht 4).trans e5)⟩
    · skip
      exact absurd c_30 (ni_m10 hnb.1)
      --end
  · skip
    exact absurd c_5 (by decide)
    --end
