theorem hd_L_addPoint : yL_addPoint.cls ≠ "java/lang/invoke/MethodHandle" ∧ yL_addPoint.cls ≠ "java/lang/invoke/VarHandle" ∧ (parseMethodDescriptor yL_addPoint.desc).map (fun d => d.parameters.length) = some 4 := by decide +kernel
theorem hd_X9_addPoint : yX9_addPoint.cls ≠ "java/lang/invoke/MethodHandle" ∧ yX9_addPoint.cls ≠ "java/lang/invoke/VarHandle" ∧ (parseMethodDescriptor yX9_addPoint.desc).map (fun d => d.parameters.length) = some 2 := by decide +kernel
set_option maxHeartbeats 4000000 in
set_option maxRecDepth 100000 in
theorem lc_addPointR {p : Program} {l : Launch} {ee : Env} {s : State} {mi : MethodId} {args : Array Value} {below : List Frame} {meth : Method} {cd : Code} {G : xG} {Z : State → Prop} {rt : Option FieldType} {k0 n0 bs L i x mm o : Nat} {xs : Nat → Int32} {K N : Nat → Nat} {I : Nat → Nat → Int32} {Q : Nat → Nat → Option Nat} {J : Nat → Nat → Int64} {ow : xO} {n : Nat} {c : Nat → Nat} {al : Nat → Bool} {sp tu pt : Nat → Nat} {m : Nat} {pc : Nat → Nat} {pa : Nat → Bool} {ps : Nat → Nat} {r d u g w : Int32} {ar : Nat → Nat} (C : XC p s mi args meth cd code 9 RL rt G) (hX : gX G s s.heap) (hlt : l.stackTraces = false) (hXs : va_X bs L xs s s.heap) (hbl : bs < s.heap.size) (hbA : ¬ gA G bs) (hi : i + 5 ≤ L) (hL : L ≤ 2560) (hk0 : k0 + 100 ≤ room_1.cells) (hn0 : n0 + 2000 ≤ room_1.slots) (hS : SY ow (K, N, I, Q, J) x n c al sp tu pt m pc pa ps r d u g w) (hM : KM ow (K, N, I, Q, J) mm ar n c al sp tu pt m pc pa ps r d u g w) (hO : K o = 24 ∧ N o = 1 ∧ ow o = 10) (hB : BNm n al tu m pa) (hyz : xs (i + 1) < 0 ∨ nI 99 < xs (i + 1) ∨ xs (i + 2) < 0 ∨ nI 99 < xs (i + 2)) (kk : ∀ (ow1 : xO) (S1 : xS), INV ow1 S1 x mm o → XW p l ee room_1 s mi args below meth cd G Z (k0 + 100) (n0 + 2000) S1 1254 [some (.ref bs), some (.ref x), some (.ref mm), some (.ref o), some (.int (nI i)), none, none, none, none] []) : XW p l ee room_1 s mi args below meth cd G Z k0 n0 (K, N, I, Q, J) 862 [some (.ref bs), some (.ref x), some (.ref mm), some (.ref o), some (.int (nI i)), none, none, none, none] [] := by
  obtain ⟨hKB, hPB, hUP, hPI, hn2, hcb, hm2, hsb, hx⟩ := hS.kb
  have hx : K x = 8 := hx
  have hmm : K mm = 9 := hM.1.1
  have ht30 : ∀ i, i < n → tu i < 2 ^ 30 := fun i hi => Nat.lt_trans (hsb i hi).2 (by decide)
  have hs30 : ∀ i, i < n → sp i < 2 ^ 30 := fun i hi => Nat.lt_trans (hsb i hi).1 (by decide)
  have hp30 : ∀ i, i < m → ps i < 2 ^ 30 := fun i hi => Nat.lt_trans (hPB i hi).2.2 (by decide)
  have hpc : ∀ j, j < m → pc j < 10000 := fun j hj => (hPB j hj).1
  refine x_aload_n C D_L_law_37.2.1 rfl rfl (by first | exact Or.inr ⟨_, rfl⟩ | exact va_rf_or _ | exact Or.inl rfl) ?_
  refine x_aload_n C D_L_law_37.2.2.1 rfl rfl (by first | exact Or.inr ⟨_, rfl⟩ | exact va_rf_or _ | exact Or.inl rfl) ?_
  refine x_iload C D_L_law_37.2.2.2.1 rfl ?_
  refine x_iconst C (v := nI 1) D_L_law_37.2.2.2.2.1 (by decide +kernel) ?_
  refine x_iadd C D_L_law_37.2.2.2.2.2.1 ?_
  first
  | refine x_eqi _ (nI_add _ _) ?_
  | skip
  refine x_sld C hXs hbl hbA _ rfl (by omega) hL D_L_law_37.2.2.2.2.2.2.1 ?_
  refine x_aload_n C D_L_law_37.2.2.2.2.2.2.2.1 rfl rfl (by first | exact Or.inr ⟨_, rfl⟩ | exact va_rf_or _ | exact Or.inl rfl) ?_
  refine x_iload C D_L_law_37.2.2.2.2.2.2.2.2.1 rfl ?_
  refine x_iconst C (v := nI 2) D_L_law_37.2.2.2.2.2.2.2.2.2.1 (by decide +kernel) ?_
  refine x_iadd C D_L_law_37.2.2.2.2.2.2.2.2.2.2.1 ?_
  first
  | refine x_eqi _ (nI_add _ _) ?_
  | skip
  refine x_sld C hXs hbl hbA _ rfl (by omega) hL D_L_law_37.2.2.2.2.2.2.2.2.2.2.2 ?_
  refine x_aload_n C D_L_law_38.1 rfl rfl (by first | exact Or.inr ⟨_, rfl⟩ | exact va_rf_or _ | exact Or.inl rfl) ?_
  refine x_callW C hX (y := yL_addPoint) (c_L_addPointR l G ow x o n m c al sp tu pt pc ps pa r d u g w (xs (i + 1)) (xs (i + 2)) hlt hS ⟨hO.1, hO.2.1⟩ hyz) k_831 k_832 k_59 kw_addPoint hd_L_addPoint ⟨(Nat.le_of_ble_eq_true rfl), (Nat.le_of_ble_eq_true rfl)⟩ rfl (by first | exact Nat.le_of_ble_eq_true rfl | simp [x_crf, Value.category]) rfl rfl D_L_law_38.2.1 ⟨Nat.le_trans (Nat.add_le_add_left (Nat.le_of_ble_eq_true rfl : _ ≤ 20) _) (by omega), Nat.le_trans (Nat.add_le_add_left (Nat.le_of_ble_eq_true rfl : _ ≤ 400) _) (by omega)⟩ (fun r_876 S_876 h_876 => ?_)
  refine x_widen (k' := k0 + 20) (n' := n0 + 400) (Nat.add_le_add_left (Nat.le_of_ble_eq_true rfl) _) (Nat.add_le_add_left (Nat.le_of_ble_eq_true rfl) _) ?_
  obtain ⟨rfl, ow1, hF1, hS1⟩ := h_876
  obtain ⟨K1, N1, I1, Q1, J1⟩ := S_876
  have hM1 := hM.agree hF1
  have hO1 := hF1.o hO
  have hm1 : K1 mm = 9 := hM1.1.1
  have m1d : I1 mm 1 = d := hM1.2.2.2.2.1
  have m1r : I1 mm 2 = r := hM1.2.2.2.2.2.1
  have m1u : I1 mm 3 = u := hM1.2.2.2.2.2.2.1
  have m1g : I1 mm 4 = g := hM1.2.2.2.2.2.2.2.1
  have m1w : I1 mm 11 = w := hM1.2.2.2.2.2.2.2.2
  refine x_istore C (lv' := [_, _, _, _, _, _, _, _, _]) D_L_law_38.2.2.1 (Nat.le_of_ble_eq_true rfl) (by first | rfl | exact x_ok_q rfl) rfl ?_
  refine x_aload_n C D_L_law_38.2.2.2.1 rfl rfl (by first | exact Or.inr ⟨_, rfl⟩ | exact va_rf_or _ | exact Or.inl rfl) ?_
  refine x_aload_n C D_L_law_38.2.2.2.2.1 rfl rfl (by first | exact Or.inr ⟨_, rfl⟩ | exact va_rf_or _ | exact Or.inl rfl) ?_
  refine x_iload C D_L_law_38.2.2.2.2.2.1 rfl ?_
  refine x_iconst C (v := nI 1) D_L_law_38.2.2.2.2.2.2.1 (by decide +kernel) ?_
  refine x_iadd C D_L_law_38.2.2.2.2.2.2.2.1 ?_
  first
  | refine x_eqi _ (nI_add _ _) ?_
  | skip
  refine x_sld C hXs hbl hbA _ rfl (by omega) hL D_L_law_38.2.2.2.2.2.2.2.2.1 ?_
  refine x_aload_n C D_L_law_38.2.2.2.2.2.2.2.2.2.1 rfl rfl (by first | exact Or.inr ⟨_, rfl⟩ | exact va_rf_or _ | exact Or.inl rfl) ?_
  refine x_iload C D_L_law_38.2.2.2.2.2.2.2.2.2.2.1 rfl ?_
  refine x_iconst C (v := nI 2) D_L_law_38.2.2.2.2.2.2.2.2.2.2.2 (by decide +kernel) ?_
  refine x_iadd C D_L_law_39.1 ?_
  first
  | refine x_eqi _ (nI_add _ _) ?_
  | skip
  refine x_sld C hXs hbl hbA _ rfl (by omega) hL D_L_law_39.2.1 ?_
  refine x_callVz C (y := yX9_addPoint) (c_X9_addPointR l G mm m ar pc ps pa (xs (i + 1)) (xs (i + 2)) hM1.1 hM1.2.2.1 hPB hyz (PV_range hM1.2.2.1 hpc hyz)) (ci := 8) hm1 (by decide) rfl rfl k_1141 k_1142 k_1143 k_67 k_1144 hd_X9_addPoint ⟨(Nat.le_of_ble_eq_true rfl), (Nat.le_of_ble_eq_true rfl)⟩ rfl (by first | exact Nat.le_of_ble_eq_true rfl | simp [x_crf, Value.category]) rfl rfl D_L_law_39.2.2.1 ⟨Nat.le_trans (Nat.add_le_add_left (Nat.le_of_ble_eq_true rfl : _ ≤ 20) _) (by omega), Nat.le_trans (Nat.add_le_add_left (Nat.le_of_ble_eq_true rfl : _ ≤ 400) _) (by omega)⟩ (fun r_894 S_894 h_894 => ?_)
  refine x_widen (k' := k0 + 20 + 20) (n' := n0 + 400 + 400) (Nat.add_le_add_left (Nat.le_of_ble_eq_true rfl) _) (Nat.add_le_add_left (Nat.le_of_ble_eq_true rfl) _) ?_
  obtain ⟨rfl, rfl⟩ := h_894
  refine x_istore C (lv' := [_, _, _, _, _, _, _, _, _]) D_L_law_39.2.2.2.1 (Nat.le_of_ble_eq_true rfl) (by first | rfl | exact x_ok_q rfl) rfl ?_
  refine x_aload_n C D_L_law_39.2.2.2.2.1 rfl rfl (by first | exact Or.inr ⟨_, rfl⟩ | exact va_rf_or _ | exact Or.inl rfl) ?_
  refine x_callVi C (y := yX9_thrown) (c_X9_thrown l G mm hm1) (ci := 8) hm1 (by decide) rfl rfl k_962 k_963 k_964 k_67 k_965 hd_X9_thrown ⟨(Nat.le_of_ble_eq_true rfl), (Nat.le_of_ble_eq_true rfl)⟩ rfl (by first | exact Nat.le_of_ble_eq_true rfl | simp [x_crf, Value.category]) rfl rfl D_L_law_39.2.2.2.2.2.1 ⟨Nat.le_trans (Nat.add_le_add_left (Nat.le_of_ble_eq_true rfl : _ ≤ 20) _) (by omega), Nat.le_trans (Nat.add_le_add_left (Nat.le_of_ble_eq_true rfl : _ ≤ 400) _) (by omega)⟩ (fun r_900 S_900 h_900 => ?_)
  refine x_widen (k' := k0 + 20 + 20 + 20) (n' := n0 + 400 + 400 + 400) (Nat.add_le_add_left (Nat.le_of_ble_eq_true rfl) _) (Nat.add_le_add_left (Nat.le_of_ble_eq_true rfl) _) ?_
  obtain ⟨rfl, rfl⟩ := h_900
  refine x_eqi _ (show _ = nI 1 from x_u2_s _ _ _ _) ?_
  refine x_iload C D_L_law_39.2.2.2.2.2.2.1 rfl ?_
  refine x_icmp_eq C 910 D_L_law_39.2.2.2.2.2.2.2.1 (by decide) (fun c_905 => ?_) (fun c_905 => ?_)
  · skip
    refine x_iload C D_L_law_39.2.2.2.2.2.2.2.2.2.2.1 rfl ?_
    refine x_if_ne C 934 D_L_law_39.2.2.2.2.2.2.2.2.2.2.2 (by decide) (fun c_912 => ?_) (fun c_912 => ?_)
    · skip
      refine x_goto C 1254 D_L_law_41.1 (by decide) ?_
      exact x_drop9 (x_widen (by omega) (by omega) (kk _ _ (INV.q hS1 hM1 hO1 hB _)))
    · skip
      exact absurd c_912 (by decide)
      --end
  · skip
    exact absurd rfl c_905
    --end
set_option maxHeartbeats 4000000 in
set_option maxRecDepth 100000 in
theorem lc_addPointT {p : Program} {l : Launch} {ee : Env} {s : State} {mi : MethodId} {args : Array Value} {below : List Frame} {meth : Method} {cd : Code} {G : xG} {Z : State → Prop} {rt : Option FieldType} {k0 n0 bs L i x mm o : Nat} {xs : Nat → Int32} {K N : Nat → Nat} {I : Nat → Nat → Int32} {Q : Nat → Nat → Option Nat} {J : Nat → Nat → Int64} {ow : xO} {n : Nat} {c : Nat → Nat} {al : Nat → Bool} {sp tu pt : Nat → Nat} {m : Nat} {pc : Nat → Nat} {pa : Nat → Bool} {ps : Nat → Nat} {r d u g w : Int32} {ar : Nat → Nat} (C : XC p s mi args meth cd code 9 RL rt G) (hX : gX G s s.heap) (hlt : l.stackTraces = false) (hXs : va_X bs L xs s s.heap) (hbl : bs < s.heap.size) (hbA : ¬ gA G bs) (hi : i + 5 ≤ L) (hL : L ≤ 2560) (hk0 : k0 + 100 ≤ room_1.cells) (hn0 : n0 + 2000 ≤ room_1.slots) (hS : SY ow (K, N, I, Q, J) x n c al sp tu pt m pc pa ps r d u g w) (hM : KM ow (K, N, I, Q, J) mm ar n c al sp tu pt m pc pa ps r d u g w) (hO : K o = 24 ∧ N o = 1 ∧ ow o = 10) (hB : BNm n al tu m pa) (k : Nat) (hk : k < m) (y1 : xs (i + 1) = nI (pc k / 100)) (y2 : xs (i + 2) = nI (pc k % 100)) (hal : pa k = true) (kk : ∀ (ow1 : xO) (S1 : xS), INV ow1 S1 x mm o → XW p l ee room_1 s mi args below meth cd G Z (k0 + 100) (n0 + 2000) S1 1254 [some (.ref bs), some (.ref x), some (.ref mm), some (.ref o), some (.int (nI i)), none, none, none, none] []) : XW p l ee room_1 s mi args below meth cd G Z k0 n0 (K, N, I, Q, J) 862 [some (.ref bs), some (.ref x), some (.ref mm), some (.ref o), some (.int (nI i)), none, none, none, none] [] := by
  obtain ⟨hKB, hPB, hUP, hPI, hn2, hcb, hm2, hsb, hx⟩ := hS.kb
  have hx : K x = 8 := hx
  have hmm : K mm = 9 := hM.1.1
  have ht30 : ∀ i, i < n → tu i < 2 ^ 30 := fun i hi => Nat.lt_trans (hsb i hi).2 (by decide)
  have hs30 : ∀ i, i < n → sp i < 2 ^ 30 := fun i hi => Nat.lt_trans (hsb i hi).1 (by decide)
  have hp30 : ∀ i, i < m → ps i < 2 ^ 30 := fun i hi => Nat.lt_trans (hPB i hi).2.2 (by decide)
  have hpc : ∀ j, j < m → pc j < 10000 := fun j hj => (hPB j hj).1
  refine x_aload_n C D_L_law_37.2.1 rfl rfl (by first | exact Or.inr ⟨_, rfl⟩ | exact va_rf_or _ | exact Or.inl rfl) ?_
  refine x_aload_n C D_L_law_37.2.2.1 rfl rfl (by first | exact Or.inr ⟨_, rfl⟩ | exact va_rf_or _ | exact Or.inl rfl) ?_
  refine x_iload C D_L_law_37.2.2.2.1 rfl ?_
  refine x_iconst C (v := nI 1) D_L_law_37.2.2.2.2.1 (by decide +kernel) ?_
  refine x_iadd C D_L_law_37.2.2.2.2.2.1 ?_
  first
  | refine x_eqi _ (nI_add _ _) ?_
  | skip
  refine x_sld C hXs hbl hbA _ rfl (by omega) hL D_L_law_37.2.2.2.2.2.2.1 ?_
  refine x_eqi _ y1 ?_
  refine x_aload_n C D_L_law_37.2.2.2.2.2.2.2.1 rfl rfl (by first | exact Or.inr ⟨_, rfl⟩ | exact va_rf_or _ | exact Or.inl rfl) ?_
  refine x_iload C D_L_law_37.2.2.2.2.2.2.2.2.1 rfl ?_
  refine x_iconst C (v := nI 2) D_L_law_37.2.2.2.2.2.2.2.2.2.1 (by decide +kernel) ?_
  refine x_iadd C D_L_law_37.2.2.2.2.2.2.2.2.2.2.1 ?_
  first
  | refine x_eqi _ (nI_add _ _) ?_
  | skip
  refine x_sld C hXs hbl hbA _ rfl (by omega) hL D_L_law_37.2.2.2.2.2.2.2.2.2.2.2 ?_
  refine x_eqi _ y2 ?_
  refine x_aload_n C D_L_law_38.1 rfl rfl (by first | exact Or.inr ⟨_, rfl⟩ | exact va_rf_or _ | exact Or.inl rfl) ?_
  refine x_callW C hX (y := yL_addPoint) (c_L_addPointT l G ow x o n m c al sp tu pt pc ps pa r d u g w k hlt hS ⟨hO.1, hO.2.1⟩ hk hal) k_831 k_832 k_59 kw_addPoint hd_L_addPoint ⟨(Nat.le_of_ble_eq_true rfl), (Nat.le_of_ble_eq_true rfl)⟩ rfl (by first | exact Nat.le_of_ble_eq_true rfl | simp [x_crf, Value.category]) rfl rfl D_L_law_38.2.1 ⟨Nat.le_trans (Nat.add_le_add_left (Nat.le_of_ble_eq_true rfl : _ ≤ 20) _) (by omega), Nat.le_trans (Nat.add_le_add_left (Nat.le_of_ble_eq_true rfl : _ ≤ 400) _) (by omega)⟩ (fun r_876 S_876 h_876 => ?_)
  refine x_widen (k' := k0 + 20) (n' := n0 + 400) (Nat.add_le_add_left (Nat.le_of_ble_eq_true rfl) _) (Nat.add_le_add_left (Nat.le_of_ble_eq_true rfl) _) ?_
  obtain ⟨rfl, S0, J2, rfl, eJ2, ow1, hF1, hS1⟩ := h_876
  obtain ⟨K1, N1, I1, Q1, J1⟩ := S0
  have hM1 := (hM.agree hF1).J (J1 := J2)
  have hS1 := hS1.J (J1 := J2)
  have hO1 := hF1.o hO
  have hm1 : K1 mm = 9 := hM1.1.1
  have ko1 : K1 o = 24 := hO1.1
  have no1 : N1 o = 1 := hO1.2.1
  have m1d : I1 mm 1 = d := hM1.2.2.2.2.1
  have m1r : I1 mm 2 = r := hM1.2.2.2.2.2.1
  have m1u : I1 mm 3 = u := hM1.2.2.2.2.2.2.1
  have m1g : I1 mm 4 = g := hM1.2.2.2.2.2.2.2.1
  have m1w : I1 mm 11 = w := hM1.2.2.2.2.2.2.2.2
  refine x_istore C (lv' := [_, _, _, _, _, _, _, _, _]) D_L_law_38.2.2.1 (Nat.le_of_ble_eq_true rfl) (by first | rfl | exact x_ok_q rfl) rfl ?_
  refine x_aload_n C D_L_law_38.2.2.2.1 rfl rfl (by first | exact Or.inr ⟨_, rfl⟩ | exact va_rf_or _ | exact Or.inl rfl) ?_
  refine x_aload_n C D_L_law_38.2.2.2.2.1 rfl rfl (by first | exact Or.inr ⟨_, rfl⟩ | exact va_rf_or _ | exact Or.inl rfl) ?_
  refine x_iload C D_L_law_38.2.2.2.2.2.1 rfl ?_
  refine x_iconst C (v := nI 1) D_L_law_38.2.2.2.2.2.2.1 (by decide +kernel) ?_
  refine x_iadd C D_L_law_38.2.2.2.2.2.2.2.1 ?_
  first
  | refine x_eqi _ (nI_add _ _) ?_
  | skip
  refine x_sld C hXs hbl hbA _ rfl (by omega) hL D_L_law_38.2.2.2.2.2.2.2.2.1 ?_
  refine x_eqi _ y1 ?_
  refine x_aload_n C D_L_law_38.2.2.2.2.2.2.2.2.2.1 rfl rfl (by first | exact Or.inr ⟨_, rfl⟩ | exact va_rf_or _ | exact Or.inl rfl) ?_
  refine x_iload C D_L_law_38.2.2.2.2.2.2.2.2.2.2.1 rfl ?_
  refine x_iconst C (v := nI 2) D_L_law_38.2.2.2.2.2.2.2.2.2.2.2 (by decide +kernel) ?_
  refine x_iadd C D_L_law_39.1 ?_
  first
  | refine x_eqi _ (nI_add _ _) ?_
  | skip
  refine x_sld C hXs hbl hbA _ rfl (by omega) hL D_L_law_39.2.1 ?_
  refine x_eqi _ y2 ?_
  refine x_callVz C (y := yX9_addPoint) (c_X9_addPointT l G mm m ar pc ps pa (pc k) k hM1.1 hM1.2.2.1 hPB (hpc k hk) (PV_some hM1.2.2.1 hPI hpc hk) hal) (ci := 8) hm1 (by decide) rfl rfl k_1141 k_1142 k_1143 k_67 k_1144 hd_X9_addPoint ⟨(Nat.le_of_ble_eq_true rfl), (Nat.le_of_ble_eq_true rfl)⟩ rfl (by first | exact Nat.le_of_ble_eq_true rfl | simp [x_crf, Value.category]) rfl rfl D_L_law_39.2.2.1 ⟨Nat.le_trans (Nat.add_le_add_left (Nat.le_of_ble_eq_true rfl : _ ≤ 20) _) (by omega), Nat.le_trans (Nat.add_le_add_left (Nat.le_of_ble_eq_true rfl : _ ≤ 400) _) (by omega)⟩ (fun r_894 S_894 h_894 => ?_)
  refine x_widen (k' := k0 + 20 + 20) (n' := n0 + 400 + 400) (Nat.add_le_add_left (Nat.le_of_ble_eq_true rfl) _) (Nat.add_le_add_left (Nat.le_of_ble_eq_true rfl) _) ?_
  obtain ⟨rfl, rfl⟩ := h_894
  refine x_istore C (lv' := [_, _, _, _, _, _, _, _, _]) D_L_law_39.2.2.2.1 (Nat.le_of_ble_eq_true rfl) (by first | rfl | exact x_ok_q rfl) rfl ?_
  refine x_aload_n C D_L_law_39.2.2.2.2.1 rfl rfl (by first | exact Or.inr ⟨_, rfl⟩ | exact va_rf_or _ | exact Or.inl rfl) ?_
  refine x_callVi C (y := yX9_thrown) (c_X9_thrown l G mm hm1) (ci := 8) hm1 (by decide) rfl rfl k_962 k_963 k_964 k_67 k_965 hd_X9_thrown ⟨(Nat.le_of_ble_eq_true rfl), (Nat.le_of_ble_eq_true rfl)⟩ rfl (by first | exact Nat.le_of_ble_eq_true rfl | simp [x_crf, Value.category]) rfl rfl D_L_law_39.2.2.2.2.2.1 ⟨Nat.le_trans (Nat.add_le_add_left (Nat.le_of_ble_eq_true rfl : _ ≤ 20) _) (by omega), Nat.le_trans (Nat.add_le_add_left (Nat.le_of_ble_eq_true rfl : _ ≤ 400) _) (by omega)⟩ (fun r_900 S_900 h_900 => ?_)
  refine x_widen (k' := k0 + 20 + 20 + 20) (n' := n0 + 400 + 400 + 400) (Nat.add_le_add_left (Nat.le_of_ble_eq_true rfl) _) (Nat.add_le_add_left (Nat.le_of_ble_eq_true rfl) _) ?_
  obtain ⟨rfl, rfl⟩ := h_900
  refine x_eqi _ (show _ = nI 0 from x_u2_s _ _ _ _) ?_
  refine x_iload C D_L_law_39.2.2.2.2.2.2.1 rfl ?_
  refine x_icmp_eq C 910 D_L_law_39.2.2.2.2.2.2.2.1 (by decide) (fun c_905 => ?_) (fun c_905 => ?_)
  · skip
    refine x_iload C D_L_law_39.2.2.2.2.2.2.2.2.2.2.1 rfl ?_
    refine x_if_ne C 934 D_L_law_39.2.2.2.2.2.2.2.2.2.2.2 (by decide) (fun c_912 => ?_) (fun c_912 => ?_)
    · skip
      exact absurd rfl c_912
      --end
    · skip
      refine x_aload_n C D_L_law_40.1 rfl rfl (by first | exact Or.inr ⟨_, rfl⟩ | exact va_rf_or _ | exact Or.inl rfl) ?_
      refine x_iconst C (v := nI 0) D_L_law_40.2.1 (by decide +kernel) ?_
      refine x_lald C 0 ko1 rfl (by omega) (by omega) D_L_law_40.2.2.1 ?_
      refine x_eql _ (show J2 o 0 = _ by rw [eJ2, x_u2_s]) ?_
      refine x_iload C D_L_law_40.2.2.2.1 rfl ?_
      refine x_if_eq C 927 D_L_law_40.2.2.2.2.1 (by decide) (fun c_920 => ?_) (fun c_920 => ?_)
      · skip
        refine x_lconst C (v := 0) D_L_law_40.2.2.2.2.2.2.2.1 (by decide +kernel) ?_
        refine x_lcmp C D_L_law_40.2.2.2.2.2.2.2.2.1 ?_
        refine x_eqi _ (lg_self _) ?_
        refine x_if_eq C 934 D_L_law_40.2.2.2.2.2.2.2.2.2.1 (by decide) (fun c_929 => ?_) (fun c_929 => ?_)
        · skip
          refine x_goto C 1254 D_L_law_41.1 (by decide) ?_
          exact x_drop9 (x_widen (by omega) (by omega) (kk _ _ (INV.q hS1 hM1 hO1 hB _)))
        · skip
          exact absurd rfl c_929
          --end
      · skip
        exact absurd rfl c_920
        --end
  · skip
    exact absurd rfl c_905
    --end
set_option maxHeartbeats 4000000 in
set_option maxRecDepth 100000 in
theorem lc_addPointG {p : Program} {l : Launch} {ee : Env} {s : State} {mi : MethodId} {args : Array Value} {below : List Frame} {meth : Method} {cd : Code} {G : xG} {Z : State → Prop} {rt : Option FieldType} {k0 n0 bs L i x mm o : Nat} {xs : Nat → Int32} {K N : Nat → Nat} {I : Nat → Nat → Int32} {Q : Nat → Nat → Option Nat} {J : Nat → Nat → Int64} {ow : xO} {n : Nat} {c : Nat → Nat} {al : Nat → Bool} {sp tu pt : Nat → Nat} {m : Nat} {pc : Nat → Nat} {pa : Nat → Bool} {ps : Nat → Nat} {r d u g w : Int32} {ar : Nat → Nat} (C : XC p s mi args meth cd code 9 RL rt G) (hX : gX G s s.heap) (hlt : l.stackTraces = false) (hXs : va_X bs L xs s s.heap) (hbl : bs < s.heap.size) (hbA : ¬ gA G bs) (hi : i + 5 ≤ L) (hL : L ≤ 2560) (hk0 : k0 + 100 ≤ room_1.cells) (hn0 : n0 + 2000 ≤ room_1.slots) (hS : SY ow (K, N, I, Q, J) x n c al sp tu pt m pc pa ps r d u g w) (hM : KM ow (K, N, I, Q, J) mm ar n c al sp tu pt m pc pa ps r d u g w) (hO : K o = 24 ∧ N o = 1 ∧ ow o = 10) (hB : BNm n al tu m pa) (k : Nat) (hk : k < m) (y1 : xs (i + 1) = nI (pc k / 100)) (y2 : xs (i + 2) = nI (pc k % 100)) (hal : pa k = false) (hlv : cn pa m = 60) (kk : ∀ (ow1 : xO) (S1 : xS), INV ow1 S1 x mm o → XW p l ee room_1 s mi args below meth cd G Z (k0 + 100) (n0 + 2000) S1 1254 [some (.ref bs), some (.ref x), some (.ref mm), some (.ref o), some (.int (nI i)), none, none, none, none] []) : XW p l ee room_1 s mi args below meth cd G Z k0 n0 (K, N, I, Q, J) 862 [some (.ref bs), some (.ref x), some (.ref mm), some (.ref o), some (.int (nI i)), none, none, none, none] [] := by
  obtain ⟨hKB, hPB, hUP, hPI, hn2, hcb, hm2, hsb, hx⟩ := hS.kb
  have hx : K x = 8 := hx
  have hmm : K mm = 9 := hM.1.1
  have ht30 : ∀ i, i < n → tu i < 2 ^ 30 := fun i hi => Nat.lt_trans (hsb i hi).2 (by decide)
  have hs30 : ∀ i, i < n → sp i < 2 ^ 30 := fun i hi => Nat.lt_trans (hsb i hi).1 (by decide)
  have hp30 : ∀ i, i < m → ps i < 2 ^ 30 := fun i hi => Nat.lt_trans (hPB i hi).2.2 (by decide)
  have hpc : ∀ j, j < m → pc j < 10000 := fun j hj => (hPB j hj).1
  refine x_aload_n C D_L_law_37.2.1 rfl rfl (by first | exact Or.inr ⟨_, rfl⟩ | exact va_rf_or _ | exact Or.inl rfl) ?_
  refine x_aload_n C D_L_law_37.2.2.1 rfl rfl (by first | exact Or.inr ⟨_, rfl⟩ | exact va_rf_or _ | exact Or.inl rfl) ?_
  refine x_iload C D_L_law_37.2.2.2.1 rfl ?_
  refine x_iconst C (v := nI 1) D_L_law_37.2.2.2.2.1 (by decide +kernel) ?_
  refine x_iadd C D_L_law_37.2.2.2.2.2.1 ?_
  first
  | refine x_eqi _ (nI_add _ _) ?_
  | skip
  refine x_sld C hXs hbl hbA _ rfl (by omega) hL D_L_law_37.2.2.2.2.2.2.1 ?_
  refine x_eqi _ y1 ?_
  refine x_aload_n C D_L_law_37.2.2.2.2.2.2.2.1 rfl rfl (by first | exact Or.inr ⟨_, rfl⟩ | exact va_rf_or _ | exact Or.inl rfl) ?_
  refine x_iload C D_L_law_37.2.2.2.2.2.2.2.2.1 rfl ?_
  refine x_iconst C (v := nI 2) D_L_law_37.2.2.2.2.2.2.2.2.2.1 (by decide +kernel) ?_
  refine x_iadd C D_L_law_37.2.2.2.2.2.2.2.2.2.2.1 ?_
  first
  | refine x_eqi _ (nI_add _ _) ?_
  | skip
  refine x_sld C hXs hbl hbA _ rfl (by omega) hL D_L_law_37.2.2.2.2.2.2.2.2.2.2.2 ?_
  refine x_eqi _ y2 ?_
  refine x_aload_n C D_L_law_38.1 rfl rfl (by first | exact Or.inr ⟨_, rfl⟩ | exact va_rf_or _ | exact Or.inl rfl) ?_
  refine x_callW C hX (y := yL_addPoint) (c_L_addPointG l G ow x o n m c al sp tu pt pc ps pa r d u g w k hlt hS ⟨hO.1, hO.2.1⟩ hk hal hlv) k_831 k_832 k_59 kw_addPoint hd_L_addPoint ⟨(Nat.le_of_ble_eq_true rfl), (Nat.le_of_ble_eq_true rfl)⟩ rfl (by first | exact Nat.le_of_ble_eq_true rfl | simp [x_crf, Value.category]) rfl rfl D_L_law_38.2.1 ⟨Nat.le_trans (Nat.add_le_add_left (Nat.le_of_ble_eq_true rfl : _ ≤ 20) _) (by omega), Nat.le_trans (Nat.add_le_add_left (Nat.le_of_ble_eq_true rfl : _ ≤ 400) _) (by omega)⟩ (fun r_876 S_876 h_876 => ?_)
  refine x_widen (k' := k0 + 20) (n' := n0 + 400) (Nat.add_le_add_left (Nat.le_of_ble_eq_true rfl) _) (Nat.add_le_add_left (Nat.le_of_ble_eq_true rfl) _) ?_
  obtain ⟨rfl, ow1, hF1, hS1⟩ := h_876
  obtain ⟨K1, N1, I1, Q1, J1⟩ := S_876
  have hM1 := hM.agree hF1
  have hO1 := hF1.o hO
  have hm1 : K1 mm = 9 := hM1.1.1
  have m1d : I1 mm 1 = d := hM1.2.2.2.2.1
  have m1r : I1 mm 2 = r := hM1.2.2.2.2.2.1
  have m1u : I1 mm 3 = u := hM1.2.2.2.2.2.2.1
  have m1g : I1 mm 4 = g := hM1.2.2.2.2.2.2.2.1
  have m1w : I1 mm 11 = w := hM1.2.2.2.2.2.2.2.2
  refine x_istore C (lv' := [_, _, _, _, _, _, _, _, _]) D_L_law_38.2.2.1 (Nat.le_of_ble_eq_true rfl) (by first | rfl | exact x_ok_q rfl) rfl ?_
  refine x_aload_n C D_L_law_38.2.2.2.1 rfl rfl (by first | exact Or.inr ⟨_, rfl⟩ | exact va_rf_or _ | exact Or.inl rfl) ?_
  refine x_aload_n C D_L_law_38.2.2.2.2.1 rfl rfl (by first | exact Or.inr ⟨_, rfl⟩ | exact va_rf_or _ | exact Or.inl rfl) ?_
  refine x_iload C D_L_law_38.2.2.2.2.2.1 rfl ?_
  refine x_iconst C (v := nI 1) D_L_law_38.2.2.2.2.2.2.1 (by decide +kernel) ?_
  refine x_iadd C D_L_law_38.2.2.2.2.2.2.2.1 ?_
  first
  | refine x_eqi _ (nI_add _ _) ?_
  | skip
  refine x_sld C hXs hbl hbA _ rfl (by omega) hL D_L_law_38.2.2.2.2.2.2.2.2.1 ?_
  refine x_eqi _ y1 ?_
  refine x_aload_n C D_L_law_38.2.2.2.2.2.2.2.2.2.1 rfl rfl (by first | exact Or.inr ⟨_, rfl⟩ | exact va_rf_or _ | exact Or.inl rfl) ?_
  refine x_iload C D_L_law_38.2.2.2.2.2.2.2.2.2.2.1 rfl ?_
  refine x_iconst C (v := nI 2) D_L_law_38.2.2.2.2.2.2.2.2.2.2.2 (by decide +kernel) ?_
  refine x_iadd C D_L_law_39.1 ?_
  first
  | refine x_eqi _ (nI_add _ _) ?_
  | skip
  refine x_sld C hXs hbl hbA _ rfl (by omega) hL D_L_law_39.2.1 ?_
  refine x_eqi _ y2 ?_
  refine x_callVz C (y := yX9_addPoint) (c_X9_addPointG l G mm m ar pc ps pa (pc k) k hM1.1 hM1.2.2.1 hPB (hpc k hk) (PV_some hM1.2.2.1 hPI hpc hk) hal hlv) (ci := 8) hm1 (by decide) rfl rfl k_1141 k_1142 k_1143 k_67 k_1144 hd_X9_addPoint ⟨(Nat.le_of_ble_eq_true rfl), (Nat.le_of_ble_eq_true rfl)⟩ rfl (by first | exact Nat.le_of_ble_eq_true rfl | simp [x_crf, Value.category]) rfl rfl D_L_law_39.2.2.1 ⟨Nat.le_trans (Nat.add_le_add_left (Nat.le_of_ble_eq_true rfl : _ ≤ 20) _) (by omega), Nat.le_trans (Nat.add_le_add_left (Nat.le_of_ble_eq_true rfl : _ ≤ 400) _) (by omega)⟩ (fun r_894 S_894 h_894 => ?_)
  refine x_widen (k' := k0 + 20 + 20) (n' := n0 + 400 + 400) (Nat.add_le_add_left (Nat.le_of_ble_eq_true rfl) _) (Nat.add_le_add_left (Nat.le_of_ble_eq_true rfl) _) ?_
  obtain ⟨rfl, rfl⟩ := h_894
  refine x_istore C (lv' := [_, _, _, _, _, _, _, _, _]) D_L_law_39.2.2.2.1 (Nat.le_of_ble_eq_true rfl) (by first | rfl | exact x_ok_q rfl) rfl ?_
  refine x_aload_n C D_L_law_39.2.2.2.2.1 rfl rfl (by first | exact Or.inr ⟨_, rfl⟩ | exact va_rf_or _ | exact Or.inl rfl) ?_
  refine x_callVi C (y := yX9_thrown) (c_X9_thrown l G mm hm1) (ci := 8) hm1 (by decide) rfl rfl k_962 k_963 k_964 k_67 k_965 hd_X9_thrown ⟨(Nat.le_of_ble_eq_true rfl), (Nat.le_of_ble_eq_true rfl)⟩ rfl (by first | exact Nat.le_of_ble_eq_true rfl | simp [x_crf, Value.category]) rfl rfl D_L_law_39.2.2.2.2.2.1 ⟨Nat.le_trans (Nat.add_le_add_left (Nat.le_of_ble_eq_true rfl : _ ≤ 20) _) (by omega), Nat.le_trans (Nat.add_le_add_left (Nat.le_of_ble_eq_true rfl : _ ≤ 400) _) (by omega)⟩ (fun r_900 S_900 h_900 => ?_)
  refine x_widen (k' := k0 + 20 + 20 + 20) (n' := n0 + 400 + 400 + 400) (Nat.add_le_add_left (Nat.le_of_ble_eq_true rfl) _) (Nat.add_le_add_left (Nat.le_of_ble_eq_true rfl) _) ?_
  obtain ⟨rfl, rfl⟩ := h_900
  refine x_eqi _ (show _ = nI 2 from x_u2_s _ _ _ _) ?_
  refine x_iload C D_L_law_39.2.2.2.2.2.2.1 rfl ?_
  refine x_icmp_eq C 910 D_L_law_39.2.2.2.2.2.2.2.1 (by decide) (fun c_905 => ?_) (fun c_905 => ?_)
  · skip
    refine x_iload C D_L_law_39.2.2.2.2.2.2.2.2.2.2.1 rfl ?_
    refine x_if_ne C 934 D_L_law_39.2.2.2.2.2.2.2.2.2.2.2 (by decide) (fun c_912 => ?_) (fun c_912 => ?_)
    · skip
      refine x_goto C 1254 D_L_law_41.1 (by decide) ?_
      exact x_drop9 (x_widen (by omega) (by omega) (kk _ _ (INV.q hS1 hM1 hO1 hB _)))
    · skip
      exact absurd c_912 (by decide)
      --end
  · skip
    exact absurd rfl c_905
    --end
set_option maxHeartbeats 4000000 in
set_option maxRecDepth 100000 in
theorem lc_addPointF {p : Program} {l : Launch} {ee : Env} {s : State} {mi : MethodId} {args : Array Value} {below : List Frame} {meth : Method} {cd : Code} {G : xG} {Z : State → Prop} {rt : Option FieldType} {k0 n0 bs L i x mm o : Nat} {xs : Nat → Int32} {K N : Nat → Nat} {I : Nat → Nat → Int32} {Q : Nat → Nat → Option Nat} {J : Nat → Nat → Int64} {ow : xO} {n : Nat} {c : Nat → Nat} {al : Nat → Bool} {sp tu pt : Nat → Nat} {m : Nat} {pc : Nat → Nat} {pa : Nat → Bool} {ps : Nat → Nat} {r d u g w : Int32} {ar : Nat → Nat} (C : XC p s mi args meth cd code 9 RL rt G) (hX : gX G s s.heap) (hlt : l.stackTraces = false) (hXs : va_X bs L xs s s.heap) (hbl : bs < s.heap.size) (hbA : ¬ gA G bs) (hi : i + 5 ≤ L) (hL : L ≤ 2560) (hk0 : k0 + 100 ≤ room_1.cells) (hn0 : n0 + 2000 ≤ room_1.slots) (hS : SY ow (K, N, I, Q, J) x n c al sp tu pt m pc pa ps r d u g w) (hM : KM ow (K, N, I, Q, J) mm ar n c al sp tu pt m pc pa ps r d u g w) (hO : K o = 24 ∧ N o = 1 ∧ ow o = 10) (hB : BNm n al tu m pa) (cc : Nat) (y1 : xs (i + 1) = nI (cc / 100)) (y2 : xs (i + 2) = nI (cc % 100)) (hcc : cc < 10000) (hnew : ∀ j, j < m → pc j ≠ cc) (hlv : cn pa m = 60) (kk : ∀ (ow1 : xO) (S1 : xS), INV ow1 S1 x mm o → XW p l ee room_1 s mi args below meth cd G Z (k0 + 100) (n0 + 2000) S1 1254 [some (.ref bs), some (.ref x), some (.ref mm), some (.ref o), some (.int (nI i)), none, none, none, none] []) : XW p l ee room_1 s mi args below meth cd G Z k0 n0 (K, N, I, Q, J) 862 [some (.ref bs), some (.ref x), some (.ref mm), some (.ref o), some (.int (nI i)), none, none, none, none] [] := by
  obtain ⟨hKB, hPB, hUP, hPI, hn2, hcb, hm2, hsb, hx⟩ := hS.kb
  have hx : K x = 8 := hx
  have hmm : K mm = 9 := hM.1.1
  have ht30 : ∀ i, i < n → tu i < 2 ^ 30 := fun i hi => Nat.lt_trans (hsb i hi).2 (by decide)
  have hs30 : ∀ i, i < n → sp i < 2 ^ 30 := fun i hi => Nat.lt_trans (hsb i hi).1 (by decide)
  have hp30 : ∀ i, i < m → ps i < 2 ^ 30 := fun i hi => Nat.lt_trans (hPB i hi).2.2 (by decide)
  have hpc : ∀ j, j < m → pc j < 10000 := fun j hj => (hPB j hj).1
  refine x_aload_n C D_L_law_37.2.1 rfl rfl (by first | exact Or.inr ⟨_, rfl⟩ | exact va_rf_or _ | exact Or.inl rfl) ?_
  refine x_aload_n C D_L_law_37.2.2.1 rfl rfl (by first | exact Or.inr ⟨_, rfl⟩ | exact va_rf_or _ | exact Or.inl rfl) ?_
  refine x_iload C D_L_law_37.2.2.2.1 rfl ?_
  refine x_iconst C (v := nI 1) D_L_law_37.2.2.2.2.1 (by decide +kernel) ?_
  refine x_iadd C D_L_law_37.2.2.2.2.2.1 ?_
  first
  | refine x_eqi _ (nI_add _ _) ?_
  | skip
  refine x_sld C hXs hbl hbA _ rfl (by omega) hL D_L_law_37.2.2.2.2.2.2.1 ?_
  refine x_eqi _ y1 ?_
  refine x_aload_n C D_L_law_37.2.2.2.2.2.2.2.1 rfl rfl (by first | exact Or.inr ⟨_, rfl⟩ | exact va_rf_or _ | exact Or.inl rfl) ?_
  refine x_iload C D_L_law_37.2.2.2.2.2.2.2.2.1 rfl ?_
  refine x_iconst C (v := nI 2) D_L_law_37.2.2.2.2.2.2.2.2.2.1 (by decide +kernel) ?_
  refine x_iadd C D_L_law_37.2.2.2.2.2.2.2.2.2.2.1 ?_
  first
  | refine x_eqi _ (nI_add _ _) ?_
  | skip
  refine x_sld C hXs hbl hbA _ rfl (by omega) hL D_L_law_37.2.2.2.2.2.2.2.2.2.2.2 ?_
  refine x_eqi _ y2 ?_
  refine x_aload_n C D_L_law_38.1 rfl rfl (by first | exact Or.inr ⟨_, rfl⟩ | exact va_rf_or _ | exact Or.inl rfl) ?_
  refine x_callW C hX (y := yL_addPoint) (c_L_addPointF l G ow x o n m c al sp tu pt pc ps pa r d u g w cc hlt hS ⟨hO.1, hO.2.1⟩ hcc hnew hlv) k_831 k_832 k_59 kw_addPoint hd_L_addPoint ⟨(Nat.le_of_ble_eq_true rfl), (Nat.le_of_ble_eq_true rfl)⟩ rfl (by first | exact Nat.le_of_ble_eq_true rfl | simp [x_crf, Value.category]) rfl rfl D_L_law_38.2.1 ⟨Nat.le_trans (Nat.add_le_add_left (Nat.le_of_ble_eq_true rfl : _ ≤ 20) _) (by omega), Nat.le_trans (Nat.add_le_add_left (Nat.le_of_ble_eq_true rfl : _ ≤ 400) _) (by omega)⟩ (fun r_876 S_876 h_876 => ?_)
  refine x_widen (k' := k0 + 20) (n' := n0 + 400) (Nat.add_le_add_left (Nat.le_of_ble_eq_true rfl) _) (Nat.add_le_add_left (Nat.le_of_ble_eq_true rfl) _) ?_
  obtain ⟨rfl, ow1, hF1, hS1⟩ := h_876
  obtain ⟨K1, N1, I1, Q1, J1⟩ := S_876
  have hM1 := hM.agree hF1
  have hO1 := hF1.o hO
  have hm1 : K1 mm = 9 := hM1.1.1
  have m1d : I1 mm 1 = d := hM1.2.2.2.2.1
  have m1r : I1 mm 2 = r := hM1.2.2.2.2.2.1
  have m1u : I1 mm 3 = u := hM1.2.2.2.2.2.2.1
  have m1g : I1 mm 4 = g := hM1.2.2.2.2.2.2.2.1
  have m1w : I1 mm 11 = w := hM1.2.2.2.2.2.2.2.2
  refine x_istore C (lv' := [_, _, _, _, _, _, _, _, _]) D_L_law_38.2.2.1 (Nat.le_of_ble_eq_true rfl) (by first | rfl | exact x_ok_q rfl) rfl ?_
  refine x_aload_n C D_L_law_38.2.2.2.1 rfl rfl (by first | exact Or.inr ⟨_, rfl⟩ | exact va_rf_or _ | exact Or.inl rfl) ?_
  refine x_aload_n C D_L_law_38.2.2.2.2.1 rfl rfl (by first | exact Or.inr ⟨_, rfl⟩ | exact va_rf_or _ | exact Or.inl rfl) ?_
  refine x_iload C D_L_law_38.2.2.2.2.2.1 rfl ?_
  refine x_iconst C (v := nI 1) D_L_law_38.2.2.2.2.2.2.1 (by decide +kernel) ?_
  refine x_iadd C D_L_law_38.2.2.2.2.2.2.2.1 ?_
  first
  | refine x_eqi _ (nI_add _ _) ?_
  | skip
  refine x_sld C hXs hbl hbA _ rfl (by omega) hL D_L_law_38.2.2.2.2.2.2.2.2.1 ?_
  refine x_eqi _ y1 ?_
  refine x_aload_n C D_L_law_38.2.2.2.2.2.2.2.2.2.1 rfl rfl (by first | exact Or.inr ⟨_, rfl⟩ | exact va_rf_or _ | exact Or.inl rfl) ?_
  refine x_iload C D_L_law_38.2.2.2.2.2.2.2.2.2.2.1 rfl ?_
  refine x_iconst C (v := nI 2) D_L_law_38.2.2.2.2.2.2.2.2.2.2.2 (by decide +kernel) ?_
  refine x_iadd C D_L_law_39.1 ?_
  first
  | refine x_eqi _ (nI_add _ _) ?_
  | skip
  refine x_sld C hXs hbl hbA _ rfl (by omega) hL D_L_law_39.2.1 ?_
  refine x_eqi _ y2 ?_
  refine x_callVz C (y := yX9_addPoint) (c_X9_addPointF l G mm m ar pc ps pa cc 0 hM1.1 hM1.2.2.1 hPB hcc (PV_none hM1.2.2.1 hpc hcc hnew) hlv) (ci := 8) hm1 (by decide) rfl rfl k_1141 k_1142 k_1143 k_67 k_1144 hd_X9_addPoint ⟨(Nat.le_of_ble_eq_true rfl), (Nat.le_of_ble_eq_true rfl)⟩ rfl (by first | exact Nat.le_of_ble_eq_true rfl | simp [x_crf, Value.category]) rfl rfl D_L_law_39.2.2.1 ⟨Nat.le_trans (Nat.add_le_add_left (Nat.le_of_ble_eq_true rfl : _ ≤ 20) _) (by omega), Nat.le_trans (Nat.add_le_add_left (Nat.le_of_ble_eq_true rfl : _ ≤ 400) _) (by omega)⟩ (fun r_894 S_894 h_894 => ?_)
  refine x_widen (k' := k0 + 20 + 20) (n' := n0 + 400 + 400) (Nat.add_le_add_left (Nat.le_of_ble_eq_true rfl) _) (Nat.add_le_add_left (Nat.le_of_ble_eq_true rfl) _) ?_
  obtain ⟨rfl, rfl⟩ := h_894
  refine x_istore C (lv' := [_, _, _, _, _, _, _, _, _]) D_L_law_39.2.2.2.1 (Nat.le_of_ble_eq_true rfl) (by first | rfl | exact x_ok_q rfl) rfl ?_
  refine x_aload_n C D_L_law_39.2.2.2.2.1 rfl rfl (by first | exact Or.inr ⟨_, rfl⟩ | exact va_rf_or _ | exact Or.inl rfl) ?_
  refine x_callVi C (y := yX9_thrown) (c_X9_thrown l G mm hm1) (ci := 8) hm1 (by decide) rfl rfl k_962 k_963 k_964 k_67 k_965 hd_X9_thrown ⟨(Nat.le_of_ble_eq_true rfl), (Nat.le_of_ble_eq_true rfl)⟩ rfl (by first | exact Nat.le_of_ble_eq_true rfl | simp [x_crf, Value.category]) rfl rfl D_L_law_39.2.2.2.2.2.1 ⟨Nat.le_trans (Nat.add_le_add_left (Nat.le_of_ble_eq_true rfl : _ ≤ 20) _) (by omega), Nat.le_trans (Nat.add_le_add_left (Nat.le_of_ble_eq_true rfl : _ ≤ 400) _) (by omega)⟩ (fun r_900 S_900 h_900 => ?_)
  refine x_widen (k' := k0 + 20 + 20 + 20) (n' := n0 + 400 + 400 + 400) (Nat.add_le_add_left (Nat.le_of_ble_eq_true rfl) _) (Nat.add_le_add_left (Nat.le_of_ble_eq_true rfl) _) ?_
  obtain ⟨rfl, rfl⟩ := h_900
  refine x_eqi _ (show _ = nI 2 from x_u2_s _ _ _ _) ?_
  refine x_iload C D_L_law_39.2.2.2.2.2.2.1 rfl ?_
  refine x_icmp_eq C 910 D_L_law_39.2.2.2.2.2.2.2.1 (by decide) (fun c_905 => ?_) (fun c_905 => ?_)
  · skip
    refine x_iload C D_L_law_39.2.2.2.2.2.2.2.2.2.2.1 rfl ?_
    refine x_if_ne C 934 D_L_law_39.2.2.2.2.2.2.2.2.2.2.2 (by decide) (fun c_912 => ?_) (fun c_912 => ?_)
    · skip
      refine x_goto C 1254 D_L_law_41.1 (by decide) ?_
      exact x_drop9 (x_widen (by omega) (by omega) (kk _ _ (INV.q hS1 hM1 hO1 hB _)))
    · skip
      exact absurd c_912 (by decide)
      --end
  · skip
    exact absurd rfl c_905
    --end
set_option maxHeartbeats 4000000 in
set_option maxRecDepth 100000 in
theorem lc_addPointD {p : Program} {l : Launch} {ee : Env} {s : State} {mi : MethodId} {args : Array Value} {below : List Frame} {meth : Method} {cd : Code} {G : xG} {Z : State → Prop} {rt : Option FieldType} {k0 n0 bs L i x mm o : Nat} {xs : Nat → Int32} {K N : Nat → Nat} {I : Nat → Nat → Int32} {Q : Nat → Nat → Option Nat} {J : Nat → Nat → Int64} {ow : xO} {n : Nat} {c : Nat → Nat} {al : Nat → Bool} {sp tu pt : Nat → Nat} {m : Nat} {pc : Nat → Nat} {pa : Nat → Bool} {ps : Nat → Nat} {r d u g w : Int32} {ar : Nat → Nat} (C : XC p s mi args meth cd code 9 RL rt G) (hX : gX G s s.heap) (hlt : l.stackTraces = false) (hXs : va_X bs L xs s s.heap) (hbl : bs < s.heap.size) (hbA : ¬ gA G bs) (hi : i + 5 ≤ L) (hL : L ≤ 2560) (hk0 : k0 + 100 ≤ room_1.cells) (hn0 : n0 + 2000 ≤ room_1.slots) (hS : SY ow (K, N, I, Q, J) x n c al sp tu pt m pc pa ps r d u g w) (hM : KM ow (K, N, I, Q, J) mm ar n c al sp tu pt m pc pa ps r d u g w) (hO : K o = 24 ∧ N o = 1 ∧ ow o = 10) (hB : BNm n al tu m pa) (k : Nat) (hk : k < m) (y1 : xs (i + 1) = nI (pc k / 100)) (y2 : xs (i + 2) = nI (pc k % 100)) (hal : pa k = false) (hlv : cn pa m < 60) (kk : ∀ (ow1 : xO) (S1 : xS), INV ow1 S1 x mm o → XW p l ee room_1 s mi args below meth cd G Z (k0 + 100) (n0 + 2000) S1 1254 [some (.ref bs), some (.ref x), some (.ref mm), some (.ref o), some (.int (nI i)), none, none, none, none] []) : XW p l ee room_1 s mi args below meth cd G Z k0 n0 (K, N, I, Q, J) 862 [some (.ref bs), some (.ref x), some (.ref mm), some (.ref o), some (.int (nI i)), none, none, none, none] [] := by
  obtain ⟨hKB, hPB, hUP, hPI, hn2, hcb, hm2, hsb, hx⟩ := hS.kb
  have hx : K x = 8 := hx
  have hmm : K mm = 9 := hM.1.1
  have ht30 : ∀ i, i < n → tu i < 2 ^ 30 := fun i hi => Nat.lt_trans (hsb i hi).2 (by decide)
  have hs30 : ∀ i, i < n → sp i < 2 ^ 30 := fun i hi => Nat.lt_trans (hsb i hi).1 (by decide)
  have hp30 : ∀ i, i < m → ps i < 2 ^ 30 := fun i hi => Nat.lt_trans (hPB i hi).2.2 (by decide)
  have hpc : ∀ j, j < m → pc j < 10000 := fun j hj => (hPB j hj).1
  refine x_aload_n C D_L_law_37.2.1 rfl rfl (by first | exact Or.inr ⟨_, rfl⟩ | exact va_rf_or _ | exact Or.inl rfl) ?_
  refine x_aload_n C D_L_law_37.2.2.1 rfl rfl (by first | exact Or.inr ⟨_, rfl⟩ | exact va_rf_or _ | exact Or.inl rfl) ?_
  refine x_iload C D_L_law_37.2.2.2.1 rfl ?_
  refine x_iconst C (v := nI 1) D_L_law_37.2.2.2.2.1 (by decide +kernel) ?_
  refine x_iadd C D_L_law_37.2.2.2.2.2.1 ?_
  first
  | refine x_eqi _ (nI_add _ _) ?_
  | skip
  refine x_sld C hXs hbl hbA _ rfl (by omega) hL D_L_law_37.2.2.2.2.2.2.1 ?_
  refine x_eqi _ y1 ?_
  refine x_aload_n C D_L_law_37.2.2.2.2.2.2.2.1 rfl rfl (by first | exact Or.inr ⟨_, rfl⟩ | exact va_rf_or _ | exact Or.inl rfl) ?_
  refine x_iload C D_L_law_37.2.2.2.2.2.2.2.2.1 rfl ?_
  refine x_iconst C (v := nI 2) D_L_law_37.2.2.2.2.2.2.2.2.2.1 (by decide +kernel) ?_
  refine x_iadd C D_L_law_37.2.2.2.2.2.2.2.2.2.2.1 ?_
  first
  | refine x_eqi _ (nI_add _ _) ?_
  | skip
  refine x_sld C hXs hbl hbA _ rfl (by omega) hL D_L_law_37.2.2.2.2.2.2.2.2.2.2.2 ?_
  refine x_eqi _ y2 ?_
  refine x_aload_n C D_L_law_38.1 rfl rfl (by first | exact Or.inr ⟨_, rfl⟩ | exact va_rf_or _ | exact Or.inl rfl) ?_
  refine x_callW C hX (y := yL_addPoint) (c_L_addPointD l G ow x o n m c al sp tu pt pc ps pa r d u g w k hlt hS ⟨hO.1, hO.2.1⟩ hk hal hlv) k_831 k_832 k_59 kw_addPoint hd_L_addPoint ⟨(Nat.le_of_ble_eq_true rfl), (Nat.le_of_ble_eq_true rfl)⟩ rfl (by first | exact Nat.le_of_ble_eq_true rfl | simp [x_crf, Value.category]) rfl rfl D_L_law_38.2.1 ⟨Nat.le_trans (Nat.add_le_add_left (Nat.le_of_ble_eq_true rfl : _ ≤ 20) _) (by omega), Nat.le_trans (Nat.add_le_add_left (Nat.le_of_ble_eq_true rfl : _ ≤ 400) _) (by omega)⟩ (fun r_876 S_876 h_876 => ?_)
  refine x_widen (k' := k0 + 20) (n' := n0 + 400) (Nat.add_le_add_left (Nat.le_of_ble_eq_true rfl) _) (Nat.add_le_add_left (Nat.le_of_ble_eq_true rfl) _) ?_
  obtain ⟨rfl, S0, J2, rfl, eJ2, ow1, hF1, hS1⟩ := h_876
  obtain ⟨K1, N1, I1, Q1, J1⟩ := S0
  have hM1 := (hM.agree hF1).J (J1 := J2)
  have hS1 := hS1.J (J1 := J2)
  have hO1 := hF1.o hO
  have hm1 : K1 mm = 9 := hM1.1.1
  have ko1 : K1 o = 24 := hO1.1
  have no1 : N1 o = 1 := hO1.2.1
  have m1d : I1 mm 1 = d := hM1.2.2.2.2.1
  have m1r : I1 mm 2 = r := hM1.2.2.2.2.2.1
  have m1u : I1 mm 3 = u := hM1.2.2.2.2.2.2.1
  have m1g : I1 mm 4 = g := hM1.2.2.2.2.2.2.2.1
  have m1w : I1 mm 11 = w := hM1.2.2.2.2.2.2.2.2
  refine x_istore C (lv' := [_, _, _, _, _, _, _, _, _]) D_L_law_38.2.2.1 (Nat.le_of_ble_eq_true rfl) (by first | rfl | exact x_ok_q rfl) rfl ?_
  refine x_aload_n C D_L_law_38.2.2.2.1 rfl rfl (by first | exact Or.inr ⟨_, rfl⟩ | exact va_rf_or _ | exact Or.inl rfl) ?_
  refine x_aload_n C D_L_law_38.2.2.2.2.1 rfl rfl (by first | exact Or.inr ⟨_, rfl⟩ | exact va_rf_or _ | exact Or.inl rfl) ?_
  refine x_iload C D_L_law_38.2.2.2.2.2.1 rfl ?_
  refine x_iconst C (v := nI 1) D_L_law_38.2.2.2.2.2.2.1 (by decide +kernel) ?_
  refine x_iadd C D_L_law_38.2.2.2.2.2.2.2.1 ?_
  first
  | refine x_eqi _ (nI_add _ _) ?_
  | skip
  refine x_sld C hXs hbl hbA _ rfl (by omega) hL D_L_law_38.2.2.2.2.2.2.2.2.1 ?_
  refine x_eqi _ y1 ?_
  refine x_aload_n C D_L_law_38.2.2.2.2.2.2.2.2.2.1 rfl rfl (by first | exact Or.inr ⟨_, rfl⟩ | exact va_rf_or _ | exact Or.inl rfl) ?_
  refine x_iload C D_L_law_38.2.2.2.2.2.2.2.2.2.2.1 rfl ?_
  refine x_iconst C (v := nI 2) D_L_law_38.2.2.2.2.2.2.2.2.2.2.2 (by decide +kernel) ?_
  refine x_iadd C D_L_law_39.1 ?_
  first
  | refine x_eqi _ (nI_add _ _) ?_
  | skip
  refine x_sld C hXs hbl hbA _ rfl (by omega) hL D_L_law_39.2.1 ?_
  refine x_eqi _ y2 ?_
  refine x_callVz C (y := yX9_addPoint) (c_X9_addPointD l G mm m ar pc ps pa (pc k) k hM1.1 hM1.2.2.1 hPB (hpc k hk) (PV_some hM1.2.2.1 hPI hpc hk) hal hlv) (ci := 8) hm1 (by decide) rfl rfl k_1141 k_1142 k_1143 k_67 k_1144 hd_X9_addPoint ⟨(Nat.le_of_ble_eq_true rfl), (Nat.le_of_ble_eq_true rfl)⟩ rfl (by first | exact Nat.le_of_ble_eq_true rfl | simp [x_crf, Value.category]) rfl rfl D_L_law_39.2.2.1 ⟨Nat.le_trans (Nat.add_le_add_left (Nat.le_of_ble_eq_true rfl : _ ≤ 20) _) (by omega), Nat.le_trans (Nat.add_le_add_left (Nat.le_of_ble_eq_true rfl : _ ≤ 400) _) (by omega)⟩ (fun r_894 S_894 h_894 => ?_)
  refine x_widen (k' := k0 + 20 + 20) (n' := n0 + 400 + 400) (Nat.add_le_add_left (Nat.le_of_ble_eq_true rfl) _) (Nat.add_le_add_left (Nat.le_of_ble_eq_true rfl) _) ?_
  obtain ⟨rfl, I2, rfl, kv2, fr2, e18, hj2⟩ := h_894
  refine x_istore C (lv' := [_, _, _, _, _, _, _, _, _]) D_L_law_39.2.2.2.1 (Nat.le_of_ble_eq_true rfl) (by first | rfl | exact x_ok_q rfl) rfl ?_
  refine x_aload_n C D_L_law_39.2.2.2.2.1 rfl rfl (by first | exact Or.inr ⟨_, rfl⟩ | exact va_rf_or _ | exact Or.inl rfl) ?_
  refine x_callVi C (y := yX9_thrown) (c_X9_thrown l G mm hm1) (ci := 8) hm1 (by decide) rfl rfl k_962 k_963 k_964 k_67 k_965 hd_X9_thrown ⟨(Nat.le_of_ble_eq_true rfl), (Nat.le_of_ble_eq_true rfl)⟩ rfl (by first | exact Nat.le_of_ble_eq_true rfl | simp [x_crf, Value.category]) rfl rfl D_L_law_39.2.2.2.2.2.1 ⟨Nat.le_trans (Nat.add_le_add_left (Nat.le_of_ble_eq_true rfl : _ ≤ 20) _) (by omega), Nat.le_trans (Nat.add_le_add_left (Nat.le_of_ble_eq_true rfl : _ ≤ 400) _) (by omega)⟩ (fun r_900 S_900 h_900 => ?_)
  refine x_widen (k' := k0 + 20 + 20 + 20) (n' := n0 + 400 + 400 + 400) (Nat.add_le_add_left (Nat.le_of_ble_eq_true rfl) _) (Nat.add_le_add_left (Nat.le_of_ble_eq_true rfl) _) ?_
  obtain ⟨rfl, rfl⟩ := h_900
  refine x_eqi _ (show _ = nI 0 from e18) ?_
  refine x_iload C D_L_law_39.2.2.2.2.2.2.1 rfl ?_
  refine x_icmp_eq C 910 D_L_law_39.2.2.2.2.2.2.2.1 (by decide) (fun c_905 => ?_) (fun c_905 => ?_)
  · skip
    refine x_iload C D_L_law_39.2.2.2.2.2.2.2.2.2.2.1 rfl ?_
    refine x_if_ne C 934 D_L_law_39.2.2.2.2.2.2.2.2.2.2.2 (by decide) (fun c_912 => ?_) (fun c_912 => ?_)
    · skip
      exact absurd rfl c_912
      --end
    · skip
      refine x_aload_n C D_L_law_40.1 rfl rfl (by first | exact Or.inr ⟨_, rfl⟩ | exact va_rf_or _ | exact Or.inl rfl) ?_
      refine x_iconst C (v := nI 0) D_L_law_40.2.1 (by decide +kernel) ?_
      refine x_lald C 0 ko1 rfl (by omega) (by omega) D_L_law_40.2.2.1 ?_
      refine x_eql _ (show J2 o 0 = _ by rw [eJ2, x_u2_s]) ?_
      refine x_iload C D_L_law_40.2.2.2.1 rfl ?_
      refine x_if_eq C 927 D_L_law_40.2.2.2.2.1 (by decide) (fun c_920 => ?_) (fun c_920 => ?_)
      · skip
        exact absurd c_920 (by decide)
        --end
      · skip
        refine x_lconst C (v := 1) D_L_law_40.2.2.2.2.2.1 (by decide +kernel) ?_
        refine x_goto C 928 D_L_law_40.2.2.2.2.2.2.1 (by decide) ?_
        refine x_lcmp C D_L_law_40.2.2.2.2.2.2.2.2.1 ?_
        refine x_eqi _ (lg_self _) ?_
        refine x_if_eq C 934 D_L_law_40.2.2.2.2.2.2.2.2.2.1 (by decide) (fun c_929 => ?_) (fun c_929 => ?_)
        · skip
          refine x_goto C 1254 D_L_law_41.1 (by decide) ?_
          exact x_drop9 (x_widen (by omega) (by omega) (kk _ _ (INV.mk (hS1.fr9 (fr9_pts hM1 fr2)) (hM1.pts kv2 fr2 (fun z a _ _ => hj2 z a) ((hj2 11 (by omega)).trans m1w)) hO1 (hB.ptD hk hal hlv))))
        · skip
          exact absurd rfl c_929
          --end
  · skip
    exact absurd rfl c_905
    --end
set_option maxHeartbeats 4000000 in
set_option maxRecDepth 100000 in
theorem lc_addPointN {p : Program} {l : Launch} {ee : Env} {s : State} {mi : MethodId} {args : Array Value} {below : List Frame} {meth : Method} {cd : Code} {G : xG} {Z : State → Prop} {rt : Option FieldType} {k0 n0 bs L i x mm o : Nat} {xs : Nat → Int32} {K N : Nat → Nat} {I : Nat → Nat → Int32} {Q : Nat → Nat → Option Nat} {J : Nat → Nat → Int64} {ow : xO} {n : Nat} {c : Nat → Nat} {al : Nat → Bool} {sp tu pt : Nat → Nat} {m : Nat} {pc : Nat → Nat} {pa : Nat → Bool} {ps : Nat → Nat} {r d u g w : Int32} {ar : Nat → Nat} (C : XC p s mi args meth cd code 9 RL rt G) (hX : gX G s s.heap) (hlt : l.stackTraces = false) (hXs : va_X bs L xs s s.heap) (hbl : bs < s.heap.size) (hbA : ¬ gA G bs) (hi : i + 5 ≤ L) (hL : L ≤ 2560) (hk0 : k0 + 100 ≤ room_1.cells) (hn0 : n0 + 2000 ≤ room_1.slots) (hS : SY ow (K, N, I, Q, J) x n c al sp tu pt m pc pa ps r d u g w) (hM : KM ow (K, N, I, Q, J) mm ar n c al sp tu pt m pc pa ps r d u g w) (hO : K o = 24 ∧ N o = 1 ∧ ow o = 10) (hB : BNm n al tu m pa) (cc : Nat) (y1 : xs (i + 1) = nI (cc / 100)) (y2 : xs (i + 2) = nI (cc % 100)) (hcc : cc < 10000) (hnew : ∀ j, j < m → pc j ≠ cc) (hlv : cn pa m < 60) (kk : ∀ (ow1 : xO) (S1 : xS), INV ow1 S1 x mm o → XW p l ee room_1 s mi args below meth cd G Z (k0 + 100) (n0 + 2000) S1 1254 [some (.ref bs), some (.ref x), some (.ref mm), some (.ref o), some (.int (nI i)), none, none, none, none] []) : XW p l ee room_1 s mi args below meth cd G Z k0 n0 (K, N, I, Q, J) 862 [some (.ref bs), some (.ref x), some (.ref mm), some (.ref o), some (.int (nI i)), none, none, none, none] [] := by
  obtain ⟨hKB, hPB, hUP, hPI, hn2, hcb, hm2, hsb, hx⟩ := hS.kb
  have hx : K x = 8 := hx
  have hmm : K mm = 9 := hM.1.1
  have ht30 : ∀ i, i < n → tu i < 2 ^ 30 := fun i hi => Nat.lt_trans (hsb i hi).2 (by decide)
  have hs30 : ∀ i, i < n → sp i < 2 ^ 30 := fun i hi => Nat.lt_trans (hsb i hi).1 (by decide)
  have hp30 : ∀ i, i < m → ps i < 2 ^ 30 := fun i hi => Nat.lt_trans (hPB i hi).2.2 (by decide)
  have hpc : ∀ j, j < m → pc j < 10000 := fun j hj => (hPB j hj).1
  obtain ⟨⟨t7, H7⟩, ⟨t1, H1⟩, ⟨t5, H5⟩⟩ := hS.k7
  have H5l := H5.leaf hm2 hcc hnew
  refine x_aload_n C D_L_law_37.2.1 rfl rfl (by first | exact Or.inr ⟨_, rfl⟩ | exact va_rf_or _ | exact Or.inl rfl) ?_
  refine x_aload_n C D_L_law_37.2.2.1 rfl rfl (by first | exact Or.inr ⟨_, rfl⟩ | exact va_rf_or _ | exact Or.inl rfl) ?_
  refine x_iload C D_L_law_37.2.2.2.1 rfl ?_
  refine x_iconst C (v := nI 1) D_L_law_37.2.2.2.2.1 (by decide +kernel) ?_
  refine x_iadd C D_L_law_37.2.2.2.2.2.1 ?_
  first
  | refine x_eqi _ (nI_add _ _) ?_
  | skip
  refine x_sld C hXs hbl hbA _ rfl (by omega) hL D_L_law_37.2.2.2.2.2.2.1 ?_
  refine x_eqi _ y1 ?_
  refine x_aload_n C D_L_law_37.2.2.2.2.2.2.2.1 rfl rfl (by first | exact Or.inr ⟨_, rfl⟩ | exact va_rf_or _ | exact Or.inl rfl) ?_
  refine x_iload C D_L_law_37.2.2.2.2.2.2.2.2.1 rfl ?_
  refine x_iconst C (v := nI 2) D_L_law_37.2.2.2.2.2.2.2.2.2.1 (by decide +kernel) ?_
  refine x_iadd C D_L_law_37.2.2.2.2.2.2.2.2.2.2.1 ?_
  first
  | refine x_eqi _ (nI_add _ _) ?_
  | skip
  refine x_sld C hXs hbl hbA _ rfl (by omega) hL D_L_law_37.2.2.2.2.2.2.2.2.2.2.2 ?_
  refine x_eqi _ y2 ?_
  refine x_aload_n C D_L_law_38.1 rfl rfl (by first | exact Or.inr ⟨_, rfl⟩ | exact va_rf_or _ | exact Or.inl rfl) ?_
  refine x_callW C hX (y := yL_addPoint) (c_L_addPointN l G ow x o n m c al sp tu pt pc ps pa r d u g w cc hlt hS ⟨hO.1, hO.2.1⟩ hcc hnew hlv hB.2.2.2.1) k_831 k_832 k_59 kw_addPoint hd_L_addPoint ⟨(Nat.le_of_ble_eq_true rfl), (Nat.le_of_ble_eq_true rfl)⟩ rfl (by first | exact Nat.le_of_ble_eq_true rfl | simp [x_crf, Value.category]) rfl rfl D_L_law_38.2.1 ⟨Nat.le_trans (Nat.add_le_add_left (Nat.le_of_ble_eq_true rfl : _ ≤ 20) _) (by omega), Nat.le_trans (Nat.add_le_add_left (Nat.le_of_ble_eq_true rfl : _ ≤ 400) _) (by omega)⟩ (fun r_876 S_876 h_876 => ?_)
  refine x_widen (k' := k0 + 20) (n' := n0 + 400) (Nat.add_le_add_left (Nat.le_of_ble_eq_true rfl) _) (Nat.add_le_add_left (Nat.le_of_ble_eq_true rfl) _) ?_
  obtain ⟨rfl, S0, J2, rfl, eJ2, ow1, OP, PS, hF1, hPX, hS1⟩ := h_876
  obtain ⟨K1, N1, I1, Q1, J1⟩ := S0
  have hM1 := (hM.agree hF1).J (J1 := J2)
  have hS1 := hS1.J (J1 := J2)
  have hO1 := hF1.o hO
  have hm1 : K1 mm = 9 := hM1.1.1
  have ko1 : K1 o = 24 := hO1.1
  have no1 : N1 o = 1 := hO1.2.1
  have m1d : I1 mm 1 = d := hM1.2.2.2.2.1
  have m1r : I1 mm 2 = r := hM1.2.2.2.2.2.1
  have m1u : I1 mm 3 = u := hM1.2.2.2.2.2.2.1
  have m1g : I1 mm 4 = g := hM1.2.2.2.2.2.2.2.1
  have m1w : I1 mm 11 = w := hM1.2.2.2.2.2.2.2.2
  refine x_istore C (lv' := [_, _, _, _, _, _, _, _, _]) D_L_law_38.2.2.1 (Nat.le_of_ble_eq_true rfl) (by first | rfl | exact x_ok_q rfl) rfl ?_
  refine x_aload_n C D_L_law_38.2.2.2.1 rfl rfl (by first | exact Or.inr ⟨_, rfl⟩ | exact va_rf_or _ | exact Or.inl rfl) ?_
  refine x_aload_n C D_L_law_38.2.2.2.2.1 rfl rfl (by first | exact Or.inr ⟨_, rfl⟩ | exact va_rf_or _ | exact Or.inl rfl) ?_
  refine x_iload C D_L_law_38.2.2.2.2.2.1 rfl ?_
  refine x_iconst C (v := nI 1) D_L_law_38.2.2.2.2.2.2.1 (by decide +kernel) ?_
  refine x_iadd C D_L_law_38.2.2.2.2.2.2.2.1 ?_
  first
  | refine x_eqi _ (nI_add _ _) ?_
  | skip
  refine x_sld C hXs hbl hbA _ rfl (by omega) hL D_L_law_38.2.2.2.2.2.2.2.2.1 ?_
  refine x_eqi _ y1 ?_
  refine x_aload_n C D_L_law_38.2.2.2.2.2.2.2.2.2.1 rfl rfl (by first | exact Or.inr ⟨_, rfl⟩ | exact va_rf_or _ | exact Or.inl rfl) ?_
  refine x_iload C D_L_law_38.2.2.2.2.2.2.2.2.2.2.1 rfl ?_
  refine x_iconst C (v := nI 2) D_L_law_38.2.2.2.2.2.2.2.2.2.2.2 (by decide +kernel) ?_
  refine x_iadd C D_L_law_39.1 ?_
  first
  | refine x_eqi _ (nI_add _ _) ?_
  | skip
  refine x_sld C hXs hbl hbA _ rfl (by omega) hL D_L_law_39.2.1 ?_
  refine x_eqi _ y2 ?_
  refine x_callVz C (y := yX9_addPoint) (c_X9_addPointN l G mm m ar pc ps pa cc (hplX m pc ps cc) 8 OP PS hM1.1 hM1.2.2.1 hPB hm2 hcc (PV_none hM1.2.2.1 hpc hcc hnew) hlv H5l.1 H5l.2 hPX) (ci := 8) hm1 (by decide) rfl rfl k_1141 k_1142 k_1143 k_67 k_1144 hd_X9_addPoint ⟨(Nat.le_of_ble_eq_true rfl), (Nat.le_of_ble_eq_true rfl)⟩ rfl (by first | exact Nat.le_of_ble_eq_true rfl | simp [x_crf, Value.category]) rfl rfl D_L_law_39.2.2.1 ⟨Nat.le_trans (Nat.add_le_add_left (Nat.le_of_ble_eq_true rfl : _ ≤ 20) _) (by omega), Nat.le_trans (Nat.add_le_add_left (Nat.le_of_ble_eq_true rfl : _ ≤ 400) _) (by omega)⟩ (fun r_894 S_894 h_894 => ?_)
  refine x_widen (k' := k0 + 20 + 20) (n' := n0 + 400 + 400) (Nat.add_le_add_left (Nat.le_of_ble_eq_true rfl) _) (Nat.add_le_add_left (Nat.le_of_ble_eq_true rfl) _) ?_
  obtain ⟨rfl, I2, rfl, kv2, fr2, e18, e11, hj2⟩ := h_894
  refine x_istore C (lv' := [_, _, _, _, _, _, _, _, _]) D_L_law_39.2.2.2.1 (Nat.le_of_ble_eq_true rfl) (by first | rfl | exact x_ok_q rfl) rfl ?_
  refine x_aload_n C D_L_law_39.2.2.2.2.1 rfl rfl (by first | exact Or.inr ⟨_, rfl⟩ | exact va_rf_or _ | exact Or.inl rfl) ?_
  refine x_callVi C (y := yX9_thrown) (c_X9_thrown l G mm hm1) (ci := 8) hm1 (by decide) rfl rfl k_962 k_963 k_964 k_67 k_965 hd_X9_thrown ⟨(Nat.le_of_ble_eq_true rfl), (Nat.le_of_ble_eq_true rfl)⟩ rfl (by first | exact Nat.le_of_ble_eq_true rfl | simp [x_crf, Value.category]) rfl rfl D_L_law_39.2.2.2.2.2.1 ⟨Nat.le_trans (Nat.add_le_add_left (Nat.le_of_ble_eq_true rfl : _ ≤ 20) _) (by omega), Nat.le_trans (Nat.add_le_add_left (Nat.le_of_ble_eq_true rfl : _ ≤ 400) _) (by omega)⟩ (fun r_900 S_900 h_900 => ?_)
  refine x_widen (k' := k0 + 20 + 20 + 20) (n' := n0 + 400 + 400 + 400) (Nat.add_le_add_left (Nat.le_of_ble_eq_true rfl) _) (Nat.add_le_add_left (Nat.le_of_ble_eq_true rfl) _) ?_
  obtain ⟨rfl, rfl⟩ := h_900
  refine x_eqi _ (show _ = nI 0 from e18) ?_
  refine x_iload C D_L_law_39.2.2.2.2.2.2.1 rfl ?_
  refine x_icmp_eq C 910 D_L_law_39.2.2.2.2.2.2.2.1 (by decide) (fun c_905 => ?_) (fun c_905 => ?_)
  · skip
    refine x_iload C D_L_law_39.2.2.2.2.2.2.2.2.2.2.1 rfl ?_
    refine x_if_ne C 934 D_L_law_39.2.2.2.2.2.2.2.2.2.2.2 (by decide) (fun c_912 => ?_) (fun c_912 => ?_)
    · skip
      exact absurd rfl c_912
      --end
    · skip
      refine x_aload_n C D_L_law_40.1 rfl rfl (by first | exact Or.inr ⟨_, rfl⟩ | exact va_rf_or _ | exact Or.inl rfl) ?_
      refine x_iconst C (v := nI 0) D_L_law_40.2.1 (by decide +kernel) ?_
      refine x_lald C 0 ko1 rfl (by omega) (by omega) D_L_law_40.2.2.1 ?_
      refine x_eql _ (show J2 o 0 = _ by rw [eJ2, x_u2_s]) ?_
      refine x_iload C D_L_law_40.2.2.2.1 rfl ?_
      refine x_if_eq C 927 D_L_law_40.2.2.2.2.1 (by decide) (fun c_920 => ?_) (fun c_920 => ?_)
      · skip
        exact absurd c_920 (by decide)
        --end
      · skip
        refine x_lconst C (v := 1) D_L_law_40.2.2.2.2.2.1 (by decide +kernel) ?_
        refine x_goto C 928 D_L_law_40.2.2.2.2.2.2.1 (by decide) ?_
        refine x_lcmp C D_L_law_40.2.2.2.2.2.2.2.2.1 ?_
        refine x_eqi _ (lg_self _) ?_
        refine x_if_eq C 934 D_L_law_40.2.2.2.2.2.2.2.2.2.1 (by decide) (fun c_929 => ?_) (fun c_929 => ?_)
        · skip
          refine x_goto C 1254 D_L_law_41.1 (by decide) ?_
          exact x_drop9 (x_widen (by omega) (by omega) (kk _ _ (INV.mk (hS1.fr9 (fr9_pts hM1 fr2)) (hM1.pts kv2 fr2 (fun z a b c9 => hj2 z a b c9) (e11.trans (congrArg (fun z => z + _) m1w))) hO1 (hB.ptN hlv))))
        · skip
          exact absurd rfl c_929
          --end
  · skip
    exact absurd rfl c_905
    --end
theorem hd_X8_removePoint : yX8_removePoint.cls ≠ "java/lang/invoke/MethodHandle" ∧ yX8_removePoint.cls ≠ "java/lang/invoke/VarHandle" ∧ (parseMethodDescriptor yX8_removePoint.desc).map (fun d => d.parameters.length) = some 2 := by decide +kernel
theorem hd_X9_removePoint : yX9_removePoint.cls ≠ "java/lang/invoke/MethodHandle" ∧ yX9_removePoint.cls ≠ "java/lang/invoke/VarHandle" ∧ (parseMethodDescriptor yX9_removePoint.desc).map (fun d => d.parameters.length) = some 2 := by decide +kernel
set_option maxHeartbeats 4000000 in
set_option maxRecDepth 100000 in
theorem lc_removePointR {p : Program} {l : Launch} {ee : Env} {s : State} {mi : MethodId} {args : Array Value} {below : List Frame} {meth : Method} {cd : Code} {G : xG} {Z : State → Prop} {rt : Option FieldType} {k0 n0 bs L i x mm o : Nat} {xs : Nat → Int32} {K N : Nat → Nat} {I : Nat → Nat → Int32} {Q : Nat → Nat → Option Nat} {J : Nat → Nat → Int64} {ow : xO} {n : Nat} {c : Nat → Nat} {al : Nat → Bool} {sp tu pt : Nat → Nat} {m : Nat} {pc : Nat → Nat} {pa : Nat → Bool} {ps : Nat → Nat} {r d u g w : Int32} {ar : Nat → Nat} (C : XC p s mi args meth cd code 9 RL rt G) (hX : gX G s s.heap) (hlt : l.stackTraces = false) (hXs : va_X bs L xs s s.heap) (hbl : bs < s.heap.size) (hbA : ¬ gA G bs) (hi : i + 5 ≤ L) (hL : L ≤ 2560) (hk0 : k0 + 100 ≤ room_1.cells) (hn0 : n0 + 2000 ≤ room_1.slots) (hS : SY ow (K, N, I, Q, J) x n c al sp tu pt m pc pa ps r d u g w) (hM : KM ow (K, N, I, Q, J) mm ar n c al sp tu pt m pc pa ps r d u g w) (hO : K o = 24 ∧ N o = 1 ∧ ow o = 10) (hB : BNm n al tu m pa) (hyz : xs (i + 1) < 0 ∨ nI 99 < xs (i + 1) ∨ xs (i + 2) < 0 ∨ nI 99 < xs (i + 2)) (kk : ∀ (ow1 : xO) (S1 : xS), INV ow1 S1 x mm o → XW p l ee room_1 s mi args below meth cd G Z (k0 + 100) (n0 + 2000) S1 1254 [some (.ref bs), some (.ref x), some (.ref mm), some (.ref o), some (.int (nI i)), none, none, none, none] []) : XW p l ee room_1 s mi args below meth cd G Z k0 n0 (K, N, I, Q, J) 937 [some (.ref bs), some (.ref x), some (.ref mm), some (.ref o), some (.int (nI i)), none, none, none, none] [] := by
  obtain ⟨hKB, hPB, hUP, hPI, hn2, hcb, hm2, hsb, hx⟩ := hS.kb
  have hx : K x = 8 := hx
  have hmm : K mm = 9 := hM.1.1
  have ht30 : ∀ i, i < n → tu i < 2 ^ 30 := fun i hi => Nat.lt_trans (hsb i hi).2 (by decide)
  have hs30 : ∀ i, i < n → sp i < 2 ^ 30 := fun i hi => Nat.lt_trans (hsb i hi).1 (by decide)
  have hp30 : ∀ i, i < m → ps i < 2 ^ 30 := fun i hi => Nat.lt_trans (hPB i hi).2.2 (by decide)
  have hpc : ∀ j, j < m → pc j < 10000 := fun j hj => (hPB j hj).1
  refine x_aload_n C D_L_law_41.2.1 rfl rfl (by first | exact Or.inr ⟨_, rfl⟩ | exact va_rf_or _ | exact Or.inl rfl) ?_
  refine x_aload_n C D_L_law_41.2.2.1 rfl rfl (by first | exact Or.inr ⟨_, rfl⟩ | exact va_rf_or _ | exact Or.inl rfl) ?_
  refine x_iload C D_L_law_41.2.2.2.1 rfl ?_
  refine x_iconst C (v := nI 1) D_L_law_41.2.2.2.2.1 (by decide +kernel) ?_
  refine x_iadd C D_L_law_41.2.2.2.2.2.1 ?_
  first
  | refine x_eqi _ (nI_add _ _) ?_
  | skip
  refine x_sld C hXs hbl hbA _ rfl (by omega) hL D_L_law_41.2.2.2.2.2.2.1 ?_
  refine x_aload_n C D_L_law_41.2.2.2.2.2.2.2.1 rfl rfl (by first | exact Or.inr ⟨_, rfl⟩ | exact va_rf_or _ | exact Or.inl rfl) ?_
  refine x_iload C D_L_law_41.2.2.2.2.2.2.2.2.1 rfl ?_
  refine x_iconst C (v := nI 2) D_L_law_41.2.2.2.2.2.2.2.2.2.1 (by decide +kernel) ?_
  refine x_iadd C D_L_law_41.2.2.2.2.2.2.2.2.2.2.1 ?_
  first
  | refine x_eqi _ (nI_add _ _) ?_
  | skip
  refine x_sld C hXs hbl hbA _ rfl (by omega) hL D_L_law_41.2.2.2.2.2.2.2.2.2.2.2 ?_
  refine x_callVz C (y := yX8_removePoint) (c_X8_removePointR l G ow x n m c al sp tu pt pc ps pa r d u g w (xs (i + 1)) (xs (i + 2)) hS hyz) (ci := 7) (by assumption) (by decide) rfl rfl k_448 k_449 k_450 k_60 k_451 hd_X8_removePoint ⟨(Nat.le_of_ble_eq_true rfl), (Nat.le_of_ble_eq_true rfl)⟩ rfl (by first | exact Nat.le_of_ble_eq_true rfl | simp [x_crf, Value.category]) rfl rfl D_L_law_42.1 ⟨Nat.le_trans (Nat.add_le_add_left (Nat.le_of_ble_eq_true rfl : _ ≤ 20) _) (by omega), Nat.le_trans (Nat.add_le_add_left (Nat.le_of_ble_eq_true rfl : _ ≤ 400) _) (by omega)⟩ (fun r_950 S_950 h_950 => ?_)
  refine x_widen (k' := k0 + 20) (n' := n0 + 400) (Nat.add_le_add_left (Nat.le_of_ble_eq_true rfl) _) (Nat.add_le_add_left (Nat.le_of_ble_eq_true rfl) _) ?_
  obtain ⟨rfl, ow1, hF1, hS1⟩ := h_950
  obtain ⟨K1, N1, I1, Q1, J1⟩ := S_950
  have hM1 := hM.agree hF1
  have hO1 := hF1.o hO
  have hm1 : K1 mm = 9 := hM1.1.1
  have m1d : I1 mm 1 = d := hM1.2.2.2.2.1
  have m1r : I1 mm 2 = r := hM1.2.2.2.2.2.1
  have m1u : I1 mm 3 = u := hM1.2.2.2.2.2.2.1
  have m1g : I1 mm 4 = g := hM1.2.2.2.2.2.2.2.1
  have m1w : I1 mm 11 = w := hM1.2.2.2.2.2.2.2.2
  refine x_aload_n C D_L_law_42.2.1 rfl rfl (by first | exact Or.inr ⟨_, rfl⟩ | exact va_rf_or _ | exact Or.inl rfl) ?_
  refine x_aload_n C D_L_law_42.2.2.1 rfl rfl (by first | exact Or.inr ⟨_, rfl⟩ | exact va_rf_or _ | exact Or.inl rfl) ?_
  refine x_iload C D_L_law_42.2.2.2.1 rfl ?_
  refine x_iconst C (v := nI 1) D_L_law_42.2.2.2.2.1 (by decide +kernel) ?_
  refine x_iadd C D_L_law_42.2.2.2.2.2.1 ?_
  first
  | refine x_eqi _ (nI_add _ _) ?_
  | skip
  refine x_sld C hXs hbl hbA _ rfl (by omega) hL D_L_law_42.2.2.2.2.2.2.1 ?_
  refine x_aload_n C D_L_law_42.2.2.2.2.2.2.2.1 rfl rfl (by first | exact Or.inr ⟨_, rfl⟩ | exact va_rf_or _ | exact Or.inl rfl) ?_
  refine x_iload C D_L_law_42.2.2.2.2.2.2.2.2.1 rfl ?_
  refine x_iconst C (v := nI 2) D_L_law_42.2.2.2.2.2.2.2.2.2.1 (by decide +kernel) ?_
  refine x_iadd C D_L_law_42.2.2.2.2.2.2.2.2.2.2.1 ?_
  first
  | refine x_eqi _ (nI_add _ _) ?_
  | skip
  refine x_sld C hXs hbl hbA _ rfl (by omega) hL D_L_law_42.2.2.2.2.2.2.2.2.2.2.2 ?_
  refine x_callVz C (y := yX9_removePoint) (c_X9_removePointN l G mm m ar pc ps pa (xs (i + 1)) (xs (i + 2)) hM1.1 hM1.2.2.1 (PV_range hM1.2.2.1 hpc hyz)) (ci := 8) hm1 (by decide) rfl rfl k_1176 k_1177 k_1178 k_67 k_1179 hd_X9_removePoint ⟨(Nat.le_of_ble_eq_true rfl), (Nat.le_of_ble_eq_true rfl)⟩ rfl (by first | exact Nat.le_of_ble_eq_true rfl | simp [x_crf, Value.category]) rfl rfl D_L_law_43.1 ⟨Nat.le_trans (Nat.add_le_add_left (Nat.le_of_ble_eq_true rfl : _ ≤ 20) _) (by omega), Nat.le_trans (Nat.add_le_add_left (Nat.le_of_ble_eq_true rfl : _ ≤ 400) _) (by omega)⟩ (fun r_966 S_966 h_966 => ?_)
  refine x_widen (k' := k0 + 20 + 20) (n' := n0 + 400 + 400) (Nat.add_le_add_left (Nat.le_of_ble_eq_true rfl) _) (Nat.add_le_add_left (Nat.le_of_ble_eq_true rfl) _) ?_
  obtain ⟨rfl, rfl⟩ := h_966
  refine x_icmp_eq C 1254 D_L_law_43.2.1 (by decide) (fun c_969 => ?_) (fun c_969 => ?_)
  · skip
    exact x_drop9 (x_widen (by omega) (by omega) (kk _ _ (INV.q hS1 hM1 hO1 hB _)))
  · skip
    exact absurd rfl c_969
    --end
set_option maxHeartbeats 4000000 in
set_option maxRecDepth 100000 in
theorem lc_removePointN {p : Program} {l : Launch} {ee : Env} {s : State} {mi : MethodId} {args : Array Value} {below : List Frame} {meth : Method} {cd : Code} {G : xG} {Z : State → Prop} {rt : Option FieldType} {k0 n0 bs L i x mm o : Nat} {xs : Nat → Int32} {K N : Nat → Nat} {I : Nat → Nat → Int32} {Q : Nat → Nat → Option Nat} {J : Nat → Nat → Int64} {ow : xO} {n : Nat} {c : Nat → Nat} {al : Nat → Bool} {sp tu pt : Nat → Nat} {m : Nat} {pc : Nat → Nat} {pa : Nat → Bool} {ps : Nat → Nat} {r d u g w : Int32} {ar : Nat → Nat} (C : XC p s mi args meth cd code 9 RL rt G) (hX : gX G s s.heap) (hlt : l.stackTraces = false) (hXs : va_X bs L xs s s.heap) (hbl : bs < s.heap.size) (hbA : ¬ gA G bs) (hi : i + 5 ≤ L) (hL : L ≤ 2560) (hk0 : k0 + 100 ≤ room_1.cells) (hn0 : n0 + 2000 ≤ room_1.slots) (hS : SY ow (K, N, I, Q, J) x n c al sp tu pt m pc pa ps r d u g w) (hM : KM ow (K, N, I, Q, J) mm ar n c al sp tu pt m pc pa ps r d u g w) (hO : K o = 24 ∧ N o = 1 ∧ ow o = 10) (hB : BNm n al tu m pa) (cc : Nat) (y1 : xs (i + 1) = nI (cc / 100)) (y2 : xs (i + 2) = nI (cc % 100)) (hcc : cc < 10000) (hnew : ∀ j, j < m → pc j ≠ cc) (kk : ∀ (ow1 : xO) (S1 : xS), INV ow1 S1 x mm o → XW p l ee room_1 s mi args below meth cd G Z (k0 + 100) (n0 + 2000) S1 1254 [some (.ref bs), some (.ref x), some (.ref mm), some (.ref o), some (.int (nI i)), none, none, none, none] []) : XW p l ee room_1 s mi args below meth cd G Z k0 n0 (K, N, I, Q, J) 937 [some (.ref bs), some (.ref x), some (.ref mm), some (.ref o), some (.int (nI i)), none, none, none, none] [] := by
  obtain ⟨hKB, hPB, hUP, hPI, hn2, hcb, hm2, hsb, hx⟩ := hS.kb
  have hx : K x = 8 := hx
  have hmm : K mm = 9 := hM.1.1
  have ht30 : ∀ i, i < n → tu i < 2 ^ 30 := fun i hi => Nat.lt_trans (hsb i hi).2 (by decide)
  have hs30 : ∀ i, i < n → sp i < 2 ^ 30 := fun i hi => Nat.lt_trans (hsb i hi).1 (by decide)
  have hp30 : ∀ i, i < m → ps i < 2 ^ 30 := fun i hi => Nat.lt_trans (hPB i hi).2.2 (by decide)
  have hpc : ∀ j, j < m → pc j < 10000 := fun j hj => (hPB j hj).1
  refine x_aload_n C D_L_law_41.2.1 rfl rfl (by first | exact Or.inr ⟨_, rfl⟩ | exact va_rf_or _ | exact Or.inl rfl) ?_
  refine x_aload_n C D_L_law_41.2.2.1 rfl rfl (by first | exact Or.inr ⟨_, rfl⟩ | exact va_rf_or _ | exact Or.inl rfl) ?_
  refine x_iload C D_L_law_41.2.2.2.1 rfl ?_
  refine x_iconst C (v := nI 1) D_L_law_41.2.2.2.2.1 (by decide +kernel) ?_
  refine x_iadd C D_L_law_41.2.2.2.2.2.1 ?_
  first
  | refine x_eqi _ (nI_add _ _) ?_
  | skip
  refine x_sld C hXs hbl hbA _ rfl (by omega) hL D_L_law_41.2.2.2.2.2.2.1 ?_
  refine x_eqi _ y1 ?_
  refine x_aload_n C D_L_law_41.2.2.2.2.2.2.2.1 rfl rfl (by first | exact Or.inr ⟨_, rfl⟩ | exact va_rf_or _ | exact Or.inl rfl) ?_
  refine x_iload C D_L_law_41.2.2.2.2.2.2.2.2.1 rfl ?_
  refine x_iconst C (v := nI 2) D_L_law_41.2.2.2.2.2.2.2.2.2.1 (by decide +kernel) ?_
  refine x_iadd C D_L_law_41.2.2.2.2.2.2.2.2.2.2.1 ?_
  first
  | refine x_eqi _ (nI_add _ _) ?_
  | skip
  refine x_sld C hXs hbl hbA _ rfl (by omega) hL D_L_law_41.2.2.2.2.2.2.2.2.2.2.2 ?_
  refine x_eqi _ y2 ?_
  refine x_callVz C (y := yX8_removePoint) (c_X8_removePointN l G ow x n m c al sp tu pt pc ps pa r d u g w cc hS hcc hnew) (ci := 7) (by assumption) (by decide) rfl rfl k_448 k_449 k_450 k_60 k_451 hd_X8_removePoint ⟨(Nat.le_of_ble_eq_true rfl), (Nat.le_of_ble_eq_true rfl)⟩ rfl (by first | exact Nat.le_of_ble_eq_true rfl | simp [x_crf, Value.category]) rfl rfl D_L_law_42.1 ⟨Nat.le_trans (Nat.add_le_add_left (Nat.le_of_ble_eq_true rfl : _ ≤ 20) _) (by omega), Nat.le_trans (Nat.add_le_add_left (Nat.le_of_ble_eq_true rfl : _ ≤ 400) _) (by omega)⟩ (fun r_950 S_950 h_950 => ?_)
  refine x_widen (k' := k0 + 20) (n' := n0 + 400) (Nat.add_le_add_left (Nat.le_of_ble_eq_true rfl) _) (Nat.add_le_add_left (Nat.le_of_ble_eq_true rfl) _) ?_
  obtain ⟨rfl, ow1, hF1, hS1⟩ := h_950
  obtain ⟨K1, N1, I1, Q1, J1⟩ := S_950
  have hM1 := hM.agree hF1
  have hO1 := hF1.o hO
  have hm1 : K1 mm = 9 := hM1.1.1
  have m1d : I1 mm 1 = d := hM1.2.2.2.2.1
  have m1r : I1 mm 2 = r := hM1.2.2.2.2.2.1
  have m1u : I1 mm 3 = u := hM1.2.2.2.2.2.2.1
  have m1g : I1 mm 4 = g := hM1.2.2.2.2.2.2.2.1
  have m1w : I1 mm 11 = w := hM1.2.2.2.2.2.2.2.2
  refine x_aload_n C D_L_law_42.2.1 rfl rfl (by first | exact Or.inr ⟨_, rfl⟩ | exact va_rf_or _ | exact Or.inl rfl) ?_
  refine x_aload_n C D_L_law_42.2.2.1 rfl rfl (by first | exact Or.inr ⟨_, rfl⟩ | exact va_rf_or _ | exact Or.inl rfl) ?_
  refine x_iload C D_L_law_42.2.2.2.1 rfl ?_
  refine x_iconst C (v := nI 1) D_L_law_42.2.2.2.2.1 (by decide +kernel) ?_
  refine x_iadd C D_L_law_42.2.2.2.2.2.1 ?_
  first
  | refine x_eqi _ (nI_add _ _) ?_
  | skip
  refine x_sld C hXs hbl hbA _ rfl (by omega) hL D_L_law_42.2.2.2.2.2.2.1 ?_
  refine x_eqi _ y1 ?_
  refine x_aload_n C D_L_law_42.2.2.2.2.2.2.2.1 rfl rfl (by first | exact Or.inr ⟨_, rfl⟩ | exact va_rf_or _ | exact Or.inl rfl) ?_
  refine x_iload C D_L_law_42.2.2.2.2.2.2.2.2.1 rfl ?_
  refine x_iconst C (v := nI 2) D_L_law_42.2.2.2.2.2.2.2.2.2.1 (by decide +kernel) ?_
  refine x_iadd C D_L_law_42.2.2.2.2.2.2.2.2.2.2.1 ?_
  first
  | refine x_eqi _ (nI_add _ _) ?_
  | skip
  refine x_sld C hXs hbl hbA _ rfl (by omega) hL D_L_law_42.2.2.2.2.2.2.2.2.2.2.2 ?_
  refine x_eqi _ y2 ?_
  refine x_callVz C (y := yX9_removePoint) (c_X9_removePointN l G mm m ar pc ps pa (nI (cc / 100)) (nI (cc % 100)) hM1.1 hM1.2.2.1 (PV_none hM1.2.2.1 hpc hcc hnew)) (ci := 8) hm1 (by decide) rfl rfl k_1176 k_1177 k_1178 k_67 k_1179 hd_X9_removePoint ⟨(Nat.le_of_ble_eq_true rfl), (Nat.le_of_ble_eq_true rfl)⟩ rfl (by first | exact Nat.le_of_ble_eq_true rfl | simp [x_crf, Value.category]) rfl rfl D_L_law_43.1 ⟨Nat.le_trans (Nat.add_le_add_left (Nat.le_of_ble_eq_true rfl : _ ≤ 20) _) (by omega), Nat.le_trans (Nat.add_le_add_left (Nat.le_of_ble_eq_true rfl : _ ≤ 400) _) (by omega)⟩ (fun r_966 S_966 h_966 => ?_)
  refine x_widen (k' := k0 + 20 + 20) (n' := n0 + 400 + 400) (Nat.add_le_add_left (Nat.le_of_ble_eq_true rfl) _) (Nat.add_le_add_left (Nat.le_of_ble_eq_true rfl) _) ?_
  obtain ⟨rfl, rfl⟩ := h_966
  refine x_icmp_eq C 1254 D_L_law_43.2.1 (by decide) (fun c_969 => ?_) (fun c_969 => ?_)
  · skip
    exact x_drop9 (x_widen (by omega) (by omega) (kk _ _ (INV.q hS1 hM1 hO1 hB _)))
  · skip
    exact absurd rfl c_969
    --end
set_option maxHeartbeats 4000000 in
set_option maxRecDepth 100000 in
theorem lc_removePointG {p : Program} {l : Launch} {ee : Env} {s : State} {mi : MethodId} {args : Array Value} {below : List Frame} {meth : Method} {cd : Code} {G : xG} {Z : State → Prop} {rt : Option FieldType} {k0 n0 bs L i x mm o : Nat} {xs : Nat → Int32} {K N : Nat → Nat} {I : Nat → Nat → Int32} {Q : Nat → Nat → Option Nat} {J : Nat → Nat → Int64} {ow : xO} {n : Nat} {c : Nat → Nat} {al : Nat → Bool} {sp tu pt : Nat → Nat} {m : Nat} {pc : Nat → Nat} {pa : Nat → Bool} {ps : Nat → Nat} {r d u g w : Int32} {ar : Nat → Nat} (C : XC p s mi args meth cd code 9 RL rt G) (hX : gX G s s.heap) (hlt : l.stackTraces = false) (hXs : va_X bs L xs s s.heap) (hbl : bs < s.heap.size) (hbA : ¬ gA G bs) (hi : i + 5 ≤ L) (hL : L ≤ 2560) (hk0 : k0 + 100 ≤ room_1.cells) (hn0 : n0 + 2000 ≤ room_1.slots) (hS : SY ow (K, N, I, Q, J) x n c al sp tu pt m pc pa ps r d u g w) (hM : KM ow (K, N, I, Q, J) mm ar n c al sp tu pt m pc pa ps r d u g w) (hO : K o = 24 ∧ N o = 1 ∧ ow o = 10) (hB : BNm n al tu m pa) (k : Nat) (hk : k < m) (y1 : xs (i + 1) = nI (pc k / 100)) (y2 : xs (i + 2) = nI (pc k % 100)) (hal : pa k = false) (kk : ∀ (ow1 : xO) (S1 : xS), INV ow1 S1 x mm o → XW p l ee room_1 s mi args below meth cd G Z (k0 + 100) (n0 + 2000) S1 1254 [some (.ref bs), some (.ref x), some (.ref mm), some (.ref o), some (.int (nI i)), none, none, none, none] []) : XW p l ee room_1 s mi args below meth cd G Z k0 n0 (K, N, I, Q, J) 937 [some (.ref bs), some (.ref x), some (.ref mm), some (.ref o), some (.int (nI i)), none, none, none, none] [] := by
  obtain ⟨hKB, hPB, hUP, hPI, hn2, hcb, hm2, hsb, hx⟩ := hS.kb
  have hx : K x = 8 := hx
  have hmm : K mm = 9 := hM.1.1
  have ht30 : ∀ i, i < n → tu i < 2 ^ 30 := fun i hi => Nat.lt_trans (hsb i hi).2 (by decide)
  have hs30 : ∀ i, i < n → sp i < 2 ^ 30 := fun i hi => Nat.lt_trans (hsb i hi).1 (by decide)
  have hp30 : ∀ i, i < m → ps i < 2 ^ 30 := fun i hi => Nat.lt_trans (hPB i hi).2.2 (by decide)
  have hpc : ∀ j, j < m → pc j < 10000 := fun j hj => (hPB j hj).1
  refine x_aload_n C D_L_law_41.2.1 rfl rfl (by first | exact Or.inr ⟨_, rfl⟩ | exact va_rf_or _ | exact Or.inl rfl) ?_
  refine x_aload_n C D_L_law_41.2.2.1 rfl rfl (by first | exact Or.inr ⟨_, rfl⟩ | exact va_rf_or _ | exact Or.inl rfl) ?_
  refine x_iload C D_L_law_41.2.2.2.1 rfl ?_
  refine x_iconst C (v := nI 1) D_L_law_41.2.2.2.2.1 (by decide +kernel) ?_
  refine x_iadd C D_L_law_41.2.2.2.2.2.1 ?_
  first
  | refine x_eqi _ (nI_add _ _) ?_
  | skip
  refine x_sld C hXs hbl hbA _ rfl (by omega) hL D_L_law_41.2.2.2.2.2.2.1 ?_
  refine x_eqi _ y1 ?_
  refine x_aload_n C D_L_law_41.2.2.2.2.2.2.2.1 rfl rfl (by first | exact Or.inr ⟨_, rfl⟩ | exact va_rf_or _ | exact Or.inl rfl) ?_
  refine x_iload C D_L_law_41.2.2.2.2.2.2.2.2.1 rfl ?_
  refine x_iconst C (v := nI 2) D_L_law_41.2.2.2.2.2.2.2.2.2.1 (by decide +kernel) ?_
  refine x_iadd C D_L_law_41.2.2.2.2.2.2.2.2.2.2.1 ?_
  first
  | refine x_eqi _ (nI_add _ _) ?_
  | skip
  refine x_sld C hXs hbl hbA _ rfl (by omega) hL D_L_law_41.2.2.2.2.2.2.2.2.2.2.2 ?_
  refine x_eqi _ y2 ?_
  refine x_callVz C (y := yX8_removePoint) (c_X8_removePointG l G ow x n m c al sp tu pt pc ps pa r d u g w k hS hk hal) (ci := 7) (by assumption) (by decide) rfl rfl k_448 k_449 k_450 k_60 k_451 hd_X8_removePoint ⟨(Nat.le_of_ble_eq_true rfl), (Nat.le_of_ble_eq_true rfl)⟩ rfl (by first | exact Nat.le_of_ble_eq_true rfl | simp [x_crf, Value.category]) rfl rfl D_L_law_42.1 ⟨Nat.le_trans (Nat.add_le_add_left (Nat.le_of_ble_eq_true rfl : _ ≤ 20) _) (by omega), Nat.le_trans (Nat.add_le_add_left (Nat.le_of_ble_eq_true rfl : _ ≤ 400) _) (by omega)⟩ (fun r_950 S_950 h_950 => ?_)
  refine x_widen (k' := k0 + 20) (n' := n0 + 400) (Nat.add_le_add_left (Nat.le_of_ble_eq_true rfl) _) (Nat.add_le_add_left (Nat.le_of_ble_eq_true rfl) _) ?_
  obtain ⟨rfl, ow1, hF1, hS1⟩ := h_950
  obtain ⟨K1, N1, I1, Q1, J1⟩ := S_950
  have hM1 := hM.agree hF1
  have hO1 := hF1.o hO
  have hm1 : K1 mm = 9 := hM1.1.1
  have m1d : I1 mm 1 = d := hM1.2.2.2.2.1
  have m1r : I1 mm 2 = r := hM1.2.2.2.2.2.1
  have m1u : I1 mm 3 = u := hM1.2.2.2.2.2.2.1
  have m1g : I1 mm 4 = g := hM1.2.2.2.2.2.2.2.1
  have m1w : I1 mm 11 = w := hM1.2.2.2.2.2.2.2.2
  refine x_aload_n C D_L_law_42.2.1 rfl rfl (by first | exact Or.inr ⟨_, rfl⟩ | exact va_rf_or _ | exact Or.inl rfl) ?_
  refine x_aload_n C D_L_law_42.2.2.1 rfl rfl (by first | exact Or.inr ⟨_, rfl⟩ | exact va_rf_or _ | exact Or.inl rfl) ?_
  refine x_iload C D_L_law_42.2.2.2.1 rfl ?_
  refine x_iconst C (v := nI 1) D_L_law_42.2.2.2.2.1 (by decide +kernel) ?_
  refine x_iadd C D_L_law_42.2.2.2.2.2.1 ?_
  first
  | refine x_eqi _ (nI_add _ _) ?_
  | skip
  refine x_sld C hXs hbl hbA _ rfl (by omega) hL D_L_law_42.2.2.2.2.2.2.1 ?_
  refine x_eqi _ y1 ?_
  refine x_aload_n C D_L_law_42.2.2.2.2.2.2.2.1 rfl rfl (by first | exact Or.inr ⟨_, rfl⟩ | exact va_rf_or _ | exact Or.inl rfl) ?_
  refine x_iload C D_L_law_42.2.2.2.2.2.2.2.2.1 rfl ?_
  refine x_iconst C (v := nI 2) D_L_law_42.2.2.2.2.2.2.2.2.2.1 (by decide +kernel) ?_
  refine x_iadd C D_L_law_42.2.2.2.2.2.2.2.2.2.2.1 ?_
  first
  | refine x_eqi _ (nI_add _ _) ?_
  | skip
  refine x_sld C hXs hbl hbA _ rfl (by omega) hL D_L_law_42.2.2.2.2.2.2.2.2.2.2.2 ?_
  refine x_eqi _ y2 ?_
  refine x_callVz C (y := yX9_removePoint) (c_X9_removePointG l G mm m ar pc ps pa (nI (pc k / 100)) (nI (pc k % 100)) k hM1.1 hM1.2.2.1 (PV_some hM1.2.2.1 hPI hpc hk) hal) (ci := 8) hm1 (by decide) rfl rfl k_1176 k_1177 k_1178 k_67 k_1179 hd_X9_removePoint ⟨(Nat.le_of_ble_eq_true rfl), (Nat.le_of_ble_eq_true rfl)⟩ rfl (by first | exact Nat.le_of_ble_eq_true rfl | simp [x_crf, Value.category]) rfl rfl D_L_law_43.1 ⟨Nat.le_trans (Nat.add_le_add_left (Nat.le_of_ble_eq_true rfl : _ ≤ 20) _) (by omega), Nat.le_trans (Nat.add_le_add_left (Nat.le_of_ble_eq_true rfl : _ ≤ 400) _) (by omega)⟩ (fun r_966 S_966 h_966 => ?_)
  refine x_widen (k' := k0 + 20 + 20) (n' := n0 + 400 + 400) (Nat.add_le_add_left (Nat.le_of_ble_eq_true rfl) _) (Nat.add_le_add_left (Nat.le_of_ble_eq_true rfl) _) ?_
  obtain ⟨rfl, rfl⟩ := h_966
  refine x_icmp_eq C 1254 D_L_law_43.2.1 (by decide) (fun c_969 => ?_) (fun c_969 => ?_)
  · skip
    exact x_drop9 (x_widen (by omega) (by omega) (kk _ _ (INV.q hS1 hM1 hO1 hB _)))
  · skip
    exact absurd rfl c_969
    --end
set_option maxHeartbeats 4000000 in
set_option maxRecDepth 100000 in
theorem lc_removePointK {p : Program} {l : Launch} {ee : Env} {s : State} {mi : MethodId} {args : Array Value} {below : List Frame} {meth : Method} {cd : Code} {G : xG} {Z : State → Prop} {rt : Option FieldType} {k0 n0 bs L i x mm o : Nat} {xs : Nat → Int32} {K N : Nat → Nat} {I : Nat → Nat → Int32} {Q : Nat → Nat → Option Nat} {J : Nat → Nat → Int64} {ow : xO} {n : Nat} {c : Nat → Nat} {al : Nat → Bool} {sp tu pt : Nat → Nat} {m : Nat} {pc : Nat → Nat} {pa : Nat → Bool} {ps : Nat → Nat} {r d u g w : Int32} {ar : Nat → Nat} (C : XC p s mi args meth cd code 9 RL rt G) (hX : gX G s s.heap) (hlt : l.stackTraces = false) (hXs : va_X bs L xs s s.heap) (hbl : bs < s.heap.size) (hbA : ¬ gA G bs) (hi : i + 5 ≤ L) (hL : L ≤ 2560) (hk0 : k0 + 100 ≤ room_1.cells) (hn0 : n0 + 2000 ≤ room_1.slots) (hS : SY ow (K, N, I, Q, J) x n c al sp tu pt m pc pa ps r d u g w) (hM : KM ow (K, N, I, Q, J) mm ar n c al sp tu pt m pc pa ps r d u g w) (hO : K o = 24 ∧ N o = 1 ∧ ow o = 10) (hB : BNm n al tu m pa) (k : Nat) (hk : k < m) (y1 : xs (i + 1) = nI (pc k / 100)) (y2 : xs (i + 2) = nI (pc k % 100)) (hal : pa k = true) (hcond : m - cn (x_up pa k false) m ≤ cn (x_up pa k false) m) (kk : ∀ (ow1 : xO) (S1 : xS), INV ow1 S1 x mm o → XW p l ee room_1 s mi args below meth cd G Z (k0 + 100) (n0 + 2000) S1 1254 [some (.ref bs), some (.ref x), some (.ref mm), some (.ref o), some (.int (nI i)), none, none, none, none] []) : XW p l ee room_1 s mi args below meth cd G Z k0 n0 (K, N, I, Q, J) 937 [some (.ref bs), some (.ref x), some (.ref mm), some (.ref o), some (.int (nI i)), none, none, none, none] [] := by
  obtain ⟨hKB, hPB, hUP, hPI, hn2, hcb, hm2, hsb, hx⟩ := hS.kb
  have hx : K x = 8 := hx
  have hmm : K mm = 9 := hM.1.1
  have ht30 : ∀ i, i < n → tu i < 2 ^ 30 := fun i hi => Nat.lt_trans (hsb i hi).2 (by decide)
  have hs30 : ∀ i, i < n → sp i < 2 ^ 30 := fun i hi => Nat.lt_trans (hsb i hi).1 (by decide)
  have hp30 : ∀ i, i < m → ps i < 2 ^ 30 := fun i hi => Nat.lt_trans (hPB i hi).2.2 (by decide)
  have hpc : ∀ j, j < m → pc j < 10000 := fun j hj => (hPB j hj).1
  refine x_aload_n C D_L_law_41.2.1 rfl rfl (by first | exact Or.inr ⟨_, rfl⟩ | exact va_rf_or _ | exact Or.inl rfl) ?_
  refine x_aload_n C D_L_law_41.2.2.1 rfl rfl (by first | exact Or.inr ⟨_, rfl⟩ | exact va_rf_or _ | exact Or.inl rfl) ?_
  refine x_iload C D_L_law_41.2.2.2.1 rfl ?_
  refine x_iconst C (v := nI 1) D_L_law_41.2.2.2.2.1 (by decide +kernel) ?_
  refine x_iadd C D_L_law_41.2.2.2.2.2.1 ?_
  first
  | refine x_eqi _ (nI_add _ _) ?_
  | skip
  refine x_sld C hXs hbl hbA _ rfl (by omega) hL D_L_law_41.2.2.2.2.2.2.1 ?_
  refine x_eqi _ y1 ?_
  refine x_aload_n C D_L_law_41.2.2.2.2.2.2.2.1 rfl rfl (by first | exact Or.inr ⟨_, rfl⟩ | exact va_rf_or _ | exact Or.inl rfl) ?_
  refine x_iload C D_L_law_41.2.2.2.2.2.2.2.2.1 rfl ?_
  refine x_iconst C (v := nI 2) D_L_law_41.2.2.2.2.2.2.2.2.2.1 (by decide +kernel) ?_
  refine x_iadd C D_L_law_41.2.2.2.2.2.2.2.2.2.2.1 ?_
  first
  | refine x_eqi _ (nI_add _ _) ?_
  | skip
  refine x_sld C hXs hbl hbA _ rfl (by omega) hL D_L_law_41.2.2.2.2.2.2.2.2.2.2.2 ?_
  refine x_eqi _ y2 ?_
  refine x_callVz C (y := yX8_removePoint) (c_X8_removePointK l G ow x n m c al sp tu pt pc ps pa r d u g w k hS hk hal hcond) (ci := 7) (by assumption) (by decide) rfl rfl k_448 k_449 k_450 k_60 k_451 hd_X8_removePoint ⟨(Nat.le_of_ble_eq_true rfl), (Nat.le_of_ble_eq_true rfl)⟩ rfl (by first | exact Nat.le_of_ble_eq_true rfl | simp [x_crf, Value.category]) rfl rfl D_L_law_42.1 ⟨Nat.le_trans (Nat.add_le_add_left (Nat.le_of_ble_eq_true rfl : _ ≤ 20) _) (by omega), Nat.le_trans (Nat.add_le_add_left (Nat.le_of_ble_eq_true rfl : _ ≤ 400) _) (by omega)⟩ (fun r_950 S_950 h_950 => ?_)
  refine x_widen (k' := k0 + 20) (n' := n0 + 400) (Nat.add_le_add_left (Nat.le_of_ble_eq_true rfl) _) (Nat.add_le_add_left (Nat.le_of_ble_eq_true rfl) _) ?_
  obtain ⟨rfl, ow1, hF1, hS1⟩ := h_950
  obtain ⟨K1, N1, I1, Q1, J1⟩ := S_950
  have hM1 := hM.agree hF1
  have hO1 := hF1.o hO
  have hm1 : K1 mm = 9 := hM1.1.1
  have m1d : I1 mm 1 = d := hM1.2.2.2.2.1
  have m1r : I1 mm 2 = r := hM1.2.2.2.2.2.1
  have m1u : I1 mm 3 = u := hM1.2.2.2.2.2.2.1
  have m1g : I1 mm 4 = g := hM1.2.2.2.2.2.2.2.1
  have m1w : I1 mm 11 = w := hM1.2.2.2.2.2.2.2.2
  refine x_aload_n C D_L_law_42.2.1 rfl rfl (by first | exact Or.inr ⟨_, rfl⟩ | exact va_rf_or _ | exact Or.inl rfl) ?_
  refine x_aload_n C D_L_law_42.2.2.1 rfl rfl (by first | exact Or.inr ⟨_, rfl⟩ | exact va_rf_or _ | exact Or.inl rfl) ?_
  refine x_iload C D_L_law_42.2.2.2.1 rfl ?_
  refine x_iconst C (v := nI 1) D_L_law_42.2.2.2.2.1 (by decide +kernel) ?_
  refine x_iadd C D_L_law_42.2.2.2.2.2.1 ?_
  first
  | refine x_eqi _ (nI_add _ _) ?_
  | skip
  refine x_sld C hXs hbl hbA _ rfl (by omega) hL D_L_law_42.2.2.2.2.2.2.1 ?_
  refine x_eqi _ y1 ?_
  refine x_aload_n C D_L_law_42.2.2.2.2.2.2.2.1 rfl rfl (by first | exact Or.inr ⟨_, rfl⟩ | exact va_rf_or _ | exact Or.inl rfl) ?_
  refine x_iload C D_L_law_42.2.2.2.2.2.2.2.2.1 rfl ?_
  refine x_iconst C (v := nI 2) D_L_law_42.2.2.2.2.2.2.2.2.2.1 (by decide +kernel) ?_
  refine x_iadd C D_L_law_42.2.2.2.2.2.2.2.2.2.2.1 ?_
  first
  | refine x_eqi _ (nI_add _ _) ?_
  | skip
  refine x_sld C hXs hbl hbA _ rfl (by omega) hL D_L_law_42.2.2.2.2.2.2.2.2.2.2.2 ?_
  refine x_eqi _ y2 ?_
  refine x_callVz C (y := yX9_removePoint) (c_X9_removePointK l G mm m ar pc ps pa (nI (pc k / 100)) (nI (pc k % 100)) k hM1.1 hM1.2.2.1 (PV_some hM1.2.2.1 hPI hpc hk) hal hcond) (ci := 8) hm1 (by decide) rfl rfl k_1176 k_1177 k_1178 k_67 k_1179 hd_X9_removePoint ⟨(Nat.le_of_ble_eq_true rfl), (Nat.le_of_ble_eq_true rfl)⟩ rfl (by first | exact Nat.le_of_ble_eq_true rfl | simp [x_crf, Value.category]) rfl rfl D_L_law_43.1 ⟨Nat.le_trans (Nat.add_le_add_left (Nat.le_of_ble_eq_true rfl : _ ≤ 20) _) (by omega), Nat.le_trans (Nat.add_le_add_left (Nat.le_of_ble_eq_true rfl : _ ≤ 400) _) (by omega)⟩ (fun r_966 S_966 h_966 => ?_)
  refine x_widen (k' := k0 + 20 + 20) (n' := n0 + 400 + 400) (Nat.add_le_add_left (Nat.le_of_ble_eq_true rfl) _) (Nat.add_le_add_left (Nat.le_of_ble_eq_true rfl) _) ?_
  obtain ⟨rfl, I2, rfl, kv2, fr2, e18, hj2⟩ := h_966
  refine x_icmp_eq C 1254 D_L_law_43.2.1 (by decide) (fun c_969 => ?_) (fun c_969 => ?_)
  · skip
    exact x_drop9 (x_widen (by omega) (by omega) (kk _ _ (INV.mk (hS1.fr9 (fr9_pts hM1 fr2)) (hM1.pts kv2 fr2 (fun z a _ _ => hj2 z a) ((hj2 11 (by omega)).trans m1w)) hO1 (hB.ptK hk hal hcond))))
  · skip
    exact absurd rfl c_969
    --end
set_option maxHeartbeats 4000000 in
set_option maxRecDepth 100000 in
theorem lc_removePointD {p : Program} {l : Launch} {ee : Env} {s : State} {mi : MethodId} {args : Array Value} {below : List Frame} {meth : Method} {cd : Code} {G : xG} {Z : State → Prop} {rt : Option FieldType} {k0 n0 bs L i x mm o : Nat} {xs : Nat → Int32} {K N : Nat → Nat} {I : Nat → Nat → Int32} {Q : Nat → Nat → Option Nat} {J : Nat → Nat → Int64} {ow : xO} {n : Nat} {c : Nat → Nat} {al : Nat → Bool} {sp tu pt : Nat → Nat} {m : Nat} {pc : Nat → Nat} {pa : Nat → Bool} {ps : Nat → Nat} {r d u g w : Int32} {ar : Nat → Nat} (C : XC p s mi args meth cd code 9 RL rt G) (hX : gX G s s.heap) (hlt : l.stackTraces = false) (hXs : va_X bs L xs s s.heap) (hbl : bs < s.heap.size) (hbA : ¬ gA G bs) (hi : i + 5 ≤ L) (hL : L ≤ 2560) (hk0 : k0 + 100 ≤ room_1.cells) (hn0 : n0 + 2000 ≤ room_1.slots) (hS : SY ow (K, N, I, Q, J) x n c al sp tu pt m pc pa ps r d u g w) (hM : KM ow (K, N, I, Q, J) mm ar n c al sp tu pt m pc pa ps r d u g w) (hO : K o = 24 ∧ N o = 1 ∧ ow o = 10) (hB : BNm n al tu m pa) (k : Nat) (hk : k < m) (y1 : xs (i + 1) = nI (pc k / 100)) (y2 : xs (i + 2) = nI (pc k % 100)) (hal : pa k = true) (hcond : cn (x_up pa k false) m < m - cn (x_up pa k false) m) (kk : ∀ (ow1 : xO) (S1 : xS), INV ow1 S1 x mm o → XW p l ee room_1 s mi args below meth cd G Z (k0 + 100) (n0 + 2000) S1 1254 [some (.ref bs), some (.ref x), some (.ref mm), some (.ref o), some (.int (nI i)), none, none, none, none] []) : XW p l ee room_1 s mi args below meth cd G Z k0 n0 (K, N, I, Q, J) 937 [some (.ref bs), some (.ref x), some (.ref mm), some (.ref o), some (.int (nI i)), none, none, none, none] [] := by
  obtain ⟨hKB, hPB, hUP, hPI, hn2, hcb, hm2, hsb, hx⟩ := hS.kb
  have hx : K x = 8 := hx
  have hmm : K mm = 9 := hM.1.1
  have ht30 : ∀ i, i < n → tu i < 2 ^ 30 := fun i hi => Nat.lt_trans (hsb i hi).2 (by decide)
  have hs30 : ∀ i, i < n → sp i < 2 ^ 30 := fun i hi => Nat.lt_trans (hsb i hi).1 (by decide)
  have hp30 : ∀ i, i < m → ps i < 2 ^ 30 := fun i hi => Nat.lt_trans (hPB i hi).2.2 (by decide)
  have hpc : ∀ j, j < m → pc j < 10000 := fun j hj => (hPB j hj).1
  refine x_aload_n C D_L_law_41.2.1 rfl rfl (by first | exact Or.inr ⟨_, rfl⟩ | exact va_rf_or _ | exact Or.inl rfl) ?_
  refine x_aload_n C D_L_law_41.2.2.1 rfl rfl (by first | exact Or.inr ⟨_, rfl⟩ | exact va_rf_or _ | exact Or.inl rfl) ?_
  refine x_iload C D_L_law_41.2.2.2.1 rfl ?_
  refine x_iconst C (v := nI 1) D_L_law_41.2.2.2.2.1 (by decide +kernel) ?_
  refine x_iadd C D_L_law_41.2.2.2.2.2.1 ?_
  first
  | refine x_eqi _ (nI_add _ _) ?_
  | skip
  refine x_sld C hXs hbl hbA _ rfl (by omega) hL D_L_law_41.2.2.2.2.2.2.1 ?_
  refine x_eqi _ y1 ?_
  refine x_aload_n C D_L_law_41.2.2.2.2.2.2.2.1 rfl rfl (by first | exact Or.inr ⟨_, rfl⟩ | exact va_rf_or _ | exact Or.inl rfl) ?_
  refine x_iload C D_L_law_41.2.2.2.2.2.2.2.2.1 rfl ?_
  refine x_iconst C (v := nI 2) D_L_law_41.2.2.2.2.2.2.2.2.2.1 (by decide +kernel) ?_
  refine x_iadd C D_L_law_41.2.2.2.2.2.2.2.2.2.2.1 ?_
  first
  | refine x_eqi _ (nI_add _ _) ?_
  | skip
  refine x_sld C hXs hbl hbA _ rfl (by omega) hL D_L_law_41.2.2.2.2.2.2.2.2.2.2.2 ?_
  refine x_eqi _ y2 ?_
  refine x_callVz C (y := yX8_removePoint) (c_X8_removePointD l G ow x n m c al sp tu pt pc ps pa r d u g w k hS hk hal hcond) (ci := 7) (by assumption) (by decide) rfl rfl k_448 k_449 k_450 k_60 k_451 hd_X8_removePoint ⟨(Nat.le_of_ble_eq_true rfl), (Nat.le_of_ble_eq_true rfl)⟩ rfl (by first | exact Nat.le_of_ble_eq_true rfl | simp [x_crf, Value.category]) rfl rfl D_L_law_42.1 ⟨Nat.le_trans (Nat.add_le_add_left (Nat.le_of_ble_eq_true rfl : _ ≤ 20) _) (by omega), Nat.le_trans (Nat.add_le_add_left (Nat.le_of_ble_eq_true rfl : _ ≤ 400) _) (by omega)⟩ (fun r_950 S_950 h_950 => ?_)
  refine x_widen (k' := k0 + 20) (n' := n0 + 400) (Nat.add_le_add_left (Nat.le_of_ble_eq_true rfl) _) (Nat.add_le_add_left (Nat.le_of_ble_eq_true rfl) _) ?_
  obtain ⟨rfl, ow1, OP, PS, hF1, hQ1, hS1⟩ := h_950
  obtain ⟨K1, N1, I1, Q1, J1⟩ := S_950
  have hM1 := hM.agree hF1
  have hO1 := hF1.o hO
  have hm1 : K1 mm = 9 := hM1.1.1
  have m1d : I1 mm 1 = d := hM1.2.2.2.2.1
  have m1r : I1 mm 2 = r := hM1.2.2.2.2.2.1
  have m1u : I1 mm 3 = u := hM1.2.2.2.2.2.2.1
  have m1g : I1 mm 4 = g := hM1.2.2.2.2.2.2.2.1
  have m1w : I1 mm 11 = w := hM1.2.2.2.2.2.2.2.2
  refine x_aload_n C D_L_law_42.2.1 rfl rfl (by first | exact Or.inr ⟨_, rfl⟩ | exact va_rf_or _ | exact Or.inl rfl) ?_
  refine x_aload_n C D_L_law_42.2.2.1 rfl rfl (by first | exact Or.inr ⟨_, rfl⟩ | exact va_rf_or _ | exact Or.inl rfl) ?_
  refine x_iload C D_L_law_42.2.2.2.1 rfl ?_
  refine x_iconst C (v := nI 1) D_L_law_42.2.2.2.2.1 (by decide +kernel) ?_
  refine x_iadd C D_L_law_42.2.2.2.2.2.1 ?_
  first
  | refine x_eqi _ (nI_add _ _) ?_
  | skip
  refine x_sld C hXs hbl hbA _ rfl (by omega) hL D_L_law_42.2.2.2.2.2.2.1 ?_
  refine x_eqi _ y1 ?_
  refine x_aload_n C D_L_law_42.2.2.2.2.2.2.2.1 rfl rfl (by first | exact Or.inr ⟨_, rfl⟩ | exact va_rf_or _ | exact Or.inl rfl) ?_
  refine x_iload C D_L_law_42.2.2.2.2.2.2.2.2.1 rfl ?_
  refine x_iconst C (v := nI 2) D_L_law_42.2.2.2.2.2.2.2.2.2.1 (by decide +kernel) ?_
  refine x_iadd C D_L_law_42.2.2.2.2.2.2.2.2.2.2.1 ?_
  first
  | refine x_eqi _ (nI_add _ _) ?_
  | skip
  refine x_sld C hXs hbl hbA _ rfl (by omega) hL D_L_law_42.2.2.2.2.2.2.2.2.2.2.2 ?_
  refine x_eqi _ y2 ?_
  refine x_callVz C (y := yX9_removePoint) (c_X9_removePointD l G mm m ar pc ps pa (nI (pc k / 100)) (nI (pc k % 100)) k 8 OP PS hM1.1 hM1.2.2.1 hPB (PV_some hM1.2.2.1 hPI hpc hk) hal hcond hQ1.1 hQ1.2.1 hQ1.2.2) (ci := 8) hm1 (by decide) rfl rfl k_1176 k_1177 k_1178 k_67 k_1179 hd_X9_removePoint ⟨(Nat.le_of_ble_eq_true rfl), (Nat.le_of_ble_eq_true rfl)⟩ rfl (by first | exact Nat.le_of_ble_eq_true rfl | simp [x_crf, Value.category]) rfl rfl D_L_law_43.1 ⟨Nat.le_trans (Nat.add_le_add_left (Nat.le_of_ble_eq_true rfl : _ ≤ 20) _) (by omega), Nat.le_trans (Nat.add_le_add_left (Nat.le_of_ble_eq_true rfl : _ ≤ 400) _) (by omega)⟩ (fun r_966 S_966 h_966 => ?_)
  refine x_widen (k' := k0 + 20 + 20) (n' := n0 + 400 + 400) (Nat.add_le_add_left (Nat.le_of_ble_eq_true rfl) _) (Nat.add_le_add_left (Nat.le_of_ble_eq_true rfl) _) ?_
  obtain ⟨rfl, I2, rfl, kv2, fr2, e18, hj2⟩ := h_966
  refine x_icmp_eq C 1254 D_L_law_43.2.1 (by decide) (fun c_969 => ?_) (fun c_969 => ?_)
  · skip
    exact x_drop9 (x_widen (by omega) (by omega) (kk _ _ (INV.mk (hS1.fr9 (fr9_pts hM1 fr2)) (hM1.pts kv2 fr2 (fun z a b _ => hj2 z a b) ((hj2 11 (by omega) (by omega)).trans m1w)) hO1 (hB.ptX hk hal))))
  · skip
    exact absurd rfl c_969
    --end
theorem hd_L_pointDepth : yL_pointDepth.cls ≠ "java/lang/invoke/MethodHandle" ∧ yL_pointDepth.cls ≠ "java/lang/invoke/VarHandle" ∧ (parseMethodDescriptor yL_pointDepth.desc).map (fun d => d.parameters.length) = some 4 := by decide +kernel
theorem hd_X9_pointDepth : yX9_pointDepth.cls ≠ "java/lang/invoke/MethodHandle" ∧ yX9_pointDepth.cls ≠ "java/lang/invoke/VarHandle" ∧ (parseMethodDescriptor yX9_pointDepth.desc).map (fun d => d.parameters.length) = some 2 := by decide +kernel
set_option maxHeartbeats 4000000 in
set_option maxRecDepth 100000 in
theorem lc_pointDepthR {p : Program} {l : Launch} {ee : Env} {s : State} {mi : MethodId} {args : Array Value} {below : List Frame} {meth : Method} {cd : Code} {G : xG} {Z : State → Prop} {rt : Option FieldType} {k0 n0 bs L i x mm o : Nat} {xs : Nat → Int32} {K N : Nat → Nat} {I : Nat → Nat → Int32} {Q : Nat → Nat → Option Nat} {J : Nat → Nat → Int64} {ow : xO} {n : Nat} {c : Nat → Nat} {al : Nat → Bool} {sp tu pt : Nat → Nat} {m : Nat} {pc : Nat → Nat} {pa : Nat → Bool} {ps : Nat → Nat} {r d u g w : Int32} {ar : Nat → Nat} (C : XC p s mi args meth cd code 9 RL rt G) (hX : gX G s s.heap) (hlt : l.stackTraces = false) (hXs : va_X bs L xs s s.heap) (hbl : bs < s.heap.size) (hbA : ¬ gA G bs) (hi : i + 5 ≤ L) (hL : L ≤ 2560) (hk0 : k0 + 100 ≤ room_1.cells) (hn0 : n0 + 2000 ≤ room_1.slots) (hS : SY ow (K, N, I, Q, J) x n c al sp tu pt m pc pa ps r d u g w) (hM : KM ow (K, N, I, Q, J) mm ar n c al sp tu pt m pc pa ps r d u g w) (hO : K o = 24 ∧ N o = 1 ∧ ow o = 10) (hB : BNm n al tu m pa) (hyz : xs (i + 1) < 0 ∨ nI 99 < xs (i + 1) ∨ xs (i + 2) < 0 ∨ nI 99 < xs (i + 2)) (kk : ∀ (ow1 : xO) (S1 : xS), INV ow1 S1 x mm o → XW p l ee room_1 s mi args below meth cd G Z (k0 + 100) (n0 + 2000) S1 1254 [some (.ref bs), some (.ref x), some (.ref mm), some (.ref o), some (.int (nI i)), none, none, none, none] []) : XW p l ee room_1 s mi args below meth cd G Z k0 n0 (K, N, I, Q, J) 1000 [some (.ref bs), some (.ref x), some (.ref mm), some (.ref o), some (.int (nI i)), none, none, none, none] [] := by
  obtain ⟨hKB, hPB, hUP, hPI, hn2, hcb, hm2, hsb, hx⟩ := hS.kb
  have hx : K x = 8 := hx
  have hmm : K mm = 9 := hM.1.1
  have ht30 : ∀ i, i < n → tu i < 2 ^ 30 := fun i hi => Nat.lt_trans (hsb i hi).2 (by decide)
  have hs30 : ∀ i, i < n → sp i < 2 ^ 30 := fun i hi => Nat.lt_trans (hsb i hi).1 (by decide)
  have hp30 : ∀ i, i < m → ps i < 2 ^ 30 := fun i hi => Nat.lt_trans (hPB i hi).2.2 (by decide)
  have hpc : ∀ j, j < m → pc j < 10000 := fun j hj => (hPB j hj).1
  refine x_aload_n C D_L_law_44.2.2.2.2.2.2.1 rfl rfl (by first | exact Or.inr ⟨_, rfl⟩ | exact va_rf_or _ | exact Or.inl rfl) ?_
  refine x_aload_n C D_L_law_44.2.2.2.2.2.2.2.1 rfl rfl (by first | exact Or.inr ⟨_, rfl⟩ | exact va_rf_or _ | exact Or.inl rfl) ?_
  refine x_iload C D_L_law_44.2.2.2.2.2.2.2.2.1 rfl ?_
  refine x_iconst C (v := nI 1) D_L_law_44.2.2.2.2.2.2.2.2.2.1 (by decide +kernel) ?_
  refine x_iadd C D_L_law_44.2.2.2.2.2.2.2.2.2.2.1 ?_
  first
  | refine x_eqi _ (nI_add _ _) ?_
  | skip
  refine x_sld C hXs hbl hbA _ rfl (by omega) hL D_L_law_44.2.2.2.2.2.2.2.2.2.2.2 ?_
  refine x_aload_n C D_L_law_45.1 rfl rfl (by first | exact Or.inr ⟨_, rfl⟩ | exact va_rf_or _ | exact Or.inl rfl) ?_
  refine x_iload C D_L_law_45.2.1 rfl ?_
  refine x_iconst C (v := nI 2) D_L_law_45.2.2.1 (by decide +kernel) ?_
  refine x_iadd C D_L_law_45.2.2.2.1 ?_
  first
  | refine x_eqi _ (nI_add _ _) ?_
  | skip
  refine x_sld C hXs hbl hbA _ rfl (by omega) hL D_L_law_45.2.2.2.2.1 ?_
  refine x_aload_n C D_L_law_45.2.2.2.2.2.1 rfl rfl (by first | exact Or.inr ⟨_, rfl⟩ | exact va_rf_or _ | exact Or.inl rfl) ?_
  refine x_callW C hX (y := yL_pointDepth) (c_L_pointDepthR l G ow x o n m c al sp tu pt pc ps pa r d u g w (xs (i + 1)) (xs (i + 2)) hlt hS ⟨hO.1, hO.2.1⟩ hyz) k_843 k_844 k_59 kw_pointDepth hd_L_pointDepth ⟨(Nat.le_of_ble_eq_true rfl), (Nat.le_of_ble_eq_true rfl)⟩ rfl (by first | exact Nat.le_of_ble_eq_true rfl | simp [x_crf, Value.category]) rfl rfl D_L_law_45.2.2.2.2.2.2.1 ⟨Nat.le_trans (Nat.add_le_add_left (Nat.le_of_ble_eq_true rfl : _ ≤ 20) _) (by omega), Nat.le_trans (Nat.add_le_add_left (Nat.le_of_ble_eq_true rfl : _ ≤ 400) _) (by omega)⟩ (fun r_1014 S_1014 h_1014 => ?_)
  refine x_widen (k' := k0 + 20) (n' := n0 + 400) (Nat.add_le_add_left (Nat.le_of_ble_eq_true rfl) _) (Nat.add_le_add_left (Nat.le_of_ble_eq_true rfl) _) ?_
  obtain ⟨rfl, ow1, hF1, hS1⟩ := h_1014
  obtain ⟨K1, N1, I1, Q1, J1⟩ := S_1014
  have hM1 := hM.agree hF1
  have hO1 := hF1.o hO
  have hm1 : K1 mm = 9 := hM1.1.1
  have m1d : I1 mm 1 = d := hM1.2.2.2.2.1
  have m1r : I1 mm 2 = r := hM1.2.2.2.2.2.1
  have m1u : I1 mm 3 = u := hM1.2.2.2.2.2.2.1
  have m1g : I1 mm 4 = g := hM1.2.2.2.2.2.2.2.1
  have m1w : I1 mm 11 = w := hM1.2.2.2.2.2.2.2.2
  refine x_istore C (lv' := [_, _, _, _, _, _, _, _, _]) D_L_law_45.2.2.2.2.2.2.2.1 (Nat.le_of_ble_eq_true rfl) (by first | rfl | exact x_ok_q rfl) rfl ?_
  refine x_aload_n C D_L_law_45.2.2.2.2.2.2.2.2.1 rfl rfl (by first | exact Or.inr ⟨_, rfl⟩ | exact va_rf_or _ | exact Or.inl rfl) ?_
  refine x_aload_n C D_L_law_45.2.2.2.2.2.2.2.2.2.1 rfl rfl (by first | exact Or.inr ⟨_, rfl⟩ | exact va_rf_or _ | exact Or.inl rfl) ?_
  refine x_iload C D_L_law_45.2.2.2.2.2.2.2.2.2.2.1 rfl ?_
  refine x_iconst C (v := nI 1) D_L_law_45.2.2.2.2.2.2.2.2.2.2.2 (by decide +kernel) ?_
  refine x_iadd C D_L_law_46.1 ?_
  first
  | refine x_eqi _ (nI_add _ _) ?_
  | skip
  refine x_sld C hXs hbl hbA _ rfl (by omega) hL D_L_law_46.2.1 ?_
  refine x_aload_n C D_L_law_46.2.2.1 rfl rfl (by first | exact Or.inr ⟨_, rfl⟩ | exact va_rf_or _ | exact Or.inl rfl) ?_
  refine x_iload C D_L_law_46.2.2.2.1 rfl ?_
  refine x_iconst C (v := nI 2) D_L_law_46.2.2.2.2.1 (by decide +kernel) ?_
  refine x_iadd C D_L_law_46.2.2.2.2.2.1 ?_
  first
  | refine x_eqi _ (nI_add _ _) ?_
  | skip
  refine x_sld C hXs hbl hbA _ rfl (by omega) hL D_L_law_46.2.2.2.2.2.2.1 ?_
  refine x_callVi C (y := yX9_pointDepth) (c_X9_pointDepthN l G mm m ar pc ps pa (xs (i + 1)) (xs (i + 2)) hM1.1 hM1.2.2.1 (PV_range hM1.2.2.1 hpc hyz) hp30) (ci := 8) hm1 (by decide) rfl rfl k_1188 k_1189 k_1190 k_67 k_1191 hd_X9_pointDepth ⟨(Nat.le_of_ble_eq_true rfl), (Nat.le_of_ble_eq_true rfl)⟩ rfl (by first | exact Nat.le_of_ble_eq_true rfl | simp [x_crf, Value.category]) rfl rfl D_L_law_46.2.2.2.2.2.2.2.1 ⟨Nat.le_trans (Nat.add_le_add_left (Nat.le_of_ble_eq_true rfl : _ ≤ 20) _) (by omega), Nat.le_trans (Nat.add_le_add_left (Nat.le_of_ble_eq_true rfl : _ ≤ 400) _) (by omega)⟩ (fun r_1032 S_1032 h_1032 => ?_)
  refine x_widen (k' := k0 + 20 + 20) (n' := n0 + 400 + 400) (Nat.add_le_add_left (Nat.le_of_ble_eq_true rfl) _) (Nat.add_le_add_left (Nat.le_of_ble_eq_true rfl) _) ?_
  obtain ⟨rfl, rfl⟩ := h_1032
  refine x_istore C (lv' := [_, _, _, _, _, _, _, _, _]) D_L_law_46.2.2.2.2.2.2.2.2.1 (Nat.le_of_ble_eq_true rfl) (by first | rfl | exact x_ok_q rfl) rfl ?_
  refine x_aload_n C D_L_law_46.2.2.2.2.2.2.2.2.2.1 rfl rfl (by first | exact Or.inr ⟨_, rfl⟩ | exact va_rf_or _ | exact Or.inl rfl) ?_
  refine x_callVi C (y := yX9_thrown) (c_X9_thrown l G mm hm1) (ci := 8) hm1 (by decide) rfl rfl k_962 k_963 k_964 k_67 k_965 hd_X9_thrown ⟨(Nat.le_of_ble_eq_true rfl), (Nat.le_of_ble_eq_true rfl)⟩ rfl (by first | exact Nat.le_of_ble_eq_true rfl | simp [x_crf, Value.category]) rfl rfl D_L_law_46.2.2.2.2.2.2.2.2.2.2.1 ⟨Nat.le_trans (Nat.add_le_add_left (Nat.le_of_ble_eq_true rfl : _ ≤ 20) _) (by omega), Nat.le_trans (Nat.add_le_add_left (Nat.le_of_ble_eq_true rfl : _ ≤ 400) _) (by omega)⟩ (fun r_1038 S_1038 h_1038 => ?_)
  refine x_widen (k' := k0 + 20 + 20 + 20) (n' := n0 + 400 + 400 + 400) (Nat.add_le_add_left (Nat.le_of_ble_eq_true rfl) _) (Nat.add_le_add_left (Nat.le_of_ble_eq_true rfl) _) ?_
  obtain ⟨rfl, rfl⟩ := h_1038
  refine x_eqi _ (show _ = nI 1 from x_u2_s _ _ _ _) ?_
  refine x_iload C D_L_law_46.2.2.2.2.2.2.2.2.2.2.2 rfl ?_
  refine x_icmp_eq C 1048 D_L_law_47.1 (by decide) (fun c_1043 => ?_) (fun c_1043 => ?_)
  · skip
    refine x_iload C D_L_law_47.2.2.2.1 rfl ?_
    refine x_if_ne C 1065 D_L_law_47.2.2.2.2.1 (by decide) (fun c_1050 => ?_) (fun c_1050 => ?_)
    · skip
      refine x_goto C 1254 D_L_law_48.2.2.1 (by decide) ?_
      exact x_drop9 (x_widen (by omega) (by omega) (kk _ _ (INV.q hS1 hM1 hO1 hB _)))
    · skip
      exact absurd c_1050 (by decide)
      --end
  · skip
    exact absurd rfl c_1043
    --end
set_option maxHeartbeats 4000000 in
set_option maxRecDepth 100000 in
theorem lc_pointDepthN {p : Program} {l : Launch} {ee : Env} {s : State} {mi : MethodId} {args : Array Value} {below : List Frame} {meth : Method} {cd : Code} {G : xG} {Z : State → Prop} {rt : Option FieldType} {k0 n0 bs L i x mm o : Nat} {xs : Nat → Int32} {K N : Nat → Nat} {I : Nat → Nat → Int32} {Q : Nat → Nat → Option Nat} {J : Nat → Nat → Int64} {ow : xO} {n : Nat} {c : Nat → Nat} {al : Nat → Bool} {sp tu pt : Nat → Nat} {m : Nat} {pc : Nat → Nat} {pa : Nat → Bool} {ps : Nat → Nat} {r d u g w : Int32} {ar : Nat → Nat} (C : XC p s mi args meth cd code 9 RL rt G) (hX : gX G s s.heap) (hlt : l.stackTraces = false) (hXs : va_X bs L xs s s.heap) (hbl : bs < s.heap.size) (hbA : ¬ gA G bs) (hi : i + 5 ≤ L) (hL : L ≤ 2560) (hk0 : k0 + 100 ≤ room_1.cells) (hn0 : n0 + 2000 ≤ room_1.slots) (hS : SY ow (K, N, I, Q, J) x n c al sp tu pt m pc pa ps r d u g w) (hM : KM ow (K, N, I, Q, J) mm ar n c al sp tu pt m pc pa ps r d u g w) (hO : K o = 24 ∧ N o = 1 ∧ ow o = 10) (hB : BNm n al tu m pa) (cc : Nat) (y1 : xs (i + 1) = nI (cc / 100)) (y2 : xs (i + 2) = nI (cc % 100)) (hcc : cc < 10000) (hnew : ∀ j, j < m → pc j ≠ cc) (kk : ∀ (ow1 : xO) (S1 : xS), INV ow1 S1 x mm o → XW p l ee room_1 s mi args below meth cd G Z (k0 + 100) (n0 + 2000) S1 1254 [some (.ref bs), some (.ref x), some (.ref mm), some (.ref o), some (.int (nI i)), none, none, none, none] []) : XW p l ee room_1 s mi args below meth cd G Z k0 n0 (K, N, I, Q, J) 1000 [some (.ref bs), some (.ref x), some (.ref mm), some (.ref o), some (.int (nI i)), none, none, none, none] [] := by
  obtain ⟨hKB, hPB, hUP, hPI, hn2, hcb, hm2, hsb, hx⟩ := hS.kb
  have hx : K x = 8 := hx
  have hmm : K mm = 9 := hM.1.1
  have ht30 : ∀ i, i < n → tu i < 2 ^ 30 := fun i hi => Nat.lt_trans (hsb i hi).2 (by decide)
  have hs30 : ∀ i, i < n → sp i < 2 ^ 30 := fun i hi => Nat.lt_trans (hsb i hi).1 (by decide)
  have hp30 : ∀ i, i < m → ps i < 2 ^ 30 := fun i hi => Nat.lt_trans (hPB i hi).2.2 (by decide)
  have hpc : ∀ j, j < m → pc j < 10000 := fun j hj => (hPB j hj).1
  refine x_aload_n C D_L_law_44.2.2.2.2.2.2.1 rfl rfl (by first | exact Or.inr ⟨_, rfl⟩ | exact va_rf_or _ | exact Or.inl rfl) ?_
  refine x_aload_n C D_L_law_44.2.2.2.2.2.2.2.1 rfl rfl (by first | exact Or.inr ⟨_, rfl⟩ | exact va_rf_or _ | exact Or.inl rfl) ?_
  refine x_iload C D_L_law_44.2.2.2.2.2.2.2.2.1 rfl ?_
  refine x_iconst C (v := nI 1) D_L_law_44.2.2.2.2.2.2.2.2.2.1 (by decide +kernel) ?_
  refine x_iadd C D_L_law_44.2.2.2.2.2.2.2.2.2.2.1 ?_
  first
  | refine x_eqi _ (nI_add _ _) ?_
  | skip
  refine x_sld C hXs hbl hbA _ rfl (by omega) hL D_L_law_44.2.2.2.2.2.2.2.2.2.2.2 ?_
  refine x_eqi _ y1 ?_
  refine x_aload_n C D_L_law_45.1 rfl rfl (by first | exact Or.inr ⟨_, rfl⟩ | exact va_rf_or _ | exact Or.inl rfl) ?_
  refine x_iload C D_L_law_45.2.1 rfl ?_
  refine x_iconst C (v := nI 2) D_L_law_45.2.2.1 (by decide +kernel) ?_
  refine x_iadd C D_L_law_45.2.2.2.1 ?_
  first
  | refine x_eqi _ (nI_add _ _) ?_
  | skip
  refine x_sld C hXs hbl hbA _ rfl (by omega) hL D_L_law_45.2.2.2.2.1 ?_
  refine x_eqi _ y2 ?_
  refine x_aload_n C D_L_law_45.2.2.2.2.2.1 rfl rfl (by first | exact Or.inr ⟨_, rfl⟩ | exact va_rf_or _ | exact Or.inl rfl) ?_
  refine x_callW C hX (y := yL_pointDepth) (c_L_pointDepthN l G ow x o n m c al sp tu pt pc ps pa r d u g w cc hlt hS ⟨hO.1, hO.2.1⟩ hcc hnew) k_843 k_844 k_59 kw_pointDepth hd_L_pointDepth ⟨(Nat.le_of_ble_eq_true rfl), (Nat.le_of_ble_eq_true rfl)⟩ rfl (by first | exact Nat.le_of_ble_eq_true rfl | simp [x_crf, Value.category]) rfl rfl D_L_law_45.2.2.2.2.2.2.1 ⟨Nat.le_trans (Nat.add_le_add_left (Nat.le_of_ble_eq_true rfl : _ ≤ 20) _) (by omega), Nat.le_trans (Nat.add_le_add_left (Nat.le_of_ble_eq_true rfl : _ ≤ 400) _) (by omega)⟩ (fun r_1014 S_1014 h_1014 => ?_)
  refine x_widen (k' := k0 + 20) (n' := n0 + 400) (Nat.add_le_add_left (Nat.le_of_ble_eq_true rfl) _) (Nat.add_le_add_left (Nat.le_of_ble_eq_true rfl) _) ?_
  obtain ⟨rfl, ow1, hF1, hS1⟩ := h_1014
  obtain ⟨K1, N1, I1, Q1, J1⟩ := S_1014
  have hM1 := hM.agree hF1
  have hO1 := hF1.o hO
  have hm1 : K1 mm = 9 := hM1.1.1
  have m1d : I1 mm 1 = d := hM1.2.2.2.2.1
  have m1r : I1 mm 2 = r := hM1.2.2.2.2.2.1
  have m1u : I1 mm 3 = u := hM1.2.2.2.2.2.2.1
  have m1g : I1 mm 4 = g := hM1.2.2.2.2.2.2.2.1
  have m1w : I1 mm 11 = w := hM1.2.2.2.2.2.2.2.2
  refine x_istore C (lv' := [_, _, _, _, _, _, _, _, _]) D_L_law_45.2.2.2.2.2.2.2.1 (Nat.le_of_ble_eq_true rfl) (by first | rfl | exact x_ok_q rfl) rfl ?_
  refine x_aload_n C D_L_law_45.2.2.2.2.2.2.2.2.1 rfl rfl (by first | exact Or.inr ⟨_, rfl⟩ | exact va_rf_or _ | exact Or.inl rfl) ?_
  refine x_aload_n C D_L_law_45.2.2.2.2.2.2.2.2.2.1 rfl rfl (by first | exact Or.inr ⟨_, rfl⟩ | exact va_rf_or _ | exact Or.inl rfl) ?_
  refine x_iload C D_L_law_45.2.2.2.2.2.2.2.2.2.2.1 rfl ?_
  refine x_iconst C (v := nI 1) D_L_law_45.2.2.2.2.2.2.2.2.2.2.2 (by decide +kernel) ?_
  refine x_iadd C D_L_law_46.1 ?_
  first
  | refine x_eqi _ (nI_add _ _) ?_
  | skip
  refine x_sld C hXs hbl hbA _ rfl (by omega) hL D_L_law_46.2.1 ?_
  refine x_eqi _ y1 ?_
  refine x_aload_n C D_L_law_46.2.2.1 rfl rfl (by first | exact Or.inr ⟨_, rfl⟩ | exact va_rf_or _ | exact Or.inl rfl) ?_
  refine x_iload C D_L_law_46.2.2.2.1 rfl ?_
  refine x_iconst C (v := nI 2) D_L_law_46.2.2.2.2.1 (by decide +kernel) ?_
  refine x_iadd C D_L_law_46.2.2.2.2.2.1 ?_
  first
  | refine x_eqi _ (nI_add _ _) ?_
  | skip
  refine x_sld C hXs hbl hbA _ rfl (by omega) hL D_L_law_46.2.2.2.2.2.2.1 ?_
  refine x_eqi _ y2 ?_
  refine x_callVi C (y := yX9_pointDepth) (c_X9_pointDepthN l G mm m ar pc ps pa (nI (cc / 100)) (nI (cc % 100)) hM1.1 hM1.2.2.1 (PV_none hM1.2.2.1 hpc hcc hnew) hp30) (ci := 8) hm1 (by decide) rfl rfl k_1188 k_1189 k_1190 k_67 k_1191 hd_X9_pointDepth ⟨(Nat.le_of_ble_eq_true rfl), (Nat.le_of_ble_eq_true rfl)⟩ rfl (by first | exact Nat.le_of_ble_eq_true rfl | simp [x_crf, Value.category]) rfl rfl D_L_law_46.2.2.2.2.2.2.2.1 ⟨Nat.le_trans (Nat.add_le_add_left (Nat.le_of_ble_eq_true rfl : _ ≤ 20) _) (by omega), Nat.le_trans (Nat.add_le_add_left (Nat.le_of_ble_eq_true rfl : _ ≤ 400) _) (by omega)⟩ (fun r_1032 S_1032 h_1032 => ?_)
  refine x_widen (k' := k0 + 20 + 20) (n' := n0 + 400 + 400) (Nat.add_le_add_left (Nat.le_of_ble_eq_true rfl) _) (Nat.add_le_add_left (Nat.le_of_ble_eq_true rfl) _) ?_
  obtain ⟨rfl, rfl⟩ := h_1032
  refine x_istore C (lv' := [_, _, _, _, _, _, _, _, _]) D_L_law_46.2.2.2.2.2.2.2.2.1 (Nat.le_of_ble_eq_true rfl) (by first | rfl | exact x_ok_q rfl) rfl ?_
  refine x_aload_n C D_L_law_46.2.2.2.2.2.2.2.2.2.1 rfl rfl (by first | exact Or.inr ⟨_, rfl⟩ | exact va_rf_or _ | exact Or.inl rfl) ?_
  refine x_callVi C (y := yX9_thrown) (c_X9_thrown l G mm hm1) (ci := 8) hm1 (by decide) rfl rfl k_962 k_963 k_964 k_67 k_965 hd_X9_thrown ⟨(Nat.le_of_ble_eq_true rfl), (Nat.le_of_ble_eq_true rfl)⟩ rfl (by first | exact Nat.le_of_ble_eq_true rfl | simp [x_crf, Value.category]) rfl rfl D_L_law_46.2.2.2.2.2.2.2.2.2.2.1 ⟨Nat.le_trans (Nat.add_le_add_left (Nat.le_of_ble_eq_true rfl : _ ≤ 20) _) (by omega), Nat.le_trans (Nat.add_le_add_left (Nat.le_of_ble_eq_true rfl : _ ≤ 400) _) (by omega)⟩ (fun r_1038 S_1038 h_1038 => ?_)
  refine x_widen (k' := k0 + 20 + 20 + 20) (n' := n0 + 400 + 400 + 400) (Nat.add_le_add_left (Nat.le_of_ble_eq_true rfl) _) (Nat.add_le_add_left (Nat.le_of_ble_eq_true rfl) _) ?_
  obtain ⟨rfl, rfl⟩ := h_1038
  refine x_eqi _ (show _ = nI 1 from x_u2_s _ _ _ _) ?_
  refine x_iload C D_L_law_46.2.2.2.2.2.2.2.2.2.2.2 rfl ?_
  refine x_icmp_eq C 1048 D_L_law_47.1 (by decide) (fun c_1043 => ?_) (fun c_1043 => ?_)
  · skip
    refine x_iload C D_L_law_47.2.2.2.1 rfl ?_
    refine x_if_ne C 1065 D_L_law_47.2.2.2.2.1 (by decide) (fun c_1050 => ?_) (fun c_1050 => ?_)
    · skip
      refine x_goto C 1254 D_L_law_48.2.2.1 (by decide) ?_
      exact x_drop9 (x_widen (by omega) (by omega) (kk _ _ (INV.q hS1 hM1 hO1 hB _)))
    · skip
      exact absurd c_1050 (by decide)
      --end
  · skip
    exact absurd rfl c_1043
    --end
set_option maxHeartbeats 4000000 in
set_option maxRecDepth 100000 in
theorem lc_pointDepthY {p : Program} {l : Launch} {ee : Env} {s : State} {mi : MethodId} {args : Array Value} {below : List Frame} {meth : Method} {cd : Code} {G : xG} {Z : State → Prop} {rt : Option FieldType} {k0 n0 bs L i x mm o : Nat} {xs : Nat → Int32} {K N : Nat → Nat} {I : Nat → Nat → Int32} {Q : Nat → Nat → Option Nat} {J : Nat → Nat → Int64} {ow : xO} {n : Nat} {c : Nat → Nat} {al : Nat → Bool} {sp tu pt : Nat → Nat} {m : Nat} {pc : Nat → Nat} {pa : Nat → Bool} {ps : Nat → Nat} {r d u g w : Int32} {ar : Nat → Nat} (C : XC p s mi args meth cd code 9 RL rt G) (hX : gX G s s.heap) (hlt : l.stackTraces = false) (hXs : va_X bs L xs s s.heap) (hbl : bs < s.heap.size) (hbA : ¬ gA G bs) (hi : i + 5 ≤ L) (hL : L ≤ 2560) (hk0 : k0 + 100 ≤ room_1.cells) (hn0 : n0 + 2000 ≤ room_1.slots) (hS : SY ow (K, N, I, Q, J) x n c al sp tu pt m pc pa ps r d u g w) (hM : KM ow (K, N, I, Q, J) mm ar n c al sp tu pt m pc pa ps r d u g w) (hO : K o = 24 ∧ N o = 1 ∧ ow o = 10) (hB : BNm n al tu m pa) (k : Nat) (hk : k < m) (y1 : xs (i + 1) = nI (pc k / 100)) (y2 : xs (i + 2) = nI (pc k % 100)) (kk : ∀ (ow1 : xO) (S1 : xS), INV ow1 S1 x mm o → XW p l ee room_1 s mi args below meth cd G Z (k0 + 100) (n0 + 2000) S1 1254 [some (.ref bs), some (.ref x), some (.ref mm), some (.ref o), some (.int (nI i)), none, none, none, none] []) : XW p l ee room_1 s mi args below meth cd G Z k0 n0 (K, N, I, Q, J) 1000 [some (.ref bs), some (.ref x), some (.ref mm), some (.ref o), some (.int (nI i)), none, none, none, none] [] := by
  obtain ⟨hKB, hPB, hUP, hPI, hn2, hcb, hm2, hsb, hx⟩ := hS.kb
  have hx : K x = 8 := hx
  have hmm : K mm = 9 := hM.1.1
  have ht30 : ∀ i, i < n → tu i < 2 ^ 30 := fun i hi => Nat.lt_trans (hsb i hi).2 (by decide)
  have hs30 : ∀ i, i < n → sp i < 2 ^ 30 := fun i hi => Nat.lt_trans (hsb i hi).1 (by decide)
  have hp30 : ∀ i, i < m → ps i < 2 ^ 30 := fun i hi => Nat.lt_trans (hPB i hi).2.2 (by decide)
  have hpc : ∀ j, j < m → pc j < 10000 := fun j hj => (hPB j hj).1
  refine x_aload_n C D_L_law_44.2.2.2.2.2.2.1 rfl rfl (by first | exact Or.inr ⟨_, rfl⟩ | exact va_rf_or _ | exact Or.inl rfl) ?_
  refine x_aload_n C D_L_law_44.2.2.2.2.2.2.2.1 rfl rfl (by first | exact Or.inr ⟨_, rfl⟩ | exact va_rf_or _ | exact Or.inl rfl) ?_
  refine x_iload C D_L_law_44.2.2.2.2.2.2.2.2.1 rfl ?_
  refine x_iconst C (v := nI 1) D_L_law_44.2.2.2.2.2.2.2.2.2.1 (by decide +kernel) ?_
  refine x_iadd C D_L_law_44.2.2.2.2.2.2.2.2.2.2.1 ?_
  first
  | refine x_eqi _ (nI_add _ _) ?_
  | skip
  refine x_sld C hXs hbl hbA _ rfl (by omega) hL D_L_law_44.2.2.2.2.2.2.2.2.2.2.2 ?_
  refine x_eqi _ y1 ?_
  refine x_aload_n C D_L_law_45.1 rfl rfl (by first | exact Or.inr ⟨_, rfl⟩ | exact va_rf_or _ | exact Or.inl rfl) ?_
  refine x_iload C D_L_law_45.2.1 rfl ?_
  refine x_iconst C (v := nI 2) D_L_law_45.2.2.1 (by decide +kernel) ?_
  refine x_iadd C D_L_law_45.2.2.2.1 ?_
  first
  | refine x_eqi _ (nI_add _ _) ?_
  | skip
  refine x_sld C hXs hbl hbA _ rfl (by omega) hL D_L_law_45.2.2.2.2.1 ?_
  refine x_eqi _ y2 ?_
  refine x_aload_n C D_L_law_45.2.2.2.2.2.1 rfl rfl (by first | exact Or.inr ⟨_, rfl⟩ | exact va_rf_or _ | exact Or.inl rfl) ?_
  refine x_callW C hX (y := yL_pointDepth) (c_L_pointDepthY l G ow x o n m c al sp tu pt pc ps pa r d u g w k hlt hS ⟨hO.1, hO.2.1⟩ hk) k_843 k_844 k_59 kw_pointDepth hd_L_pointDepth ⟨(Nat.le_of_ble_eq_true rfl), (Nat.le_of_ble_eq_true rfl)⟩ rfl (by first | exact Nat.le_of_ble_eq_true rfl | simp [x_crf, Value.category]) rfl rfl D_L_law_45.2.2.2.2.2.2.1 ⟨Nat.le_trans (Nat.add_le_add_left (Nat.le_of_ble_eq_true rfl : _ ≤ 20) _) (by omega), Nat.le_trans (Nat.add_le_add_left (Nat.le_of_ble_eq_true rfl : _ ≤ 400) _) (by omega)⟩ (fun r_1014 S_1014 h_1014 => ?_)
  refine x_widen (k' := k0 + 20) (n' := n0 + 400) (Nat.add_le_add_left (Nat.le_of_ble_eq_true rfl) _) (Nat.add_le_add_left (Nat.le_of_ble_eq_true rfl) _) ?_
  obtain ⟨rfl, S0, J2, rfl, eJ2, ow1, hF1, hS1⟩ := h_1014
  obtain ⟨K1, N1, I1, Q1, J1⟩ := S0
  have hM1 := (hM.agree hF1).J (J1 := J2)
  have hS1 := hS1.J (J1 := J2)
  have hO1 := hF1.o hO
  have hm1 : K1 mm = 9 := hM1.1.1
  have ko1 : K1 o = 24 := hO1.1
  have no1 : N1 o = 1 := hO1.2.1
  have m1d : I1 mm 1 = d := hM1.2.2.2.2.1
  have m1r : I1 mm 2 = r := hM1.2.2.2.2.2.1
  have m1u : I1 mm 3 = u := hM1.2.2.2.2.2.2.1
  have m1g : I1 mm 4 = g := hM1.2.2.2.2.2.2.2.1
  have m1w : I1 mm 11 = w := hM1.2.2.2.2.2.2.2.2
  refine x_istore C (lv' := [_, _, _, _, _, _, _, _, _]) D_L_law_45.2.2.2.2.2.2.2.1 (Nat.le_of_ble_eq_true rfl) (by first | rfl | exact x_ok_q rfl) rfl ?_
  refine x_aload_n C D_L_law_45.2.2.2.2.2.2.2.2.1 rfl rfl (by first | exact Or.inr ⟨_, rfl⟩ | exact va_rf_or _ | exact Or.inl rfl) ?_
  refine x_aload_n C D_L_law_45.2.2.2.2.2.2.2.2.2.1 rfl rfl (by first | exact Or.inr ⟨_, rfl⟩ | exact va_rf_or _ | exact Or.inl rfl) ?_
  refine x_iload C D_L_law_45.2.2.2.2.2.2.2.2.2.2.1 rfl ?_
  refine x_iconst C (v := nI 1) D_L_law_45.2.2.2.2.2.2.2.2.2.2.2 (by decide +kernel) ?_
  refine x_iadd C D_L_law_46.1 ?_
  first
  | refine x_eqi _ (nI_add _ _) ?_
  | skip
  refine x_sld C hXs hbl hbA _ rfl (by omega) hL D_L_law_46.2.1 ?_
  refine x_eqi _ y1 ?_
  refine x_aload_n C D_L_law_46.2.2.1 rfl rfl (by first | exact Or.inr ⟨_, rfl⟩ | exact va_rf_or _ | exact Or.inl rfl) ?_
  refine x_iload C D_L_law_46.2.2.2.1 rfl ?_
  refine x_iconst C (v := nI 2) D_L_law_46.2.2.2.2.1 (by decide +kernel) ?_
  refine x_iadd C D_L_law_46.2.2.2.2.2.1 ?_
  first
  | refine x_eqi _ (nI_add _ _) ?_
  | skip
  refine x_sld C hXs hbl hbA _ rfl (by omega) hL D_L_law_46.2.2.2.2.2.2.1 ?_
  refine x_eqi _ y2 ?_
  refine x_callVi C (y := yX9_pointDepth) (c_X9_pointDepthY l G mm m ar pc ps pa (nI (pc k / 100)) (nI (pc k % 100)) k hM1.1 hM1.2.2.1 (PV_some hM1.2.2.1 hPI hpc hk) hp30) (ci := 8) hm1 (by decide) rfl rfl k_1188 k_1189 k_1190 k_67 k_1191 hd_X9_pointDepth ⟨(Nat.le_of_ble_eq_true rfl), (Nat.le_of_ble_eq_true rfl)⟩ rfl (by first | exact Nat.le_of_ble_eq_true rfl | simp [x_crf, Value.category]) rfl rfl D_L_law_46.2.2.2.2.2.2.2.1 ⟨Nat.le_trans (Nat.add_le_add_left (Nat.le_of_ble_eq_true rfl : _ ≤ 20) _) (by omega), Nat.le_trans (Nat.add_le_add_left (Nat.le_of_ble_eq_true rfl : _ ≤ 400) _) (by omega)⟩ (fun r_1032 S_1032 h_1032 => ?_)
  refine x_widen (k' := k0 + 20 + 20) (n' := n0 + 400 + 400) (Nat.add_le_add_left (Nat.le_of_ble_eq_true rfl) _) (Nat.add_le_add_left (Nat.le_of_ble_eq_true rfl) _) ?_
  obtain ⟨rfl, rfl⟩ := h_1032
  refine x_istore C (lv' := [_, _, _, _, _, _, _, _, _]) D_L_law_46.2.2.2.2.2.2.2.2.1 (Nat.le_of_ble_eq_true rfl) (by first | rfl | exact x_ok_q rfl) rfl ?_
  refine x_aload_n C D_L_law_46.2.2.2.2.2.2.2.2.2.1 rfl rfl (by first | exact Or.inr ⟨_, rfl⟩ | exact va_rf_or _ | exact Or.inl rfl) ?_
  refine x_callVi C (y := yX9_thrown) (c_X9_thrown l G mm hm1) (ci := 8) hm1 (by decide) rfl rfl k_962 k_963 k_964 k_67 k_965 hd_X9_thrown ⟨(Nat.le_of_ble_eq_true rfl), (Nat.le_of_ble_eq_true rfl)⟩ rfl (by first | exact Nat.le_of_ble_eq_true rfl | simp [x_crf, Value.category]) rfl rfl D_L_law_46.2.2.2.2.2.2.2.2.2.2.1 ⟨Nat.le_trans (Nat.add_le_add_left (Nat.le_of_ble_eq_true rfl : _ ≤ 20) _) (by omega), Nat.le_trans (Nat.add_le_add_left (Nat.le_of_ble_eq_true rfl : _ ≤ 400) _) (by omega)⟩ (fun r_1038 S_1038 h_1038 => ?_)
  refine x_widen (k' := k0 + 20 + 20 + 20) (n' := n0 + 400 + 400 + 400) (Nat.add_le_add_left (Nat.le_of_ble_eq_true rfl) _) (Nat.add_le_add_left (Nat.le_of_ble_eq_true rfl) _) ?_
  obtain ⟨rfl, rfl⟩ := h_1038
  refine x_eqi _ (show _ = nI 0 from x_u2_s _ _ _ _) ?_
  refine x_iload C D_L_law_46.2.2.2.2.2.2.2.2.2.2.2 rfl ?_
  refine x_icmp_eq C 1048 D_L_law_47.1 (by decide) (fun c_1043 => ?_) (fun c_1043 => ?_)
  · skip
    refine x_iload C D_L_law_47.2.2.2.1 rfl ?_
    refine x_if_ne C 1065 D_L_law_47.2.2.2.2.1 (by decide) (fun c_1050 => ?_) (fun c_1050 => ?_)
    · skip
      exact absurd rfl c_1050
      --end
    · skip
      refine x_aload_n C D_L_law_47.2.2.2.2.2.1 rfl rfl (by first | exact Or.inr ⟨_, rfl⟩ | exact va_rf_or _ | exact Or.inl rfl) ?_
      refine x_iconst C (v := nI 0) D_L_law_47.2.2.2.2.2.2.1 (by decide +kernel) ?_
      refine x_lald C 0 ko1 rfl (by omega) (by omega) D_L_law_47.2.2.2.2.2.2.2.1 ?_
      refine x_eql _ (show J2 o 0 = _ by rw [eJ2, x_u2_s]) ?_
      refine x_iload C D_L_law_47.2.2.2.2.2.2.2.2.1 rfl ?_
      refine x_i2l C D_L_law_47.2.2.2.2.2.2.2.2.2.1 ?_
      refine x_lcmp C D_L_law_47.2.2.2.2.2.2.2.2.2.2.1 ?_
      refine x_eqi _ (lg_self _) ?_
      refine x_if_eq C 1065 D_L_law_47.2.2.2.2.2.2.2.2.2.2.2 (by decide) (fun c_1060 => ?_) (fun c_1060 => ?_)
      · skip
        refine x_goto C 1254 D_L_law_48.2.2.1 (by decide) ?_
        exact x_drop9 (x_widen (by omega) (by omega) (kk _ _ (INV.q hS1 hM1 hO1 hB _)))
      · skip
        exact absurd rfl c_1060
        --end
  · skip
    exact absurd rfl c_1043
    --end
theorem hd_L_countIn : yL_countIn.cls ≠ "java/lang/invoke/MethodHandle" ∧ yL_countIn.cls ≠ "java/lang/invoke/VarHandle" ∧ (parseMethodDescriptor yL_countIn.desc).map (fun d => d.parameters.length) = some 6 := by decide +kernel
theorem hd_X9_countIn : yX9_countIn.cls ≠ "java/lang/invoke/MethodHandle" ∧ yX9_countIn.cls ≠ "java/lang/invoke/VarHandle" ∧ (parseMethodDescriptor yX9_countIn.desc).map (fun d => d.parameters.length) = some 4 := by decide +kernel
set_option maxHeartbeats 4000000 in
set_option maxRecDepth 100000 in
theorem lc_countInX {p : Program} {l : Launch} {ee : Env} {s : State} {mi : MethodId} {args : Array Value} {below : List Frame} {meth : Method} {cd : Code} {G : xG} {Z : State → Prop} {rt : Option FieldType} {k0 n0 bs L i x mm o : Nat} {xs : Nat → Int32} {K N : Nat → Nat} {I : Nat → Nat → Int32} {Q : Nat → Nat → Option Nat} {J : Nat → Nat → Int64} {ow : xO} {n : Nat} {c : Nat → Nat} {al : Nat → Bool} {sp tu pt : Nat → Nat} {m : Nat} {pc : Nat → Nat} {pa : Nat → Bool} {ps : Nat → Nat} {r d u g w : Int32} {ar : Nat → Nat} (C : XC p s mi args meth cd code 9 RL rt G) (hX : gX G s s.heap) (hlt : l.stackTraces = false) (hXs : va_X bs L xs s s.heap) (hbl : bs < s.heap.size) (hbA : ¬ gA G bs) (hi : i + 5 ≤ L) (hL : L ≤ 2560) (hk0 : k0 + 100 ≤ room_1.cells) (hn0 : n0 + 2000 ≤ room_1.slots) (hS : SY ow (K, N, I, Q, J) x n c al sp tu pt m pc pa ps r d u g w) (hM : KM ow (K, N, I, Q, J) mm ar n c al sp tu pt m pc pa ps r d u g w) (hO : K o = 24 ∧ N o = 1 ∧ ow o = 10) (hB : BNm n al tu m pa) (hx9 : xs (i + 1) < 0 ∨ xs (i + 3) < xs (i + 1) ∨ nI 99 < xs (i + 3) ∨ xs (i + 2) < 0 ∨ xs (i + 4) < xs (i + 2) ∨ nI 99 < xs (i + 4)) (kk : ∀ (ow1 : xO) (S1 : xS), INV ow1 S1 x mm o → XW p l ee room_1 s mi args below meth cd G Z (k0 + 100) (n0 + 2000) S1 1254 [some (.ref bs), some (.ref x), some (.ref mm), some (.ref o), some (.int (nI i)), none, none, none, none] []) : XW p l ee room_1 s mi args below meth cd G Z k0 n0 (K, N, I, Q, J) 1081 [some (.ref bs), some (.ref x), some (.ref mm), some (.ref o), some (.int (nI i)), none, none, none, none] [] := by
  obtain ⟨hKB, hPB, hUP, hPI, hn2, hcb, hm2, hsb, hx⟩ := hS.kb
  have hx : K x = 8 := hx
  have hmm : K mm = 9 := hM.1.1
  have ht30 : ∀ i, i < n → tu i < 2 ^ 30 := fun i hi => Nat.lt_trans (hsb i hi).2 (by decide)
  have hs30 : ∀ i, i < n → sp i < 2 ^ 30 := fun i hi => Nat.lt_trans (hsb i hi).1 (by decide)
  have hp30 : ∀ i, i < m → ps i < 2 ^ 30 := fun i hi => Nat.lt_trans (hPB i hi).2.2 (by decide)
  refine x_aload_n C D_L_law_48.2.2.2.2.2.2.2.2.2.2.1 rfl rfl (by first | exact Or.inr ⟨_, rfl⟩ | exact va_rf_or _ | exact Or.inl rfl) ?_
  refine x_aload_n C D_L_law_48.2.2.2.2.2.2.2.2.2.2.2 rfl rfl (by first | exact Or.inr ⟨_, rfl⟩ | exact va_rf_or _ | exact Or.inl rfl) ?_
  refine x_iload C D_L_law_49.1 rfl ?_
  refine x_iconst C (v := nI 1) D_L_law_49.2.1 (by decide +kernel) ?_
  refine x_iadd C D_L_law_49.2.2.1 ?_
  first
  | refine x_eqi _ (nI_add _ _) ?_
  | skip
  refine x_sld C hXs hbl hbA _ rfl (by omega) hL D_L_law_49.2.2.2.1 ?_
  refine x_aload_n C D_L_law_49.2.2.2.2.1 rfl rfl (by first | exact Or.inr ⟨_, rfl⟩ | exact va_rf_or _ | exact Or.inl rfl) ?_
  refine x_iload C D_L_law_49.2.2.2.2.2.1 rfl ?_
  refine x_iconst C (v := nI 2) D_L_law_49.2.2.2.2.2.2.1 (by decide +kernel) ?_
  refine x_iadd C D_L_law_49.2.2.2.2.2.2.2.1 ?_
  first
  | refine x_eqi _ (nI_add _ _) ?_
  | skip
  refine x_sld C hXs hbl hbA _ rfl (by omega) hL D_L_law_49.2.2.2.2.2.2.2.2.1 ?_
  refine x_aload_n C D_L_law_49.2.2.2.2.2.2.2.2.2.1 rfl rfl (by first | exact Or.inr ⟨_, rfl⟩ | exact va_rf_or _ | exact Or.inl rfl) ?_
  refine x_iload C D_L_law_49.2.2.2.2.2.2.2.2.2.2.1 rfl ?_
  refine x_iconst C (v := nI 3) D_L_law_49.2.2.2.2.2.2.2.2.2.2.2 (by decide +kernel) ?_
  refine x_iadd C D_L_law_50.1 ?_
  first
  | refine x_eqi _ (nI_add _ _) ?_
  | skip
  refine x_sld C hXs hbl hbA _ rfl (by omega) hL D_L_law_50.2.1 ?_
  refine x_aload_n C D_L_law_50.2.2.1 rfl rfl (by first | exact Or.inr ⟨_, rfl⟩ | exact va_rf_or _ | exact Or.inl rfl) ?_
  refine x_iload C D_L_law_50.2.2.2.1 rfl ?_
  refine x_iconst C (v := nI 4) D_L_law_50.2.2.2.2.1 (by decide +kernel) ?_
  refine x_iadd C D_L_law_50.2.2.2.2.2.1 ?_
  first
  | refine x_eqi _ (nI_add _ _) ?_
  | skip
  refine x_sld C hXs hbl hbA _ rfl (by omega) hL D_L_law_50.2.2.2.2.2.2.1 ?_
  refine x_aload_n C D_L_law_50.2.2.2.2.2.2.2.1 rfl rfl (by first | exact Or.inr ⟨_, rfl⟩ | exact va_rf_or _ | exact Or.inl rfl) ?_
  refine x_callW C hX (y := yL_countIn) (c_L_countInX l G ow x o n m c al sp tu pt pc ps pa r d u g w (xs (i + 1)) (xs (i + 2)) (xs (i + 3)) (xs (i + 4)) hlt hS ⟨hO.1, hO.2.1⟩ hx9) k_854 k_855 k_59 kw_countIn hd_L_countIn ⟨(Nat.le_of_ble_eq_true rfl), (Nat.le_of_ble_eq_true rfl)⟩ rfl (by first | exact Nat.le_of_ble_eq_true rfl | simp [x_crf, Value.category]) rfl rfl D_L_law_50.2.2.2.2.2.2.2.2.1 ⟨Nat.le_trans (Nat.add_le_add_left (Nat.le_of_ble_eq_true rfl : _ ≤ 20) _) (by omega), Nat.le_trans (Nat.add_le_add_left (Nat.le_of_ble_eq_true rfl : _ ≤ 400) _) (by omega)⟩ (fun r_1107 S_1107 h_1107 => ?_)
  refine x_widen (k' := k0 + 20) (n' := n0 + 400) (Nat.add_le_add_left (Nat.le_of_ble_eq_true rfl) _) (Nat.add_le_add_left (Nat.le_of_ble_eq_true rfl) _) ?_
  obtain ⟨rfl, ow1, hF1, hS1⟩ := h_1107
  obtain ⟨K1, N1, I1, Q1, J1⟩ := S_1107
  have hM1 := hM.agree hF1
  have hO1 := hF1.o hO
  have hm1 : K1 mm = 9 := hM1.1.1
  have m1d : I1 mm 1 = d := hM1.2.2.2.2.1
  have m1r : I1 mm 2 = r := hM1.2.2.2.2.2.1
  have m1u : I1 mm 3 = u := hM1.2.2.2.2.2.2.1
  have m1g : I1 mm 4 = g := hM1.2.2.2.2.2.2.2.1
  have m1w : I1 mm 11 = w := hM1.2.2.2.2.2.2.2.2
  refine x_istore C (lv' := [_, _, _, _, _, _, _, _, _]) D_L_law_50.2.2.2.2.2.2.2.2.2.1 (Nat.le_of_ble_eq_true rfl) (by first | rfl | exact x_ok_q rfl) rfl ?_
  refine x_aload_n C D_L_law_50.2.2.2.2.2.2.2.2.2.2.1 rfl rfl (by first | exact Or.inr ⟨_, rfl⟩ | exact va_rf_or _ | exact Or.inl rfl) ?_
  refine x_aload_n C D_L_law_50.2.2.2.2.2.2.2.2.2.2.2 rfl rfl (by first | exact Or.inr ⟨_, rfl⟩ | exact va_rf_or _ | exact Or.inl rfl) ?_
  refine x_iload C D_L_law_51.1 rfl ?_
  refine x_iconst C (v := nI 1) D_L_law_51.2.1 (by decide +kernel) ?_
  refine x_iadd C D_L_law_51.2.2.1 ?_
  first
  | refine x_eqi _ (nI_add _ _) ?_
  | skip
  refine x_sld C hXs hbl hbA _ rfl (by omega) hL D_L_law_51.2.2.2.1 ?_
  refine x_aload_n C D_L_law_51.2.2.2.2.1 rfl rfl (by first | exact Or.inr ⟨_, rfl⟩ | exact va_rf_or _ | exact Or.inl rfl) ?_
  refine x_iload C D_L_law_51.2.2.2.2.2.1 rfl ?_
  refine x_iconst C (v := nI 2) D_L_law_51.2.2.2.2.2.2.1 (by decide +kernel) ?_
  refine x_iadd C D_L_law_51.2.2.2.2.2.2.2.1 ?_
  first
  | refine x_eqi _ (nI_add _ _) ?_
  | skip
  refine x_sld C hXs hbl hbA _ rfl (by omega) hL D_L_law_51.2.2.2.2.2.2.2.2.1 ?_
  refine x_aload_n C D_L_law_51.2.2.2.2.2.2.2.2.2.1 rfl rfl (by first | exact Or.inr ⟨_, rfl⟩ | exact va_rf_or _ | exact Or.inl rfl) ?_
  refine x_iload C D_L_law_51.2.2.2.2.2.2.2.2.2.2.1 rfl ?_
  refine x_iconst C (v := nI 3) D_L_law_51.2.2.2.2.2.2.2.2.2.2.2 (by decide +kernel) ?_
  refine x_iadd C D_L_law_52.1 ?_
  first
  | refine x_eqi _ (nI_add _ _) ?_
  | skip
  refine x_sld C hXs hbl hbA _ rfl (by omega) hL D_L_law_52.2.1 ?_
  refine x_aload_n C D_L_law_52.2.2.1 rfl rfl (by first | exact Or.inr ⟨_, rfl⟩ | exact va_rf_or _ | exact Or.inl rfl) ?_
  refine x_iload C D_L_law_52.2.2.2.1 rfl ?_
  refine x_iconst C (v := nI 4) D_L_law_52.2.2.2.2.1 (by decide +kernel) ?_
  refine x_iadd C D_L_law_52.2.2.2.2.2.1 ?_
  first
  | refine x_eqi _ (nI_add _ _) ?_
  | skip
  refine x_sld C hXs hbl hbA _ rfl (by omega) hL D_L_law_52.2.2.2.2.2.2.1 ?_
  refine x_callVi C (y := yX9_countIn) (c_X9_countInX l G mm m ar pc ps pa (xs (i + 1)) (xs (i + 2)) (xs (i + 3)) (xs (i + 4)) hM1.1 hM1.2.2.1 hx9) (ci := 8) hm1 (by decide) rfl rfl k_1196 k_1197 k_1198 k_67 k_1199 hd_X9_countIn ⟨(Nat.le_of_ble_eq_true rfl), (Nat.le_of_ble_eq_true rfl)⟩ rfl (by first | exact Nat.le_of_ble_eq_true rfl | simp [x_crf, Value.category]) rfl rfl D_L_law_52.2.2.2.2.2.2.2.1 ⟨Nat.le_trans (Nat.add_le_add_left (Nat.le_of_ble_eq_true rfl : _ ≤ 20) _) (by omega), Nat.le_trans (Nat.add_le_add_left (Nat.le_of_ble_eq_true rfl : _ ≤ 400) _) (by omega)⟩ (fun r_1137 S_1137 h_1137 => ?_)
  refine x_widen (k' := k0 + 20 + 20) (n' := n0 + 400 + 400) (Nat.add_le_add_left (Nat.le_of_ble_eq_true rfl) _) (Nat.add_le_add_left (Nat.le_of_ble_eq_true rfl) _) ?_
  obtain ⟨rfl, rfl⟩ := h_1137
  refine x_istore C (lv' := [_, _, _, _, _, _, _, _, _]) D_L_law_52.2.2.2.2.2.2.2.2.1 (Nat.le_of_ble_eq_true rfl) (by first | rfl | exact x_ok_q rfl) rfl ?_
  refine x_aload_n C D_L_law_52.2.2.2.2.2.2.2.2.2.1 rfl rfl (by first | exact Or.inr ⟨_, rfl⟩ | exact va_rf_or _ | exact Or.inl rfl) ?_
  refine x_callVi C (y := yX9_thrown) (c_X9_thrown l G mm hm1) (ci := 8) hm1 (by decide) rfl rfl k_962 k_963 k_964 k_67 k_965 hd_X9_thrown ⟨(Nat.le_of_ble_eq_true rfl), (Nat.le_of_ble_eq_true rfl)⟩ rfl (by first | exact Nat.le_of_ble_eq_true rfl | simp [x_crf, Value.category]) rfl rfl D_L_law_52.2.2.2.2.2.2.2.2.2.2.1 ⟨Nat.le_trans (Nat.add_le_add_left (Nat.le_of_ble_eq_true rfl : _ ≤ 20) _) (by omega), Nat.le_trans (Nat.add_le_add_left (Nat.le_of_ble_eq_true rfl : _ ≤ 400) _) (by omega)⟩ (fun r_1143 S_1143 h_1143 => ?_)
  refine x_widen (k' := k0 + 20 + 20 + 20) (n' := n0 + 400 + 400 + 400) (Nat.add_le_add_left (Nat.le_of_ble_eq_true rfl) _) (Nat.add_le_add_left (Nat.le_of_ble_eq_true rfl) _) ?_
  obtain ⟨rfl, rfl⟩ := h_1143
  refine x_eqi _ (show _ = nI 1 from x_u2_s _ _ _ _) ?_
  refine x_iload C D_L_law_52.2.2.2.2.2.2.2.2.2.2.2 rfl ?_
  refine x_icmp_eq C 1153 D_L_law_53.1 (by decide) (fun c_1148 => ?_) (fun c_1148 => ?_)
  · skip
    refine x_iload C D_L_law_53.2.2.2.1 rfl ?_
    refine x_if_ne C 1170 D_L_law_53.2.2.2.2.1 (by decide) (fun c_1155 => ?_) (fun c_1155 => ?_)
    · skip
      refine x_goto C 1254 D_L_law_54.2.2.1 (by decide) ?_
      exact x_drop9 (x_widen (by omega) (by omega) (kk _ _ (INV.q hS1 hM1 hO1 hB _)))
    · skip
      exact absurd c_1155 (by decide)
      --end
  · skip
    exact absurd rfl c_1148
    --end
set_option maxHeartbeats 4000000 in
set_option maxRecDepth 100000 in
theorem lc_countInY {p : Program} {l : Launch} {ee : Env} {s : State} {mi : MethodId} {args : Array Value} {below : List Frame} {meth : Method} {cd : Code} {G : xG} {Z : State → Prop} {rt : Option FieldType} {k0 n0 bs L i x mm o : Nat} {xs : Nat → Int32} {K N : Nat → Nat} {I : Nat → Nat → Int32} {Q : Nat → Nat → Option Nat} {J : Nat → Nat → Int64} {ow : xO} {n : Nat} {c : Nat → Nat} {al : Nat → Bool} {sp tu pt : Nat → Nat} {m : Nat} {pc : Nat → Nat} {pa : Nat → Bool} {ps : Nat → Nat} {r d u g w : Int32} {ar : Nat → Nat} (C : XC p s mi args meth cd code 9 RL rt G) (hX : gX G s s.heap) (hlt : l.stackTraces = false) (hXs : va_X bs L xs s s.heap) (hbl : bs < s.heap.size) (hbA : ¬ gA G bs) (hi : i + 5 ≤ L) (hL : L ≤ 2560) (hk0 : k0 + 100 ≤ room_1.cells) (hn0 : n0 + 2000 ≤ room_1.slots) (hS : SY ow (K, N, I, Q, J) x n c al sp tu pt m pc pa ps r d u g w) (hM : KM ow (K, N, I, Q, J) mm ar n c al sp tu pt m pc pa ps r d u g w) (hO : K o = 24 ∧ N o = 1 ∧ ow o = 10) (hB : BNm n al tu m pa) (a1 a2 a3 a4 : Nat) (hac : a1 ≤ a3) (hc9 : a3 ≤ 99) (hbd : a2 ≤ a4) (hd9 : a4 ≤ 99) (y1 : xs (i + 1) = nI a1) (y2 : xs (i + 2) = nI a2) (y3 : xs (i + 3) = nI a3) (y4 : xs (i + 4) = nI a4) (kk : ∀ (ow1 : xO) (S1 : xS), INV ow1 S1 x mm o → XW p l ee room_1 s mi args below meth cd G Z (k0 + 100) (n0 + 2000) S1 1254 [some (.ref bs), some (.ref x), some (.ref mm), some (.ref o), some (.int (nI i)), none, none, none, none] []) : XW p l ee room_1 s mi args below meth cd G Z k0 n0 (K, N, I, Q, J) 1081 [some (.ref bs), some (.ref x), some (.ref mm), some (.ref o), some (.int (nI i)), none, none, none, none] [] := by
  obtain ⟨hKB, hPB, hUP, hPI, hn2, hcb, hm2, hsb, hx⟩ := hS.kb
  have hx : K x = 8 := hx
  have hmm : K mm = 9 := hM.1.1
  have ht30 : ∀ i, i < n → tu i < 2 ^ 30 := fun i hi => Nat.lt_trans (hsb i hi).2 (by decide)
  have hs30 : ∀ i, i < n → sp i < 2 ^ 30 := fun i hi => Nat.lt_trans (hsb i hi).1 (by decide)
  have hp30 : ∀ i, i < m → ps i < 2 ^ 30 := fun i hi => Nat.lt_trans (hPB i hi).2.2 (by decide)
  have hpc : ∀ j, j < m → pc j < 10000 := fun j hj => (hPB j hj).1
  refine x_aload_n C D_L_law_48.2.2.2.2.2.2.2.2.2.2.1 rfl rfl (by first | exact Or.inr ⟨_, rfl⟩ | exact va_rf_or _ | exact Or.inl rfl) ?_
  refine x_aload_n C D_L_law_48.2.2.2.2.2.2.2.2.2.2.2 rfl rfl (by first | exact Or.inr ⟨_, rfl⟩ | exact va_rf_or _ | exact Or.inl rfl) ?_
  refine x_iload C D_L_law_49.1 rfl ?_
  refine x_iconst C (v := nI 1) D_L_law_49.2.1 (by decide +kernel) ?_
  refine x_iadd C D_L_law_49.2.2.1 ?_
  first
  | refine x_eqi _ (nI_add _ _) ?_
  | skip
  refine x_sld C hXs hbl hbA _ rfl (by omega) hL D_L_law_49.2.2.2.1 ?_
  refine x_eqi _ y1 ?_
  refine x_aload_n C D_L_law_49.2.2.2.2.1 rfl rfl (by first | exact Or.inr ⟨_, rfl⟩ | exact va_rf_or _ | exact Or.inl rfl) ?_
  refine x_iload C D_L_law_49.2.2.2.2.2.1 rfl ?_
  refine x_iconst C (v := nI 2) D_L_law_49.2.2.2.2.2.2.1 (by decide +kernel) ?_
  refine x_iadd C D_L_law_49.2.2.2.2.2.2.2.1 ?_
  first
  | refine x_eqi _ (nI_add _ _) ?_
  | skip
  refine x_sld C hXs hbl hbA _ rfl (by omega) hL D_L_law_49.2.2.2.2.2.2.2.2.1 ?_
  refine x_eqi _ y2 ?_
  refine x_aload_n C D_L_law_49.2.2.2.2.2.2.2.2.2.1 rfl rfl (by first | exact Or.inr ⟨_, rfl⟩ | exact va_rf_or _ | exact Or.inl rfl) ?_
  refine x_iload C D_L_law_49.2.2.2.2.2.2.2.2.2.2.1 rfl ?_
  refine x_iconst C (v := nI 3) D_L_law_49.2.2.2.2.2.2.2.2.2.2.2 (by decide +kernel) ?_
  refine x_iadd C D_L_law_50.1 ?_
  first
  | refine x_eqi _ (nI_add _ _) ?_
  | skip
  refine x_sld C hXs hbl hbA _ rfl (by omega) hL D_L_law_50.2.1 ?_
  refine x_eqi _ y3 ?_
  refine x_aload_n C D_L_law_50.2.2.1 rfl rfl (by first | exact Or.inr ⟨_, rfl⟩ | exact va_rf_or _ | exact Or.inl rfl) ?_
  refine x_iload C D_L_law_50.2.2.2.1 rfl ?_
  refine x_iconst C (v := nI 4) D_L_law_50.2.2.2.2.1 (by decide +kernel) ?_
  refine x_iadd C D_L_law_50.2.2.2.2.2.1 ?_
  first
  | refine x_eqi _ (nI_add _ _) ?_
  | skip
  refine x_sld C hXs hbl hbA _ rfl (by omega) hL D_L_law_50.2.2.2.2.2.2.1 ?_
  refine x_eqi _ y4 ?_
  refine x_aload_n C D_L_law_50.2.2.2.2.2.2.2.1 rfl rfl (by first | exact Or.inr ⟨_, rfl⟩ | exact va_rf_or _ | exact Or.inl rfl) ?_
  refine x_callW C hX (y := yL_countIn) (c_L_countInY l G ow x o n m c al sp tu pt pc ps pa r d u g w a1 a2 a3 a4 hlt hS ⟨hO.1, hO.2.1⟩ hac hc9 hbd hd9) k_854 k_855 k_59 kw_countIn hd_L_countIn ⟨(Nat.le_of_ble_eq_true rfl), (Nat.le_of_ble_eq_true rfl)⟩ rfl (by first | exact Nat.le_of_ble_eq_true rfl | simp [x_crf, Value.category]) rfl rfl D_L_law_50.2.2.2.2.2.2.2.2.1 ⟨Nat.le_trans (Nat.add_le_add_left (Nat.le_of_ble_eq_true rfl : _ ≤ 20) _) (by omega), Nat.le_trans (Nat.add_le_add_left (Nat.le_of_ble_eq_true rfl : _ ≤ 400) _) (by omega)⟩ (fun r_1107 S_1107 h_1107 => ?_)
  refine x_widen (k' := k0 + 20) (n' := n0 + 400) (Nat.add_le_add_left (Nat.le_of_ble_eq_true rfl) _) (Nat.add_le_add_left (Nat.le_of_ble_eq_true rfl) _) ?_
  obtain ⟨rfl, S0, J2, rfl, eJ2, ow1, hF1, hS1⟩ := h_1107
  obtain ⟨K1, N1, I1, Q1, J1⟩ := S0
  have hM1 := (hM.agree hF1).J (J1 := J2)
  have hS1 := hS1.J (J1 := J2)
  have hO1 := hF1.o hO
  have hm1 : K1 mm = 9 := hM1.1.1
  have ko1 : K1 o = 24 := hO1.1
  have no1 : N1 o = 1 := hO1.2.1
  have m1d : I1 mm 1 = d := hM1.2.2.2.2.1
  have m1r : I1 mm 2 = r := hM1.2.2.2.2.2.1
  have m1u : I1 mm 3 = u := hM1.2.2.2.2.2.2.1
  have m1g : I1 mm 4 = g := hM1.2.2.2.2.2.2.2.1
  have m1w : I1 mm 11 = w := hM1.2.2.2.2.2.2.2.2
  refine x_istore C (lv' := [_, _, _, _, _, _, _, _, _]) D_L_law_50.2.2.2.2.2.2.2.2.2.1 (Nat.le_of_ble_eq_true rfl) (by first | rfl | exact x_ok_q rfl) rfl ?_
  refine x_aload_n C D_L_law_50.2.2.2.2.2.2.2.2.2.2.1 rfl rfl (by first | exact Or.inr ⟨_, rfl⟩ | exact va_rf_or _ | exact Or.inl rfl) ?_
  refine x_aload_n C D_L_law_50.2.2.2.2.2.2.2.2.2.2.2 rfl rfl (by first | exact Or.inr ⟨_, rfl⟩ | exact va_rf_or _ | exact Or.inl rfl) ?_
  refine x_iload C D_L_law_51.1 rfl ?_
  refine x_iconst C (v := nI 1) D_L_law_51.2.1 (by decide +kernel) ?_
  refine x_iadd C D_L_law_51.2.2.1 ?_
  first
  | refine x_eqi _ (nI_add _ _) ?_
  | skip
  refine x_sld C hXs hbl hbA _ rfl (by omega) hL D_L_law_51.2.2.2.1 ?_
  refine x_eqi _ y1 ?_
  refine x_aload_n C D_L_law_51.2.2.2.2.1 rfl rfl (by first | exact Or.inr ⟨_, rfl⟩ | exact va_rf_or _ | exact Or.inl rfl) ?_
  refine x_iload C D_L_law_51.2.2.2.2.2.1 rfl ?_
  refine x_iconst C (v := nI 2) D_L_law_51.2.2.2.2.2.2.1 (by decide +kernel) ?_
  refine x_iadd C D_L_law_51.2.2.2.2.2.2.2.1 ?_
  first
  | refine x_eqi _ (nI_add _ _) ?_
  | skip
  refine x_sld C hXs hbl hbA _ rfl (by omega) hL D_L_law_51.2.2.2.2.2.2.2.2.1 ?_
  refine x_eqi _ y2 ?_
  refine x_aload_n C D_L_law_51.2.2.2.2.2.2.2.2.2.1 rfl rfl (by first | exact Or.inr ⟨_, rfl⟩ | exact va_rf_or _ | exact Or.inl rfl) ?_
  refine x_iload C D_L_law_51.2.2.2.2.2.2.2.2.2.2.1 rfl ?_
  refine x_iconst C (v := nI 3) D_L_law_51.2.2.2.2.2.2.2.2.2.2.2 (by decide +kernel) ?_
  refine x_iadd C D_L_law_52.1 ?_
  first
  | refine x_eqi _ (nI_add _ _) ?_
  | skip
  refine x_sld C hXs hbl hbA _ rfl (by omega) hL D_L_law_52.2.1 ?_
  refine x_eqi _ y3 ?_
  refine x_aload_n C D_L_law_52.2.2.1 rfl rfl (by first | exact Or.inr ⟨_, rfl⟩ | exact va_rf_or _ | exact Or.inl rfl) ?_
  refine x_iload C D_L_law_52.2.2.2.1 rfl ?_
  refine x_iconst C (v := nI 4) D_L_law_52.2.2.2.2.1 (by decide +kernel) ?_
  refine x_iadd C D_L_law_52.2.2.2.2.2.1 ?_
  first
  | refine x_eqi _ (nI_add _ _) ?_
  | skip
  refine x_sld C hXs hbl hbA _ rfl (by omega) hL D_L_law_52.2.2.2.2.2.2.1 ?_
  refine x_eqi _ y4 ?_
  refine x_callVi C (y := yX9_countIn) (c_X9_countInY l G mm m ar pc ps pa a1 a2 a3 a4 hM1.1 hM1.2.2.1 hac hc9 hbd hd9 hpc) (ci := 8) hm1 (by decide) rfl rfl k_1196 k_1197 k_1198 k_67 k_1199 hd_X9_countIn ⟨(Nat.le_of_ble_eq_true rfl), (Nat.le_of_ble_eq_true rfl)⟩ rfl (by first | exact Nat.le_of_ble_eq_true rfl | simp [x_crf, Value.category]) rfl rfl D_L_law_52.2.2.2.2.2.2.2.1 ⟨Nat.le_trans (Nat.add_le_add_left (Nat.le_of_ble_eq_true rfl : _ ≤ 20) _) (by omega), Nat.le_trans (Nat.add_le_add_left (Nat.le_of_ble_eq_true rfl : _ ≤ 400) _) (by omega)⟩ (fun r_1137 S_1137 h_1137 => ?_)
  refine x_widen (k' := k0 + 20 + 20) (n' := n0 + 400 + 400) (Nat.add_le_add_left (Nat.le_of_ble_eq_true rfl) _) (Nat.add_le_add_left (Nat.le_of_ble_eq_true rfl) _) ?_
  obtain ⟨rfl, rfl⟩ := h_1137
  refine x_istore C (lv' := [_, _, _, _, _, _, _, _, _]) D_L_law_52.2.2.2.2.2.2.2.2.1 (Nat.le_of_ble_eq_true rfl) (by first | rfl | exact x_ok_q rfl) rfl ?_
  refine x_aload_n C D_L_law_52.2.2.2.2.2.2.2.2.2.1 rfl rfl (by first | exact Or.inr ⟨_, rfl⟩ | exact va_rf_or _ | exact Or.inl rfl) ?_
  refine x_callVi C (y := yX9_thrown) (c_X9_thrown l G mm hm1) (ci := 8) hm1 (by decide) rfl rfl k_962 k_963 k_964 k_67 k_965 hd_X9_thrown ⟨(Nat.le_of_ble_eq_true rfl), (Nat.le_of_ble_eq_true rfl)⟩ rfl (by first | exact Nat.le_of_ble_eq_true rfl | simp [x_crf, Value.category]) rfl rfl D_L_law_52.2.2.2.2.2.2.2.2.2.2.1 ⟨Nat.le_trans (Nat.add_le_add_left (Nat.le_of_ble_eq_true rfl : _ ≤ 20) _) (by omega), Nat.le_trans (Nat.add_le_add_left (Nat.le_of_ble_eq_true rfl : _ ≤ 400) _) (by omega)⟩ (fun r_1143 S_1143 h_1143 => ?_)
  refine x_widen (k' := k0 + 20 + 20 + 20) (n' := n0 + 400 + 400 + 400) (Nat.add_le_add_left (Nat.le_of_ble_eq_true rfl) _) (Nat.add_le_add_left (Nat.le_of_ble_eq_true rfl) _) ?_
  obtain ⟨rfl, rfl⟩ := h_1143
  refine x_eqi _ (show _ = nI 0 from x_u2_s _ _ _ _) ?_
  refine x_iload C D_L_law_52.2.2.2.2.2.2.2.2.2.2.2 rfl ?_
  refine x_icmp_eq C 1153 D_L_law_53.1 (by decide) (fun c_1148 => ?_) (fun c_1148 => ?_)
  · skip
    refine x_iload C D_L_law_53.2.2.2.1 rfl ?_
    refine x_if_ne C 1170 D_L_law_53.2.2.2.2.1 (by decide) (fun c_1155 => ?_) (fun c_1155 => ?_)
    · skip
      exact absurd rfl c_1155
      --end
    · skip
      refine x_aload_n C D_L_law_53.2.2.2.2.2.1 rfl rfl (by first | exact Or.inr ⟨_, rfl⟩ | exact va_rf_or _ | exact Or.inl rfl) ?_
      refine x_iconst C (v := nI 0) D_L_law_53.2.2.2.2.2.2.1 (by decide +kernel) ?_
      refine x_lald C 0 ko1 rfl (by omega) (by omega) D_L_law_53.2.2.2.2.2.2.2.1 ?_
      refine x_eql _ (show J2 o 0 = _ by rw [eJ2, x_u2_s]) ?_
      refine x_iload C D_L_law_53.2.2.2.2.2.2.2.2.1 rfl ?_
      refine x_i2l C D_L_law_53.2.2.2.2.2.2.2.2.2.1 ?_
      refine x_lcmp C D_L_law_53.2.2.2.2.2.2.2.2.2.2.1 ?_
      refine x_eqi _ (lg_self _) ?_
      refine x_if_eq C 1170 D_L_law_53.2.2.2.2.2.2.2.2.2.2.2 (by decide) (fun c_1165 => ?_) (fun c_1165 => ?_)
      · skip
        refine x_goto C 1254 D_L_law_54.2.2.1 (by decide) ?_
        exact x_drop9 (x_widen (by omega) (by omega) (kk _ _ (INV.q hS1 hM1 hO1 hB _)))
      · skip
        exact absurd rfl c_1165
        --end
  · skip
    exact absurd rfl c_1148
    --end
theorem hd_L_nearest : yL_nearest.cls ≠ "java/lang/invoke/MethodHandle" ∧ yL_nearest.cls ≠ "java/lang/invoke/VarHandle" ∧ (parseMethodDescriptor yL_nearest.desc).map (fun d => d.parameters.length) = some 4 := by decide +kernel
theorem hd_X9_nearest : yX9_nearest.cls ≠ "java/lang/invoke/MethodHandle" ∧ yX9_nearest.cls ≠ "java/lang/invoke/VarHandle" ∧ (parseMethodDescriptor yX9_nearest.desc).map (fun d => d.parameters.length) = some 2 := by decide +kernel
set_option maxHeartbeats 4000000 in
set_option maxRecDepth 100000 in
theorem lc_nearestX {p : Program} {l : Launch} {ee : Env} {s : State} {mi : MethodId} {args : Array Value} {below : List Frame} {meth : Method} {cd : Code} {G : xG} {Z : State → Prop} {rt : Option FieldType} {k0 n0 bs L i x mm o : Nat} {xs : Nat → Int32} {K N : Nat → Nat} {I : Nat → Nat → Int32} {Q : Nat → Nat → Option Nat} {J : Nat → Nat → Int64} {ow : xO} {n : Nat} {c : Nat → Nat} {al : Nat → Bool} {sp tu pt : Nat → Nat} {m : Nat} {pc : Nat → Nat} {pa : Nat → Bool} {ps : Nat → Nat} {r d u g w : Int32} {ar : Nat → Nat} (C : XC p s mi args meth cd code 9 RL rt G) (hX : gX G s s.heap) (hlt : l.stackTraces = false) (hXs : va_X bs L xs s s.heap) (hbl : bs < s.heap.size) (hbA : ¬ gA G bs) (hi : i + 5 ≤ L) (hL : L ≤ 2560) (hk0 : k0 + 100 ≤ room_1.cells) (hn0 : n0 + 2000 ≤ room_1.slots) (hS : SY ow (K, N, I, Q, J) x n c al sp tu pt m pc pa ps r d u g w) (hM : KM ow (K, N, I, Q, J) mm ar n c al sp tu pt m pc pa ps r d u g w) (hO : K o = 24 ∧ N o = 1 ∧ ow o = 10) (hB : BNm n al tu m pa) (hyz : xs (i + 1) < 0 ∨ nI 99 < xs (i + 1) ∨ xs (i + 2) < 0 ∨ nI 99 < xs (i + 2)) (kk : ∀ (ow1 : xO) (S1 : xS), INV ow1 S1 x mm o → XW p l ee room_1 s mi args below meth cd G Z (k0 + 100) (n0 + 2000) S1 1254 [some (.ref bs), some (.ref x), some (.ref mm), some (.ref o), some (.int (nI i)), none, none, none, none] []) : XW p l ee room_1 s mi args below meth cd G Z k0 n0 (K, N, I, Q, J) 1173 [some (.ref bs), some (.ref x), some (.ref mm), some (.ref o), some (.int (nI i)), none, none, none, none] [] := by
  obtain ⟨hKB, hPB, hUP, hPI, hn2, hcb, hm2, hsb, hx⟩ := hS.kb
  have hx : K x = 8 := hx
  have hmm : K mm = 9 := hM.1.1
  have ht30 : ∀ i, i < n → tu i < 2 ^ 30 := fun i hi => Nat.lt_trans (hsb i hi).2 (by decide)
  have hs30 : ∀ i, i < n → sp i < 2 ^ 30 := fun i hi => Nat.lt_trans (hsb i hi).1 (by decide)
  have hp30 : ∀ i, i < m → ps i < 2 ^ 30 := fun i hi => Nat.lt_trans (hPB i hi).2.2 (by decide)
  have hpc : ∀ j, j < m → pc j < 10000 := fun j hj => (hPB j hj).1
  refine x_aload_n C D_L_law_54.2.2.2.1 rfl rfl (by first | exact Or.inr ⟨_, rfl⟩ | exact va_rf_or _ | exact Or.inl rfl) ?_
  refine x_aload_n C D_L_law_54.2.2.2.2.1 rfl rfl (by first | exact Or.inr ⟨_, rfl⟩ | exact va_rf_or _ | exact Or.inl rfl) ?_
  refine x_iload C D_L_law_54.2.2.2.2.2.1 rfl ?_
  refine x_iconst C (v := nI 1) D_L_law_54.2.2.2.2.2.2.1 (by decide +kernel) ?_
  refine x_iadd C D_L_law_54.2.2.2.2.2.2.2.1 ?_
  first
  | refine x_eqi _ (nI_add _ _) ?_
  | skip
  refine x_sld C hXs hbl hbA _ rfl (by omega) hL D_L_law_54.2.2.2.2.2.2.2.2.1 ?_
  refine x_aload_n C D_L_law_54.2.2.2.2.2.2.2.2.2.1 rfl rfl (by first | exact Or.inr ⟨_, rfl⟩ | exact va_rf_or _ | exact Or.inl rfl) ?_
  refine x_iload C D_L_law_54.2.2.2.2.2.2.2.2.2.2.1 rfl ?_
  refine x_iconst C (v := nI 2) D_L_law_54.2.2.2.2.2.2.2.2.2.2.2 (by decide +kernel) ?_
  refine x_iadd C D_L_law_55.1 ?_
  first
  | refine x_eqi _ (nI_add _ _) ?_
  | skip
  refine x_sld C hXs hbl hbA _ rfl (by omega) hL D_L_law_55.2.1 ?_
  refine x_aload_n C D_L_law_55.2.2.1 rfl rfl (by first | exact Or.inr ⟨_, rfl⟩ | exact va_rf_or _ | exact Or.inl rfl) ?_
  refine x_callW C hX (y := yL_nearest) (c_L_nearestX l G ow x o n m c al sp tu pt pc ps pa r d u g w (xs (i + 1)) (xs (i + 2)) hlt hS ⟨hO.1, hO.2.1⟩ hyz) k_881 k_882 k_59 kw_nearest hd_L_nearest ⟨(Nat.le_of_ble_eq_true rfl), (Nat.le_of_ble_eq_true rfl)⟩ rfl (by first | exact Nat.le_of_ble_eq_true rfl | simp [x_crf, Value.category]) rfl rfl D_L_law_55.2.2.2.1 ⟨Nat.le_trans (Nat.add_le_add_left (Nat.le_of_ble_eq_true rfl : _ ≤ 20) _) (by omega), Nat.le_trans (Nat.add_le_add_left (Nat.le_of_ble_eq_true rfl : _ ≤ 400) _) (by omega)⟩ (fun r_1187 S_1187 h_1187 => ?_)
  refine x_widen (k' := k0 + 20) (n' := n0 + 400) (Nat.add_le_add_left (Nat.le_of_ble_eq_true rfl) _) (Nat.add_le_add_left (Nat.le_of_ble_eq_true rfl) _) ?_
  obtain ⟨rfl, ow1, hF1, hS1⟩ := h_1187
  obtain ⟨K1, N1, I1, Q1, J1⟩ := S_1187
  have hM1 := hM.agree hF1
  have hO1 := hF1.o hO
  have hm1 : K1 mm = 9 := hM1.1.1
  have m1d : I1 mm 1 = d := hM1.2.2.2.2.1
  have m1r : I1 mm 2 = r := hM1.2.2.2.2.2.1
  have m1u : I1 mm 3 = u := hM1.2.2.2.2.2.2.1
  have m1g : I1 mm 4 = g := hM1.2.2.2.2.2.2.2.1
  have m1w : I1 mm 11 = w := hM1.2.2.2.2.2.2.2.2
  refine x_istore C (lv' := [_, _, _, _, _, _, _, _, _]) D_L_law_55.2.2.2.2.1 (Nat.le_of_ble_eq_true rfl) (by first | rfl | exact x_ok_q rfl) rfl ?_
  refine x_aload_n C D_L_law_55.2.2.2.2.2.1 rfl rfl (by first | exact Or.inr ⟨_, rfl⟩ | exact va_rf_or _ | exact Or.inl rfl) ?_
  refine x_aload_n C D_L_law_55.2.2.2.2.2.2.1 rfl rfl (by first | exact Or.inr ⟨_, rfl⟩ | exact va_rf_or _ | exact Or.inl rfl) ?_
  refine x_iload C D_L_law_55.2.2.2.2.2.2.2.1 rfl ?_
  refine x_iconst C (v := nI 1) D_L_law_55.2.2.2.2.2.2.2.2.1 (by decide +kernel) ?_
  refine x_iadd C D_L_law_55.2.2.2.2.2.2.2.2.2.1 ?_
  first
  | refine x_eqi _ (nI_add _ _) ?_
  | skip
  refine x_sld C hXs hbl hbA _ rfl (by omega) hL D_L_law_55.2.2.2.2.2.2.2.2.2.2.1 ?_
  refine x_aload_n C D_L_law_55.2.2.2.2.2.2.2.2.2.2.2 rfl rfl (by first | exact Or.inr ⟨_, rfl⟩ | exact va_rf_or _ | exact Or.inl rfl) ?_
  refine x_iload C D_L_law_56.1 rfl ?_
  refine x_iconst C (v := nI 2) D_L_law_56.2.1 (by decide +kernel) ?_
  refine x_iadd C D_L_law_56.2.2.1 ?_
  first
  | refine x_eqi _ (nI_add _ _) ?_
  | skip
  refine x_sld C hXs hbl hbA _ rfl (by omega) hL D_L_law_56.2.2.2.1 ?_
  refine x_callVi C (y := yX9_nearest) (c_X9_nearestX l G mm m ar pc ps pa (xs (i + 1)) (xs (i + 2)) hM1.1 hM1.2.2.1 hyz) (ci := 8) hm1 (by decide) rfl rfl k_1200 k_1201 k_1202 k_67 k_1203 hd_X9_nearest ⟨(Nat.le_of_ble_eq_true rfl), (Nat.le_of_ble_eq_true rfl)⟩ rfl (by first | exact Nat.le_of_ble_eq_true rfl | simp [x_crf, Value.category]) rfl rfl D_L_law_56.2.2.2.2.1 ⟨Nat.le_trans (Nat.add_le_add_left (Nat.le_of_ble_eq_true rfl : _ ≤ 20) _) (by omega), Nat.le_trans (Nat.add_le_add_left (Nat.le_of_ble_eq_true rfl : _ ≤ 400) _) (by omega)⟩ (fun r_1205 S_1205 h_1205 => ?_)
  refine x_widen (k' := k0 + 20 + 20) (n' := n0 + 400 + 400) (Nat.add_le_add_left (Nat.le_of_ble_eq_true rfl) _) (Nat.add_le_add_left (Nat.le_of_ble_eq_true rfl) _) ?_
  obtain ⟨rfl, rfl⟩ := h_1205
  refine x_istore C (lv' := [_, _, _, _, _, _, _, _, _]) D_L_law_56.2.2.2.2.2.1 (Nat.le_of_ble_eq_true rfl) (by first | rfl | exact x_ok_q rfl) rfl ?_
  refine x_aload_n C D_L_law_56.2.2.2.2.2.2.1 rfl rfl (by first | exact Or.inr ⟨_, rfl⟩ | exact va_rf_or _ | exact Or.inl rfl) ?_
  refine x_callVi C (y := yX9_thrown) (c_X9_thrown l G mm hm1) (ci := 8) hm1 (by decide) rfl rfl k_962 k_963 k_964 k_67 k_965 hd_X9_thrown ⟨(Nat.le_of_ble_eq_true rfl), (Nat.le_of_ble_eq_true rfl)⟩ rfl (by first | exact Nat.le_of_ble_eq_true rfl | simp [x_crf, Value.category]) rfl rfl D_L_law_56.2.2.2.2.2.2.2.1 ⟨Nat.le_trans (Nat.add_le_add_left (Nat.le_of_ble_eq_true rfl : _ ≤ 20) _) (by omega), Nat.le_trans (Nat.add_le_add_left (Nat.le_of_ble_eq_true rfl : _ ≤ 400) _) (by omega)⟩ (fun r_1211 S_1211 h_1211 => ?_)
  refine x_widen (k' := k0 + 20 + 20 + 20) (n' := n0 + 400 + 400 + 400) (Nat.add_le_add_left (Nat.le_of_ble_eq_true rfl) _) (Nat.add_le_add_left (Nat.le_of_ble_eq_true rfl) _) ?_
  obtain ⟨rfl, rfl⟩ := h_1211
  refine x_eqi _ (show _ = nI 1 from x_u2_s _ _ _ _) ?_
  refine x_iload C D_L_law_56.2.2.2.2.2.2.2.2.1 rfl ?_
  refine x_icmp_eq C 1221 D_L_law_56.2.2.2.2.2.2.2.2.2.1 (by decide) (fun c_1216 => ?_) (fun c_1216 => ?_)
  · skip
    refine x_iload C D_L_law_57.1 rfl ?_
    refine x_if_ne C 1238 D_L_law_57.2.1 (by decide) (fun c_1223 => ?_) (fun c_1223 => ?_)
    · skip
      refine x_goto C 1254 D_L_law_57.2.2.2.2.2.2.2.2.2.2.2 (by decide) ?_
      exact x_drop9 (x_widen (by omega) (by omega) (kk _ _ (INV.q hS1 hM1 hO1 hB _)))
    · skip
      exact absurd c_1223 (by decide)
      --end
  · skip
    exact absurd rfl c_1216
    --end
set_option maxHeartbeats 4000000 in
set_option maxRecDepth 100000 in
theorem lc_nearestZ {p : Program} {l : Launch} {ee : Env} {s : State} {mi : MethodId} {args : Array Value} {below : List Frame} {meth : Method} {cd : Code} {G : xG} {Z : State → Prop} {rt : Option FieldType} {k0 n0 bs L i x mm o : Nat} {xs : Nat → Int32} {K N : Nat → Nat} {I : Nat → Nat → Int32} {Q : Nat → Nat → Option Nat} {J : Nat → Nat → Int64} {ow : xO} {n : Nat} {c : Nat → Nat} {al : Nat → Bool} {sp tu pt : Nat → Nat} {m : Nat} {pc : Nat → Nat} {pa : Nat → Bool} {ps : Nat → Nat} {r d u g w : Int32} {ar : Nat → Nat} (C : XC p s mi args meth cd code 9 RL rt G) (hX : gX G s s.heap) (hlt : l.stackTraces = false) (hXs : va_X bs L xs s s.heap) (hbl : bs < s.heap.size) (hbA : ¬ gA G bs) (hi : i + 5 ≤ L) (hL : L ≤ 2560) (hk0 : k0 + 100 ≤ room_1.cells) (hn0 : n0 + 2000 ≤ room_1.slots) (hS : SY ow (K, N, I, Q, J) x n c al sp tu pt m pc pa ps r d u g w) (hM : KM ow (K, N, I, Q, J) mm ar n c al sp tu pt m pc pa ps r d u g w) (hO : K o = 24 ∧ N o = 1 ∧ ow o = 10) (hB : BNm n al tu m pa) (a1 a2 : Nat) (ha : a1 < 100) (hb9 : a2 < 100) (y1 : xs (i + 1) = nI a1) (y2 : xs (i + 2) = nI a2) (hlv : cn pa m = 0) (kk : ∀ (ow1 : xO) (S1 : xS), INV ow1 S1 x mm o → XW p l ee room_1 s mi args below meth cd G Z (k0 + 100) (n0 + 2000) S1 1254 [some (.ref bs), some (.ref x), some (.ref mm), some (.ref o), some (.int (nI i)), none, none, none, none] []) : XW p l ee room_1 s mi args below meth cd G Z k0 n0 (K, N, I, Q, J) 1173 [some (.ref bs), some (.ref x), some (.ref mm), some (.ref o), some (.int (nI i)), none, none, none, none] [] := by
  obtain ⟨hKB, hPB, hUP, hPI, hn2, hcb, hm2, hsb, hx⟩ := hS.kb
  have hx : K x = 8 := hx
  have hmm : K mm = 9 := hM.1.1
  have ht30 : ∀ i, i < n → tu i < 2 ^ 30 := fun i hi => Nat.lt_trans (hsb i hi).2 (by decide)
  have hs30 : ∀ i, i < n → sp i < 2 ^ 30 := fun i hi => Nat.lt_trans (hsb i hi).1 (by decide)
  have hp30 : ∀ i, i < m → ps i < 2 ^ 30 := fun i hi => Nat.lt_trans (hPB i hi).2.2 (by decide)
  have hpc : ∀ j, j < m → pc j < 10000 := fun j hj => (hPB j hj).1
  refine x_aload_n C D_L_law_54.2.2.2.1 rfl rfl (by first | exact Or.inr ⟨_, rfl⟩ | exact va_rf_or _ | exact Or.inl rfl) ?_
  refine x_aload_n C D_L_law_54.2.2.2.2.1 rfl rfl (by first | exact Or.inr ⟨_, rfl⟩ | exact va_rf_or _ | exact Or.inl rfl) ?_
  refine x_iload C D_L_law_54.2.2.2.2.2.1 rfl ?_
  refine x_iconst C (v := nI 1) D_L_law_54.2.2.2.2.2.2.1 (by decide +kernel) ?_
  refine x_iadd C D_L_law_54.2.2.2.2.2.2.2.1 ?_
  first
  | refine x_eqi _ (nI_add _ _) ?_
  | skip
  refine x_sld C hXs hbl hbA _ rfl (by omega) hL D_L_law_54.2.2.2.2.2.2.2.2.1 ?_
  refine x_eqi _ y1 ?_
  refine x_aload_n C D_L_law_54.2.2.2.2.2.2.2.2.2.1 rfl rfl (by first | exact Or.inr ⟨_, rfl⟩ | exact va_rf_or _ | exact Or.inl rfl) ?_
  refine x_iload C D_L_law_54.2.2.2.2.2.2.2.2.2.2.1 rfl ?_
  refine x_iconst C (v := nI 2) D_L_law_54.2.2.2.2.2.2.2.2.2.2.2 (by decide +kernel) ?_
  refine x_iadd C D_L_law_55.1 ?_
  first
  | refine x_eqi _ (nI_add _ _) ?_
  | skip
  refine x_sld C hXs hbl hbA _ rfl (by omega) hL D_L_law_55.2.1 ?_
  refine x_eqi _ y2 ?_
  refine x_aload_n C D_L_law_55.2.2.1 rfl rfl (by first | exact Or.inr ⟨_, rfl⟩ | exact va_rf_or _ | exact Or.inl rfl) ?_
  refine x_callW C hX (y := yL_nearest) (c_L_nearestZ l G ow x o n m c al sp tu pt pc ps pa r d u g w a1 a2 hlt hS ⟨hO.1, hO.2.1⟩ ha hb9 hlv) k_881 k_882 k_59 kw_nearest hd_L_nearest ⟨(Nat.le_of_ble_eq_true rfl), (Nat.le_of_ble_eq_true rfl)⟩ rfl (by first | exact Nat.le_of_ble_eq_true rfl | simp [x_crf, Value.category]) rfl rfl D_L_law_55.2.2.2.1 ⟨Nat.le_trans (Nat.add_le_add_left (Nat.le_of_ble_eq_true rfl : _ ≤ 20) _) (by omega), Nat.le_trans (Nat.add_le_add_left (Nat.le_of_ble_eq_true rfl : _ ≤ 400) _) (by omega)⟩ (fun r_1187 S_1187 h_1187 => ?_)
  refine x_widen (k' := k0 + 20) (n' := n0 + 400) (Nat.add_le_add_left (Nat.le_of_ble_eq_true rfl) _) (Nat.add_le_add_left (Nat.le_of_ble_eq_true rfl) _) ?_
  obtain ⟨rfl, ow1, hF1, hS1⟩ := h_1187
  obtain ⟨K1, N1, I1, Q1, J1⟩ := S_1187
  have hM1 := hM.agree hF1
  have hO1 := hF1.o hO
  have hm1 : K1 mm = 9 := hM1.1.1
  have m1d : I1 mm 1 = d := hM1.2.2.2.2.1
  have m1r : I1 mm 2 = r := hM1.2.2.2.2.2.1
  have m1u : I1 mm 3 = u := hM1.2.2.2.2.2.2.1
  have m1g : I1 mm 4 = g := hM1.2.2.2.2.2.2.2.1
  have m1w : I1 mm 11 = w := hM1.2.2.2.2.2.2.2.2
  refine x_istore C (lv' := [_, _, _, _, _, _, _, _, _]) D_L_law_55.2.2.2.2.1 (Nat.le_of_ble_eq_true rfl) (by first | rfl | exact x_ok_q rfl) rfl ?_
  refine x_aload_n C D_L_law_55.2.2.2.2.2.1 rfl rfl (by first | exact Or.inr ⟨_, rfl⟩ | exact va_rf_or _ | exact Or.inl rfl) ?_
  refine x_aload_n C D_L_law_55.2.2.2.2.2.2.1 rfl rfl (by first | exact Or.inr ⟨_, rfl⟩ | exact va_rf_or _ | exact Or.inl rfl) ?_
  refine x_iload C D_L_law_55.2.2.2.2.2.2.2.1 rfl ?_
  refine x_iconst C (v := nI 1) D_L_law_55.2.2.2.2.2.2.2.2.1 (by decide +kernel) ?_
  refine x_iadd C D_L_law_55.2.2.2.2.2.2.2.2.2.1 ?_
  first
  | refine x_eqi _ (nI_add _ _) ?_
  | skip
  refine x_sld C hXs hbl hbA _ rfl (by omega) hL D_L_law_55.2.2.2.2.2.2.2.2.2.2.1 ?_
  refine x_eqi _ y1 ?_
  refine x_aload_n C D_L_law_55.2.2.2.2.2.2.2.2.2.2.2 rfl rfl (by first | exact Or.inr ⟨_, rfl⟩ | exact va_rf_or _ | exact Or.inl rfl) ?_
  refine x_iload C D_L_law_56.1 rfl ?_
  refine x_iconst C (v := nI 2) D_L_law_56.2.1 (by decide +kernel) ?_
  refine x_iadd C D_L_law_56.2.2.1 ?_
  first
  | refine x_eqi _ (nI_add _ _) ?_
  | skip
  refine x_sld C hXs hbl hbA _ rfl (by omega) hL D_L_law_56.2.2.2.1 ?_
  refine x_eqi _ y2 ?_
  refine x_callVi C (y := yX9_nearest) (c_X9_nearestZ l G mm m ar pc ps pa a1 a2 hM1.1 hM1.2.2.1 ha hb9 hlv) (ci := 8) hm1 (by decide) rfl rfl k_1200 k_1201 k_1202 k_67 k_1203 hd_X9_nearest ⟨(Nat.le_of_ble_eq_true rfl), (Nat.le_of_ble_eq_true rfl)⟩ rfl (by first | exact Nat.le_of_ble_eq_true rfl | simp [x_crf, Value.category]) rfl rfl D_L_law_56.2.2.2.2.1 ⟨Nat.le_trans (Nat.add_le_add_left (Nat.le_of_ble_eq_true rfl : _ ≤ 20) _) (by omega), Nat.le_trans (Nat.add_le_add_left (Nat.le_of_ble_eq_true rfl : _ ≤ 400) _) (by omega)⟩ (fun r_1205 S_1205 h_1205 => ?_)
  refine x_widen (k' := k0 + 20 + 20) (n' := n0 + 400 + 400) (Nat.add_le_add_left (Nat.le_of_ble_eq_true rfl) _) (Nat.add_le_add_left (Nat.le_of_ble_eq_true rfl) _) ?_
  obtain ⟨rfl, rfl⟩ := h_1205
  refine x_istore C (lv' := [_, _, _, _, _, _, _, _, _]) D_L_law_56.2.2.2.2.2.1 (Nat.le_of_ble_eq_true rfl) (by first | rfl | exact x_ok_q rfl) rfl ?_
  refine x_aload_n C D_L_law_56.2.2.2.2.2.2.1 rfl rfl (by first | exact Or.inr ⟨_, rfl⟩ | exact va_rf_or _ | exact Or.inl rfl) ?_
  refine x_callVi C (y := yX9_thrown) (c_X9_thrown l G mm hm1) (ci := 8) hm1 (by decide) rfl rfl k_962 k_963 k_964 k_67 k_965 hd_X9_thrown ⟨(Nat.le_of_ble_eq_true rfl), (Nat.le_of_ble_eq_true rfl)⟩ rfl (by first | exact Nat.le_of_ble_eq_true rfl | simp [x_crf, Value.category]) rfl rfl D_L_law_56.2.2.2.2.2.2.2.1 ⟨Nat.le_trans (Nat.add_le_add_left (Nat.le_of_ble_eq_true rfl : _ ≤ 20) _) (by omega), Nat.le_trans (Nat.add_le_add_left (Nat.le_of_ble_eq_true rfl : _ ≤ 400) _) (by omega)⟩ (fun r_1211 S_1211 h_1211 => ?_)
  refine x_widen (k' := k0 + 20 + 20 + 20) (n' := n0 + 400 + 400 + 400) (Nat.add_le_add_left (Nat.le_of_ble_eq_true rfl) _) (Nat.add_le_add_left (Nat.le_of_ble_eq_true rfl) _) ?_
  obtain ⟨rfl, rfl⟩ := h_1211
  refine x_eqi _ (show _ = nI 2 from x_u2_s _ _ _ _) ?_
  refine x_iload C D_L_law_56.2.2.2.2.2.2.2.2.1 rfl ?_
  refine x_icmp_eq C 1221 D_L_law_56.2.2.2.2.2.2.2.2.2.1 (by decide) (fun c_1216 => ?_) (fun c_1216 => ?_)
  · skip
    refine x_iload C D_L_law_57.1 rfl ?_
    refine x_if_ne C 1238 D_L_law_57.2.1 (by decide) (fun c_1223 => ?_) (fun c_1223 => ?_)
    · skip
      refine x_goto C 1254 D_L_law_57.2.2.2.2.2.2.2.2.2.2.2 (by decide) ?_
      exact x_drop9 (x_widen (by omega) (by omega) (kk _ _ (INV.q hS1 hM1 hO1 hB _)))
    · skip
      exact absurd c_1223 (by decide)
      --end
  · skip
    exact absurd rfl c_1216
    --end
set_option maxHeartbeats 4000000 in
set_option maxRecDepth 100000 in
theorem lc_nearestY {p : Program} {l : Launch} {ee : Env} {s : State} {mi : MethodId} {args : Array Value} {below : List Frame} {meth : Method} {cd : Code} {G : xG} {Z : State → Prop} {rt : Option FieldType} {k0 n0 bs L i x mm o : Nat} {xs : Nat → Int32} {K N : Nat → Nat} {I : Nat → Nat → Int32} {Q : Nat → Nat → Option Nat} {J : Nat → Nat → Int64} {ow : xO} {n : Nat} {c : Nat → Nat} {al : Nat → Bool} {sp tu pt : Nat → Nat} {m : Nat} {pc : Nat → Nat} {pa : Nat → Bool} {ps : Nat → Nat} {r d u g w : Int32} {ar : Nat → Nat} (C : XC p s mi args meth cd code 9 RL rt G) (hX : gX G s s.heap) (hlt : l.stackTraces = false) (hXs : va_X bs L xs s s.heap) (hbl : bs < s.heap.size) (hbA : ¬ gA G bs) (hi : i + 5 ≤ L) (hL : L ≤ 2560) (hk0 : k0 + 100 ≤ room_1.cells) (hn0 : n0 + 2000 ≤ room_1.slots) (hS : SY ow (K, N, I, Q, J) x n c al sp tu pt m pc pa ps r d u g w) (hM : KM ow (K, N, I, Q, J) mm ar n c al sp tu pt m pc pa ps r d u g w) (hO : K o = 24 ∧ N o = 1 ∧ ow o = 10) (hB : BNm n al tu m pa) (a1 a2 : Nat) (ha : a1 < 100) (hb9 : a2 < 100) (y1 : xs (i + 1) = nI a1) (y2 : xs (i + 2) = nI a2) (hlv : 0 < cn pa m) (kk : ∀ (ow1 : xO) (S1 : xS), INV ow1 S1 x mm o → XW p l ee room_1 s mi args below meth cd G Z (k0 + 100) (n0 + 2000) S1 1254 [some (.ref bs), some (.ref x), some (.ref mm), some (.ref o), some (.int (nI i)), none, none, none, none] []) : XW p l ee room_1 s mi args below meth cd G Z k0 n0 (K, N, I, Q, J) 1173 [some (.ref bs), some (.ref x), some (.ref mm), some (.ref o), some (.int (nI i)), none, none, none, none] [] := by
  obtain ⟨hKB, hPB, hUP, hPI, hn2, hcb, hm2, hsb, hx⟩ := hS.kb
  have hx : K x = 8 := hx
  have hmm : K mm = 9 := hM.1.1
  have ht30 : ∀ i, i < n → tu i < 2 ^ 30 := fun i hi => Nat.lt_trans (hsb i hi).2 (by decide)
  have hs30 : ∀ i, i < n → sp i < 2 ^ 30 := fun i hi => Nat.lt_trans (hsb i hi).1 (by decide)
  have hp30 : ∀ i, i < m → ps i < 2 ^ 30 := fun i hi => Nat.lt_trans (hPB i hi).2.2 (by decide)
  have hpc : ∀ j, j < m → pc j < 10000 := fun j hj => (hPB j hj).1
  refine x_aload_n C D_L_law_54.2.2.2.1 rfl rfl (by first | exact Or.inr ⟨_, rfl⟩ | exact va_rf_or _ | exact Or.inl rfl) ?_
  refine x_aload_n C D_L_law_54.2.2.2.2.1 rfl rfl (by first | exact Or.inr ⟨_, rfl⟩ | exact va_rf_or _ | exact Or.inl rfl) ?_
  refine x_iload C D_L_law_54.2.2.2.2.2.1 rfl ?_
  refine x_iconst C (v := nI 1) D_L_law_54.2.2.2.2.2.2.1 (by decide +kernel) ?_
  refine x_iadd C D_L_law_54.2.2.2.2.2.2.2.1 ?_
  first
  | refine x_eqi _ (nI_add _ _) ?_
  | skip
  refine x_sld C hXs hbl hbA _ rfl (by omega) hL D_L_law_54.2.2.2.2.2.2.2.2.1 ?_
  refine x_eqi _ y1 ?_
  refine x_aload_n C D_L_law_54.2.2.2.2.2.2.2.2.2.1 rfl rfl (by first | exact Or.inr ⟨_, rfl⟩ | exact va_rf_or _ | exact Or.inl rfl) ?_
  refine x_iload C D_L_law_54.2.2.2.2.2.2.2.2.2.2.1 rfl ?_
  refine x_iconst C (v := nI 2) D_L_law_54.2.2.2.2.2.2.2.2.2.2.2 (by decide +kernel) ?_
  refine x_iadd C D_L_law_55.1 ?_
  first
  | refine x_eqi _ (nI_add _ _) ?_
  | skip
  refine x_sld C hXs hbl hbA _ rfl (by omega) hL D_L_law_55.2.1 ?_
  refine x_eqi _ y2 ?_
  refine x_aload_n C D_L_law_55.2.2.1 rfl rfl (by first | exact Or.inr ⟨_, rfl⟩ | exact va_rf_or _ | exact Or.inl rfl) ?_
  refine x_callW C hX (y := yL_nearest) (c_L_nearestY l G ow x o n m c al sp tu pt pc ps pa r d u g w a1 a2 hlt hS ⟨hO.1, hO.2.1⟩ ha hb9 hlv) k_881 k_882 k_59 kw_nearest hd_L_nearest ⟨(Nat.le_of_ble_eq_true rfl), (Nat.le_of_ble_eq_true rfl)⟩ rfl (by first | exact Nat.le_of_ble_eq_true rfl | simp [x_crf, Value.category]) rfl rfl D_L_law_55.2.2.2.1 ⟨Nat.le_trans (Nat.add_le_add_left (Nat.le_of_ble_eq_true rfl : _ ≤ 20) _) (by omega), Nat.le_trans (Nat.add_le_add_left (Nat.le_of_ble_eq_true rfl : _ ≤ 400) _) (by omega)⟩ (fun r_1187 S_1187 h_1187 => ?_)
  refine x_widen (k' := k0 + 20) (n' := n0 + 400) (Nat.add_le_add_left (Nat.le_of_ble_eq_true rfl) _) (Nat.add_le_add_left (Nat.le_of_ble_eq_true rfl) _) ?_
  obtain ⟨rfl, S0, J2, rfl, eJ2, ow1, hF1, hS1⟩ := h_1187
  obtain ⟨K1, N1, I1, Q1, J1⟩ := S0
  have hM1 := (hM.agree hF1).J (J1 := J2)
  have hS1 := hS1.J (J1 := J2)
  have hO1 := hF1.o hO
  have hm1 : K1 mm = 9 := hM1.1.1
  have ko1 : K1 o = 24 := hO1.1
  have no1 : N1 o = 1 := hO1.2.1
  have m1d : I1 mm 1 = d := hM1.2.2.2.2.1
  have m1r : I1 mm 2 = r := hM1.2.2.2.2.2.1
  have m1u : I1 mm 3 = u := hM1.2.2.2.2.2.2.1
  have m1g : I1 mm 4 = g := hM1.2.2.2.2.2.2.2.1
  have m1w : I1 mm 11 = w := hM1.2.2.2.2.2.2.2.2
  refine x_istore C (lv' := [_, _, _, _, _, _, _, _, _]) D_L_law_55.2.2.2.2.1 (Nat.le_of_ble_eq_true rfl) (by first | rfl | exact x_ok_q rfl) rfl ?_
  refine x_aload_n C D_L_law_55.2.2.2.2.2.1 rfl rfl (by first | exact Or.inr ⟨_, rfl⟩ | exact va_rf_or _ | exact Or.inl rfl) ?_
  refine x_aload_n C D_L_law_55.2.2.2.2.2.2.1 rfl rfl (by first | exact Or.inr ⟨_, rfl⟩ | exact va_rf_or _ | exact Or.inl rfl) ?_
  refine x_iload C D_L_law_55.2.2.2.2.2.2.2.1 rfl ?_
  refine x_iconst C (v := nI 1) D_L_law_55.2.2.2.2.2.2.2.2.1 (by decide +kernel) ?_
  refine x_iadd C D_L_law_55.2.2.2.2.2.2.2.2.2.1 ?_
  first
  | refine x_eqi _ (nI_add _ _) ?_
  | skip
  refine x_sld C hXs hbl hbA _ rfl (by omega) hL D_L_law_55.2.2.2.2.2.2.2.2.2.2.1 ?_
  refine x_eqi _ y1 ?_
  refine x_aload_n C D_L_law_55.2.2.2.2.2.2.2.2.2.2.2 rfl rfl (by first | exact Or.inr ⟨_, rfl⟩ | exact va_rf_or _ | exact Or.inl rfl) ?_
  refine x_iload C D_L_law_56.1 rfl ?_
  refine x_iconst C (v := nI 2) D_L_law_56.2.1 (by decide +kernel) ?_
  refine x_iadd C D_L_law_56.2.2.1 ?_
  first
  | refine x_eqi _ (nI_add _ _) ?_
  | skip
  refine x_sld C hXs hbl hbA _ rfl (by omega) hL D_L_law_56.2.2.2.1 ?_
  refine x_eqi _ y2 ?_
  refine x_callVi C (y := yX9_nearest) (c_X9_nearestY l G mm m ar pc ps pa a1 a2 hM1.1 hM1.2.2.1 ha hb9 hlv hpc) (ci := 8) hm1 (by decide) rfl rfl k_1200 k_1201 k_1202 k_67 k_1203 hd_X9_nearest ⟨(Nat.le_of_ble_eq_true rfl), (Nat.le_of_ble_eq_true rfl)⟩ rfl (by first | exact Nat.le_of_ble_eq_true rfl | simp [x_crf, Value.category]) rfl rfl D_L_law_56.2.2.2.2.1 ⟨Nat.le_trans (Nat.add_le_add_left (Nat.le_of_ble_eq_true rfl : _ ≤ 20) _) (by omega), Nat.le_trans (Nat.add_le_add_left (Nat.le_of_ble_eq_true rfl : _ ≤ 400) _) (by omega)⟩ (fun r_1205 S_1205 h_1205 => ?_)
  refine x_widen (k' := k0 + 20 + 20) (n' := n0 + 400 + 400) (Nat.add_le_add_left (Nat.le_of_ble_eq_true rfl) _) (Nat.add_le_add_left (Nat.le_of_ble_eq_true rfl) _) ?_
  obtain ⟨rfl, rfl⟩ := h_1205
  refine x_istore C (lv' := [_, _, _, _, _, _, _, _, _]) D_L_law_56.2.2.2.2.2.1 (Nat.le_of_ble_eq_true rfl) (by first | rfl | exact x_ok_q rfl) rfl ?_
  refine x_aload_n C D_L_law_56.2.2.2.2.2.2.1 rfl rfl (by first | exact Or.inr ⟨_, rfl⟩ | exact va_rf_or _ | exact Or.inl rfl) ?_
  refine x_callVi C (y := yX9_thrown) (c_X9_thrown l G mm hm1) (ci := 8) hm1 (by decide) rfl rfl k_962 k_963 k_964 k_67 k_965 hd_X9_thrown ⟨(Nat.le_of_ble_eq_true rfl), (Nat.le_of_ble_eq_true rfl)⟩ rfl (by first | exact Nat.le_of_ble_eq_true rfl | simp [x_crf, Value.category]) rfl rfl D_L_law_56.2.2.2.2.2.2.2.1 ⟨Nat.le_trans (Nat.add_le_add_left (Nat.le_of_ble_eq_true rfl : _ ≤ 20) _) (by omega), Nat.le_trans (Nat.add_le_add_left (Nat.le_of_ble_eq_true rfl : _ ≤ 400) _) (by omega)⟩ (fun r_1211 S_1211 h_1211 => ?_)
  refine x_widen (k' := k0 + 20 + 20 + 20) (n' := n0 + 400 + 400 + 400) (Nat.add_le_add_left (Nat.le_of_ble_eq_true rfl) _) (Nat.add_le_add_left (Nat.le_of_ble_eq_true rfl) _) ?_
  obtain ⟨rfl, rfl⟩ := h_1211
  refine x_eqi _ (show _ = nI 0 from x_u2_s _ _ _ _) ?_
  refine x_iload C D_L_law_56.2.2.2.2.2.2.2.2.1 rfl ?_
  refine x_icmp_eq C 1221 D_L_law_56.2.2.2.2.2.2.2.2.2.1 (by decide) (fun c_1216 => ?_) (fun c_1216 => ?_)
  · skip
    refine x_iload C D_L_law_57.1 rfl ?_
    refine x_if_ne C 1238 D_L_law_57.2.1 (by decide) (fun c_1223 => ?_) (fun c_1223 => ?_)
    · skip
      exact absurd rfl c_1223
      --end
    · skip
      refine x_aload_n C D_L_law_57.2.2.1 rfl rfl (by first | exact Or.inr ⟨_, rfl⟩ | exact va_rf_or _ | exact Or.inl rfl) ?_
      refine x_iconst C (v := nI 0) D_L_law_57.2.2.2.1 (by decide +kernel) ?_
      refine x_lald C 0 ko1 rfl (by omega) (by omega) D_L_law_57.2.2.2.2.1 ?_
      refine x_eql _ (show J2 o 0 = _ by rw [eJ2, x_u2_s]) ?_
      refine x_iload C D_L_law_57.2.2.2.2.2.1 rfl ?_
      refine x_i2l C D_L_law_57.2.2.2.2.2.2.1 ?_
      refine x_lcmp C D_L_law_57.2.2.2.2.2.2.2.1 ?_
      refine x_eqi _ (lg_self _) ?_
      refine x_if_eq C 1238 D_L_law_57.2.2.2.2.2.2.2.2.1 (by decide) (fun c_1233 => ?_) (fun c_1233 => ?_)
      · skip
        refine x_goto C 1254 D_L_law_57.2.2.2.2.2.2.2.2.2.2.2 (by decide) ?_
        exact x_drop9 (x_widen (by omega) (by omega) (kk _ _ (INV.q hS1 hM1 hO1 hB _)))
      · skip
        exact absurd rfl c_1233
        --end
  · skip
    exact absurd rfl c_1216
    --end
