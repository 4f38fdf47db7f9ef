theorem hd_X8_contains : yX8_contains.cls ≠ "java/lang/invoke/MethodHandle" ∧ yX8_contains.cls ≠ "java/lang/invoke/VarHandle" ∧ (parseMethodDescriptor yX8_contains.desc).map (fun d => d.parameters.length) = some 1 := by decide +kernel
theorem hd_X9_contains : yX9_contains.cls ≠ "java/lang/invoke/MethodHandle" ∧ yX9_contains.cls ≠ "java/lang/invoke/VarHandle" ∧ (parseMethodDescriptor yX9_contains.desc).map (fun d => d.parameters.length) = some 1 := by decide +kernel
set_option maxHeartbeats 4000000 in
set_option maxRecDepth 100000 in
theorem lc_containsY {p : Program} {l : Launch} {ee : Env} {s : State} {mi : MethodId} {args : Array Value} {below : List Frame} {meth : Method} {cd : Code} {G : xG} {Z : State → Prop} {rt : Option FieldType} {k0 n0 bs L i x mm o : Nat} {xs : Nat → Int32} {K N : Nat → Nat} {I : Nat → Nat → Int32} {Q : Nat → Nat → Option Nat} {J : Nat → Nat → Int64} {ow : xO} {n : Nat} {c : Nat → Nat} {al : Nat → Bool} {sp tu pt : Nat → Nat} {m : Nat} {pc : Nat → Nat} {pa : Nat → Bool} {ps : Nat → Nat} {r d u g w : Int32} {ar : Nat → Nat} (C : XC p s mi args meth cd code 9 RL rt G) (hX : gX G s s.heap) (hlt : l.stackTraces = false) (hXs : va_X bs L xs s s.heap) (hbl : bs < s.heap.size) (hbA : ¬ gA G bs) (hi : i + 5 ≤ L) (hL : L ≤ 2560) (hk0 : k0 + 100 ≤ room_1.cells) (hn0 : n0 + 2000 ≤ room_1.slots) (hS : SY ow (K, N, I, Q, J) x n c al sp tu pt m pc pa ps r d u g w) (hM : KM ow (K, N, I, Q, J) mm ar n c al sp tu pt m pc pa ps r d u g w) (hO : K o = 24 ∧ N o = 1 ∧ ow o = 10) (hB : BNm n al tu m pa) (k : Nat) (hk : k < n) (y1 : xs (i + 1) = cv1 (c k)) (kk : ∀ (ow1 : xO) (S1 : xS), INV ow1 S1 x mm o → XW p l ee room_1 s mi args below meth cd G Z (k0 + 100) (n0 + 2000) S1 1254 [some (.ref bs), some (.ref x), some (.ref mm), some (.ref o), some (.int (nI i)), none, none, none, none] []) : XW p l ee room_1 s mi args below meth cd G Z k0 n0 (K, N, I, Q, J) 260 [some (.ref bs), some (.ref x), some (.ref mm), some (.ref o), some (.int (nI i)), none, none, none, none] [] := by
  obtain ⟨hKB, hPB, hUP, hPI, hn2, hcb, hm2, hsb, hx⟩ := hS.kb
  have hx : K x = 8 := hx
  have hmm : K mm = 9 := hM.1.1
  have ht30 : ∀ i, i < n → tu i < 2 ^ 30 := fun i hi => Nat.lt_trans (hsb i hi).2 (by decide)
  have hs30 : ∀ i, i < n → sp i < 2 ^ 30 := fun i hi => Nat.lt_trans (hsb i hi).1 (by decide)
  have hp30 : ∀ i, i < m → ps i < 2 ^ 30 := fun i hi => Nat.lt_trans (hPB i hi).2.2 (by decide)
  refine x_aload_n C D_L_law_6.2.2.2.2.2.2.2.2.1 rfl rfl (by first | exact Or.inr ⟨_, rfl⟩ | exact va_rf_or _ | exact Or.inl rfl) ?_
  refine x_aload_n C D_L_law_6.2.2.2.2.2.2.2.2.2.1 rfl rfl (by first | exact Or.inr ⟨_, rfl⟩ | exact va_rf_or _ | exact Or.inl rfl) ?_
  refine x_iload C D_L_law_6.2.2.2.2.2.2.2.2.2.2.1 rfl ?_
  refine x_iconst C (v := nI 1) D_L_law_6.2.2.2.2.2.2.2.2.2.2.2 (by decide +kernel) ?_
  refine x_iadd C D_L_law_7.1 ?_
  first
  | refine x_eqi _ (nI_add _ _) ?_
  | skip
  refine x_sld C hXs hbl hbA _ rfl (by omega) hL D_L_law_7.2.1 ?_
  refine x_eqi _ y1 ?_
  refine x_callVz C (y := yX8_contains) (c_X8_containsY l G ow x n m c al sp tu pt pc ps pa r d u g w k hS hk) (ci := 7) (by assumption) (by decide) rfl rfl k_338 k_339 k_340 k_60 k_341 hd_X8_contains ⟨(Nat.le_of_ble_eq_true rfl), (Nat.le_of_ble_eq_true rfl)⟩ rfl (by first | exact Nat.le_of_ble_eq_true rfl | simp [x_crf, Value.category]) rfl rfl D_L_law_7.2.2.1 ⟨Nat.le_trans (Nat.add_le_add_left (Nat.le_of_ble_eq_true rfl : _ ≤ 20) _) (by omega), Nat.le_trans (Nat.add_le_add_left (Nat.le_of_ble_eq_true rfl : _ ≤ 400) _) (by omega)⟩ (fun r_267 S_267 h_267 => ?_)
  refine x_widen (k' := k0 + 20) (n' := n0 + 400) (Nat.add_le_add_left (Nat.le_of_ble_eq_true rfl) _) (Nat.add_le_add_left (Nat.le_of_ble_eq_true rfl) _) ?_
  obtain ⟨rfl, rfl⟩ := h_267
  have hM1 := hM
  have hS1 := hS
  have hO1 := hO
  have hm1 : K mm = 9 := hM1.1.1
  have m1d : I mm 1 = d := hM1.2.2.2.2.1
  have m1r : I mm 2 = r := hM1.2.2.2.2.2.1
  have m1u : I mm 3 = u := hM1.2.2.2.2.2.2.1
  have m1g : I mm 4 = g := hM1.2.2.2.2.2.2.2.1
  have m1w : I mm 11 = w := hM1.2.2.2.2.2.2.2.2
  refine x_aload_n C D_L_law_7.2.2.2.1 rfl rfl (by first | exact Or.inr ⟨_, rfl⟩ | exact va_rf_or _ | exact Or.inl rfl) ?_
  refine x_aload_n C D_L_law_7.2.2.2.2.1 rfl rfl (by first | exact Or.inr ⟨_, rfl⟩ | exact va_rf_or _ | exact Or.inl rfl) ?_
  refine x_iload C D_L_law_7.2.2.2.2.2.1 rfl ?_
  refine x_iconst C (v := nI 1) D_L_law_7.2.2.2.2.2.2.1 (by decide +kernel) ?_
  refine x_iadd C D_L_law_7.2.2.2.2.2.2.2.1 ?_
  first
  | refine x_eqi _ (nI_add _ _) ?_
  | skip
  refine x_sld C hXs hbl hbA _ rfl (by omega) hL D_L_law_7.2.2.2.2.2.2.2.2.1 ?_
  refine x_eqi _ y1 ?_
  refine x_callVz C (y := yX9_contains) (c_X9_contains l G mm n ar c sp tu pt al (cv1 (c k)) hM1.1 hM1.2.1 ) (ci := 8) hm1 (by decide) rfl rfl k_1058 k_1059 k_1060 k_67 k_1061 hd_X9_contains ⟨(Nat.le_of_ble_eq_true rfl), (Nat.le_of_ble_eq_true rfl)⟩ rfl (by first | exact Nat.le_of_ble_eq_true rfl | simp [x_crf, Value.category]) rfl rfl D_L_law_7.2.2.2.2.2.2.2.2.2.1 ⟨Nat.le_trans (Nat.add_le_add_left (Nat.le_of_ble_eq_true rfl : _ ≤ 20) _) (by omega), Nat.le_trans (Nat.add_le_add_left (Nat.le_of_ble_eq_true rfl : _ ≤ 400) _) (by omega)⟩ (fun r_277 S_277 h_277 => ?_)
  refine x_widen (k' := k0 + 20 + 20) (n' := n0 + 400 + 400) (Nat.add_le_add_left (Nat.le_of_ble_eq_true rfl) _) (Nat.add_le_add_left (Nat.le_of_ble_eq_true rfl) _) ?_
  obtain ⟨rfl, rfl⟩ := h_277
  refine x_eqi _ (congrArg xb (by rw [(KV_some hM1.2.1 hUP hcb hk)])) ?_
  refine x_icmp_eq C 1254 D_L_law_7.2.2.2.2.2.2.2.2.2.2.1 (by decide) (fun c_280 => ?_) (fun c_280 => ?_)
  · skip
    exact x_drop9 (x_widen (by omega) (by omega) (kk _ _ (INV.q hS1 hM1 hO1 hB _)))
  · skip
    exact absurd rfl c_280
    --end
set_option maxHeartbeats 4000000 in
set_option maxRecDepth 100000 in
theorem lc_containsN {p : Program} {l : Launch} {ee : Env} {s : State} {mi : MethodId} {args : Array Value} {below : List Frame} {meth : Method} {cd : Code} {G : xG} {Z : State → Prop} {rt : Option FieldType} {k0 n0 bs L i x mm o : Nat} {xs : Nat → Int32} {K N : Nat → Nat} {I : Nat → Nat → Int32} {Q : Nat → Nat → Option Nat} {J : Nat → Nat → Int64} {ow : xO} {n : Nat} {c : Nat → Nat} {al : Nat → Bool} {sp tu pt : Nat → Nat} {m : Nat} {pc : Nat → Nat} {pa : Nat → Bool} {ps : Nat → Nat} {r d u g w : Int32} {ar : Nat → Nat} (C : XC p s mi args meth cd code 9 RL rt G) (hX : gX G s s.heap) (hlt : l.stackTraces = false) (hXs : va_X bs L xs s s.heap) (hbl : bs < s.heap.size) (hbA : ¬ gA G bs) (hi : i + 5 ≤ L) (hL : L ≤ 2560) (hk0 : k0 + 100 ≤ room_1.cells) (hn0 : n0 + 2000 ≤ room_1.slots) (hS : SY ow (K, N, I, Q, J) x n c al sp tu pt m pc pa ps r d u g w) (hM : KM ow (K, N, I, Q, J) mm ar n c al sp tu pt m pc pa ps r d u g w) (hO : K o = 24 ∧ N o = 1 ∧ ow o = 10) (hB : BNm n al tu m pa) (hno : ∀ j, j < n → ¬ cv1 (c j) = xs (i + 1)) (kk : ∀ (ow1 : xO) (S1 : xS), INV ow1 S1 x mm o → XW p l ee room_1 s mi args below meth cd G Z (k0 + 100) (n0 + 2000) S1 1254 [some (.ref bs), some (.ref x), some (.ref mm), some (.ref o), some (.int (nI i)), none, none, none, none] []) : XW p l ee room_1 s mi args below meth cd G Z k0 n0 (K, N, I, Q, J) 260 [some (.ref bs), some (.ref x), some (.ref mm), some (.ref o), some (.int (nI i)), none, none, none, none] [] := by
  obtain ⟨hKB, hPB, hUP, hPI, hn2, hcb, hm2, hsb, hx⟩ := hS.kb
  have hx : K x = 8 := hx
  have hmm : K mm = 9 := hM.1.1
  have ht30 : ∀ i, i < n → tu i < 2 ^ 30 := fun i hi => Nat.lt_trans (hsb i hi).2 (by decide)
  have hs30 : ∀ i, i < n → sp i < 2 ^ 30 := fun i hi => Nat.lt_trans (hsb i hi).1 (by decide)
  have hp30 : ∀ i, i < m → ps i < 2 ^ 30 := fun i hi => Nat.lt_trans (hPB i hi).2.2 (by decide)
  refine x_aload_n C D_L_law_6.2.2.2.2.2.2.2.2.1 rfl rfl (by first | exact Or.inr ⟨_, rfl⟩ | exact va_rf_or _ | exact Or.inl rfl) ?_
  refine x_aload_n C D_L_law_6.2.2.2.2.2.2.2.2.2.1 rfl rfl (by first | exact Or.inr ⟨_, rfl⟩ | exact va_rf_or _ | exact Or.inl rfl) ?_
  refine x_iload C D_L_law_6.2.2.2.2.2.2.2.2.2.2.1 rfl ?_
  refine x_iconst C (v := nI 1) D_L_law_6.2.2.2.2.2.2.2.2.2.2.2 (by decide +kernel) ?_
  refine x_iadd C D_L_law_7.1 ?_
  first
  | refine x_eqi _ (nI_add _ _) ?_
  | skip
  refine x_sld C hXs hbl hbA _ rfl (by omega) hL D_L_law_7.2.1 ?_
  refine x_callVz C (y := yX8_contains) (c_X8_containsN l G ow x n m c al sp tu pt pc ps pa r d u g w (xs (i + 1)) hS hno) (ci := 7) (by assumption) (by decide) rfl rfl k_338 k_339 k_340 k_60 k_341 hd_X8_contains ⟨(Nat.le_of_ble_eq_true rfl), (Nat.le_of_ble_eq_true rfl)⟩ rfl (by first | exact Nat.le_of_ble_eq_true rfl | simp [x_crf, Value.category]) rfl rfl D_L_law_7.2.2.1 ⟨Nat.le_trans (Nat.add_le_add_left (Nat.le_of_ble_eq_true rfl : _ ≤ 20) _) (by omega), Nat.le_trans (Nat.add_le_add_left (Nat.le_of_ble_eq_true rfl : _ ≤ 400) _) (by omega)⟩ (fun r_267 S_267 h_267 => ?_)
  refine x_widen (k' := k0 + 20) (n' := n0 + 400) (Nat.add_le_add_left (Nat.le_of_ble_eq_true rfl) _) (Nat.add_le_add_left (Nat.le_of_ble_eq_true rfl) _) ?_
  obtain ⟨rfl, rfl⟩ := h_267
  have hM1 := hM
  have hS1 := hS
  have hO1 := hO
  have hm1 : K mm = 9 := hM1.1.1
  have m1d : I mm 1 = d := hM1.2.2.2.2.1
  have m1r : I mm 2 = r := hM1.2.2.2.2.2.1
  have m1u : I mm 3 = u := hM1.2.2.2.2.2.2.1
  have m1g : I mm 4 = g := hM1.2.2.2.2.2.2.2.1
  have m1w : I mm 11 = w := hM1.2.2.2.2.2.2.2.2
  refine x_aload_n C D_L_law_7.2.2.2.1 rfl rfl (by first | exact Or.inr ⟨_, rfl⟩ | exact va_rf_or _ | exact Or.inl rfl) ?_
  refine x_aload_n C D_L_law_7.2.2.2.2.1 rfl rfl (by first | exact Or.inr ⟨_, rfl⟩ | exact va_rf_or _ | exact Or.inl rfl) ?_
  refine x_iload C D_L_law_7.2.2.2.2.2.1 rfl ?_
  refine x_iconst C (v := nI 1) D_L_law_7.2.2.2.2.2.2.1 (by decide +kernel) ?_
  refine x_iadd C D_L_law_7.2.2.2.2.2.2.2.1 ?_
  first
  | refine x_eqi _ (nI_add _ _) ?_
  | skip
  refine x_sld C hXs hbl hbA _ rfl (by omega) hL D_L_law_7.2.2.2.2.2.2.2.2.1 ?_
  refine x_callVz C (y := yX9_contains) (c_X9_contains l G mm n ar c sp tu pt al (xs (i + 1)) hM1.1 hM1.2.1 ) (ci := 8) hm1 (by decide) rfl rfl k_1058 k_1059 k_1060 k_67 k_1061 hd_X9_contains ⟨(Nat.le_of_ble_eq_true rfl), (Nat.le_of_ble_eq_true rfl)⟩ rfl (by first | exact Nat.le_of_ble_eq_true rfl | simp [x_crf, Value.category]) rfl rfl D_L_law_7.2.2.2.2.2.2.2.2.2.1 ⟨Nat.le_trans (Nat.add_le_add_left (Nat.le_of_ble_eq_true rfl : _ ≤ 20) _) (by omega), Nat.le_trans (Nat.add_le_add_left (Nat.le_of_ble_eq_true rfl : _ ≤ 400) _) (by omega)⟩ (fun r_277 S_277 h_277 => ?_)
  refine x_widen (k' := k0 + 20 + 20) (n' := n0 + 400 + 400) (Nat.add_le_add_left (Nat.le_of_ble_eq_true rfl) _) (Nat.add_le_add_left (Nat.le_of_ble_eq_true rfl) _) ?_
  obtain ⟨rfl, rfl⟩ := h_277
  refine x_eqi _ (congrArg xb (by rw [KV_none hM1.2.1 hno])) ?_
  refine x_icmp_eq C 1254 D_L_law_7.2.2.2.2.2.2.2.2.2.2.1 (by decide) (fun c_280 => ?_) (fun c_280 => ?_)
  · skip
    exact x_drop9 (x_widen (by omega) (by omega) (kk _ _ (INV.q hS1 hM1 hO1 hB _)))
  · skip
    exact absurd rfl c_280
    --end
theorem hd_X8_size : yX8_size.cls ≠ "java/lang/invoke/MethodHandle" ∧ yX8_size.cls ≠ "java/lang/invoke/VarHandle" ∧ (parseMethodDescriptor yX8_size.desc).map (fun d => d.parameters.length) = some 0 := by decide +kernel
theorem hd_X9_size : yX9_size.cls ≠ "java/lang/invoke/MethodHandle" ∧ yX9_size.cls ≠ "java/lang/invoke/VarHandle" ∧ (parseMethodDescriptor yX9_size.desc).map (fun d => d.parameters.length) = some 0 := by decide +kernel
set_option maxHeartbeats 4000000 in
set_option maxRecDepth 100000 in
theorem lc_size {p : Program} {l : Launch} {ee : Env} {s : State} {mi : MethodId} {args : Array Value} {below : List Frame} {meth : Method} {cd : Code} {G : xG} {Z : State → Prop} {rt : Option FieldType} {k0 n0 bs L i x mm o : Nat} {xs : Nat → Int32} {K N : Nat → Nat} {I : Nat → Nat → Int32} {Q : Nat → Nat → Option Nat} {J : Nat → Nat → Int64} {ow : xO} {n : Nat} {c : Nat → Nat} {al : Nat → Bool} {sp tu pt : Nat → Nat} {m : Nat} {pc : Nat → Nat} {pa : Nat → Bool} {ps : Nat → Nat} {r d u g w : Int32} {ar : Nat → Nat} (C : XC p s mi args meth cd code 9 RL rt G) (hX : gX G s s.heap) (hlt : l.stackTraces = false) (hXs : va_X bs L xs s s.heap) (hbl : bs < s.heap.size) (hbA : ¬ gA G bs) (hi : i + 5 ≤ L) (hL : L ≤ 2560) (hk0 : k0 + 100 ≤ room_1.cells) (hn0 : n0 + 2000 ≤ room_1.slots) (hS : SY ow (K, N, I, Q, J) x n c al sp tu pt m pc pa ps r d u g w) (hM : KM ow (K, N, I, Q, J) mm ar n c al sp tu pt m pc pa ps r d u g w) (hO : K o = 24 ∧ N o = 1 ∧ ow o = 10) (hB : BNm n al tu m pa)  (kk : ∀ (ow1 : xO) (S1 : xS), INV ow1 S1 x mm o → XW p l ee room_1 s mi args below meth cd G Z (k0 + 100) (n0 + 2000) S1 1254 [some (.ref bs), some (.ref x), some (.ref mm), some (.ref o), some (.int (nI i)), none, none, none, none] []) : XW p l ee room_1 s mi args below meth cd G Z k0 n0 (K, N, I, Q, J) 285 [some (.ref bs), some (.ref x), some (.ref mm), some (.ref o), some (.int (nI i)), none, none, none, none] [] := by
  obtain ⟨hKB, hPB, hUP, hPI, hn2, hcb, hm2, hsb, hx⟩ := hS.kb
  have hx : K x = 8 := hx
  have hmm : K mm = 9 := hM.1.1
  have ht30 : ∀ i, i < n → tu i < 2 ^ 30 := fun i hi => Nat.lt_trans (hsb i hi).2 (by decide)
  have hs30 : ∀ i, i < n → sp i < 2 ^ 30 := fun i hi => Nat.lt_trans (hsb i hi).1 (by decide)
  have hp30 : ∀ i, i < m → ps i < 2 ^ 30 := fun i hi => Nat.lt_trans (hPB i hi).2.2 (by decide)
  refine x_aload_n C D_L_law_8.2.1 rfl rfl (by first | exact Or.inr ⟨_, rfl⟩ | exact va_rf_or _ | exact Or.inl rfl) ?_
  refine x_callVi C (y := yX8_size) (c_X8_size l G ow x n m c al sp tu pt pc ps pa r d u g w  hS ) (ci := 7) (by assumption) (by decide) rfl rfl k_342 k_343 k_344 k_60 k_345 hd_X8_size ⟨(Nat.le_of_ble_eq_true rfl), (Nat.le_of_ble_eq_true rfl)⟩ rfl (by first | exact Nat.le_of_ble_eq_true rfl | simp [x_crf, Value.category]) rfl rfl D_L_law_8.2.2.1 ⟨Nat.le_trans (Nat.add_le_add_left (Nat.le_of_ble_eq_true rfl : _ ≤ 20) _) (by omega), Nat.le_trans (Nat.add_le_add_left (Nat.le_of_ble_eq_true rfl : _ ≤ 400) _) (by omega)⟩ (fun r_286 S_286 h_286 => ?_)
  refine x_widen (k' := k0 + 20) (n' := n0 + 400) (Nat.add_le_add_left (Nat.le_of_ble_eq_true rfl) _) (Nat.add_le_add_left (Nat.le_of_ble_eq_true rfl) _) ?_
  obtain ⟨rfl, rfl⟩ := h_286
  have hM1 := hM
  have hS1 := hS
  have hO1 := hO
  have hm1 : K mm = 9 := hM1.1.1
  have m1d : I mm 1 = d := hM1.2.2.2.2.1
  have m1r : I mm 2 = r := hM1.2.2.2.2.2.1
  have m1u : I mm 3 = u := hM1.2.2.2.2.2.2.1
  have m1g : I mm 4 = g := hM1.2.2.2.2.2.2.2.1
  have m1w : I mm 11 = w := hM1.2.2.2.2.2.2.2.2
  refine x_aload_n C D_L_law_8.2.2.2.1 rfl rfl (by first | exact Or.inr ⟨_, rfl⟩ | exact va_rf_or _ | exact Or.inl rfl) ?_
  refine x_callVi C (y := yX9_size) (c_X9_size l G mm n ar c sp tu pt al  hM1.1 hM1.2.1 ) (ci := 8) hm1 (by decide) rfl rfl k_1062 k_1063 k_1064 k_67 k_1065 hd_X9_size ⟨(Nat.le_of_ble_eq_true rfl), (Nat.le_of_ble_eq_true rfl)⟩ rfl (by first | exact Nat.le_of_ble_eq_true rfl | simp [x_crf, Value.category]) rfl rfl D_L_law_8.2.2.2.2.1 ⟨Nat.le_trans (Nat.add_le_add_left (Nat.le_of_ble_eq_true rfl : _ ≤ 20) _) (by omega), Nat.le_trans (Nat.add_le_add_left (Nat.le_of_ble_eq_true rfl : _ ≤ 400) _) (by omega)⟩ (fun r_290 S_290 h_290 => ?_)
  refine x_widen (k' := k0 + 20 + 20) (n' := n0 + 400 + 400) (Nat.add_le_add_left (Nat.le_of_ble_eq_true rfl) _) (Nat.add_le_add_left (Nat.le_of_ble_eq_true rfl) _) ?_
  obtain ⟨rfl, rfl⟩ := h_290
  refine x_icmp_eq C 1254 D_L_law_8.2.2.2.2.2.1 (by decide) (fun c_293 => ?_) (fun c_293 => ?_)
  · skip
    exact x_drop9 (x_widen (by omega) (by omega) (kk _ _ (INV.q hS1 hM1 hO1 hB _)))
  · skip
    exact absurd rfl c_293
    --end
theorem hd_X8_rank : yX8_rank.cls ≠ "java/lang/invoke/MethodHandle" ∧ yX8_rank.cls ≠ "java/lang/invoke/VarHandle" ∧ (parseMethodDescriptor yX8_rank.desc).map (fun d => d.parameters.length) = some 1 := by decide +kernel
theorem hd_X9_rank : yX9_rank.cls ≠ "java/lang/invoke/MethodHandle" ∧ yX9_rank.cls ≠ "java/lang/invoke/VarHandle" ∧ (parseMethodDescriptor yX9_rank.desc).map (fun d => d.parameters.length) = some 1 := by decide +kernel
set_option maxHeartbeats 4000000 in
set_option maxRecDepth 100000 in
theorem lc_rank {p : Program} {l : Launch} {ee : Env} {s : State} {mi : MethodId} {args : Array Value} {below : List Frame} {meth : Method} {cd : Code} {G : xG} {Z : State → Prop} {rt : Option FieldType} {k0 n0 bs L i x mm o : Nat} {xs : Nat → Int32} {K N : Nat → Nat} {I : Nat → Nat → Int32} {Q : Nat → Nat → Option Nat} {J : Nat → Nat → Int64} {ow : xO} {n : Nat} {c : Nat → Nat} {al : Nat → Bool} {sp tu pt : Nat → Nat} {m : Nat} {pc : Nat → Nat} {pa : Nat → Bool} {ps : Nat → Nat} {r d u g w : Int32} {ar : Nat → Nat} (C : XC p s mi args meth cd code 9 RL rt G) (hX : gX G s s.heap) (hlt : l.stackTraces = false) (hXs : va_X bs L xs s s.heap) (hbl : bs < s.heap.size) (hbA : ¬ gA G bs) (hi : i + 5 ≤ L) (hL : L ≤ 2560) (hk0 : k0 + 100 ≤ room_1.cells) (hn0 : n0 + 2000 ≤ room_1.slots) (hS : SY ow (K, N, I, Q, J) x n c al sp tu pt m pc pa ps r d u g w) (hM : KM ow (K, N, I, Q, J) mm ar n c al sp tu pt m pc pa ps r d u g w) (hO : K o = 24 ∧ N o = 1 ∧ ow o = 10) (hB : BNm n al tu m pa)  (kk : ∀ (ow1 : xO) (S1 : xS), INV ow1 S1 x mm o → XW p l ee room_1 s mi args below meth cd G Z (k0 + 100) (n0 + 2000) S1 1254 [some (.ref bs), some (.ref x), some (.ref mm), some (.ref o), some (.int (nI i)), none, none, none, none] []) : XW p l ee room_1 s mi args below meth cd G Z k0 n0 (K, N, I, Q, J) 298 [some (.ref bs), some (.ref x), some (.ref mm), some (.ref o), some (.int (nI i)), none, none, none, none] [] := by
  obtain ⟨hKB, hPB, hUP, hPI, hn2, hcb, hm2, hsb, hx⟩ := hS.kb
  have hx : K x = 8 := hx
  have hmm : K mm = 9 := hM.1.1
  have ht30 : ∀ i, i < n → tu i < 2 ^ 30 := fun i hi => Nat.lt_trans (hsb i hi).2 (by decide)
  have hs30 : ∀ i, i < n → sp i < 2 ^ 30 := fun i hi => Nat.lt_trans (hsb i hi).1 (by decide)
  have hp30 : ∀ i, i < m → ps i < 2 ^ 30 := fun i hi => Nat.lt_trans (hPB i hi).2.2 (by decide)
  have k5 : ∀ j, j < n → I (ar 5) j = cv1 (c j) := hM.2.1.2.2.1
  refine x_aload_n C D_L_law_8.2.2.2.2.2.2.2.2.1 rfl rfl (by first | exact Or.inr ⟨_, rfl⟩ | exact va_rf_or _ | exact Or.inl rfl) ?_
  refine x_aload_n C D_L_law_8.2.2.2.2.2.2.2.2.2.1 rfl rfl (by first | exact Or.inr ⟨_, rfl⟩ | exact va_rf_or _ | exact Or.inl rfl) ?_
  refine x_iload C D_L_law_8.2.2.2.2.2.2.2.2.2.2.1 rfl ?_
  refine x_iconst C (v := nI 1) D_L_law_8.2.2.2.2.2.2.2.2.2.2.2 (by decide +kernel) ?_
  refine x_iadd C D_L_law_9.1 ?_
  first
  | refine x_eqi _ (nI_add _ _) ?_
  | skip
  refine x_sld C hXs hbl hbA _ rfl (by omega) hL D_L_law_9.2.1 ?_
  refine x_callVi C (y := yX8_rank) (c_X8_rank l G ow x n m c al sp tu pt pc ps pa r d u g w (xs (i + 1)) hS ) (ci := 7) (by assumption) (by decide) rfl rfl k_350 k_351 k_352 k_60 k_353 hd_X8_rank ⟨(Nat.le_of_ble_eq_true rfl), (Nat.le_of_ble_eq_true rfl)⟩ rfl (by first | exact Nat.le_of_ble_eq_true rfl | simp [x_crf, Value.category]) rfl rfl D_L_law_9.2.2.1 ⟨Nat.le_trans (Nat.add_le_add_left (Nat.le_of_ble_eq_true rfl : _ ≤ 20) _) (by omega), Nat.le_trans (Nat.add_le_add_left (Nat.le_of_ble_eq_true rfl : _ ≤ 400) _) (by omega)⟩ (fun r_305 S_305 h_305 => ?_)
  refine x_widen (k' := k0 + 20) (n' := n0 + 400) (Nat.add_le_add_left (Nat.le_of_ble_eq_true rfl) _) (Nat.add_le_add_left (Nat.le_of_ble_eq_true rfl) _) ?_
  obtain ⟨rfl, rfl⟩ := h_305
  have hM1 := hM
  have hS1 := hS
  have hO1 := hO
  have hm1 : K mm = 9 := hM1.1.1
  have m1d : I mm 1 = d := hM1.2.2.2.2.1
  have m1r : I mm 2 = r := hM1.2.2.2.2.2.1
  have m1u : I mm 3 = u := hM1.2.2.2.2.2.2.1
  have m1g : I mm 4 = g := hM1.2.2.2.2.2.2.2.1
  have m1w : I mm 11 = w := hM1.2.2.2.2.2.2.2.2
  refine x_aload_n C D_L_law_9.2.2.2.1 rfl rfl (by first | exact Or.inr ⟨_, rfl⟩ | exact va_rf_or _ | exact Or.inl rfl) ?_
  refine x_aload_n C D_L_law_9.2.2.2.2.1 rfl rfl (by first | exact Or.inr ⟨_, rfl⟩ | exact va_rf_or _ | exact Or.inl rfl) ?_
  refine x_iload C D_L_law_9.2.2.2.2.2.1 rfl ?_
  refine x_iconst C (v := nI 1) D_L_law_9.2.2.2.2.2.2.1 (by decide +kernel) ?_
  refine x_iadd C D_L_law_9.2.2.2.2.2.2.2.1 ?_
  first
  | refine x_eqi _ (nI_add _ _) ?_
  | skip
  refine x_sld C hXs hbl hbA _ rfl (by omega) hL D_L_law_9.2.2.2.2.2.2.2.2.1 ?_
  refine x_callVi C (y := yX9_rank) (c_X9_rank l G mm n ar c sp tu pt al (xs (i + 1)) hM1.1 hM1.2.1 ) (ci := 8) hm1 (by decide) rfl rfl k_1066 k_1067 k_1068 k_67 k_1069 hd_X9_rank ⟨(Nat.le_of_ble_eq_true rfl), (Nat.le_of_ble_eq_true rfl)⟩ rfl (by first | exact Nat.le_of_ble_eq_true rfl | simp [x_crf, Value.category]) rfl rfl D_L_law_9.2.2.2.2.2.2.2.2.2.1 ⟨Nat.le_trans (Nat.add_le_add_left (Nat.le_of_ble_eq_true rfl : _ ≤ 20) _) (by omega), Nat.le_trans (Nat.add_le_add_left (Nat.le_of_ble_eq_true rfl : _ ≤ 400) _) (by omega)⟩ (fun r_315 S_315 h_315 => ?_)
  refine x_widen (k' := k0 + 20 + 20) (n' := n0 + 400 + 400) (Nat.add_le_add_left (Nat.le_of_ble_eq_true rfl) _) (Nat.add_le_add_left (Nat.le_of_ble_eq_true rfl) _) ?_
  obtain ⟨rfl, rfl⟩ := h_315
  refine x_eqi _ ((show _ = nI (cn (fun j => al j && decide (cv1 (c j) < xs (i + 1))) n) from congrArg nI (cn_congr (fun j hj => by rw [k5 j hj])))) ?_
  refine x_icmp_eq C 1254 D_L_law_9.2.2.2.2.2.2.2.2.2.2.1 (by decide) (fun c_318 => ?_) (fun c_318 => ?_)
  · skip
    exact x_drop9 (x_widen (by omega) (by omega) (kk _ _ (INV.q hS1 hM1 hO1 hB _)))
  · skip
    exact absurd rfl c_318
    --end
theorem hd_X8_nodes : yX8_nodes.cls ≠ "java/lang/invoke/MethodHandle" ∧ yX8_nodes.cls ≠ "java/lang/invoke/VarHandle" ∧ (parseMethodDescriptor yX8_nodes.desc).map (fun d => d.parameters.length) = some 0 := by decide +kernel
theorem hd_X9_nodes : yX9_nodes.cls ≠ "java/lang/invoke/MethodHandle" ∧ yX9_nodes.cls ≠ "java/lang/invoke/VarHandle" ∧ (parseMethodDescriptor yX9_nodes.desc).map (fun d => d.parameters.length) = some 0 := by decide +kernel
set_option maxHeartbeats 4000000 in
set_option maxRecDepth 100000 in
theorem lc_nodes {p : Program} {l : Launch} {ee : Env} {s : State} {mi : MethodId} {args : Array Value} {below : List Frame} {meth : Method} {cd : Code} {G : xG} {Z : State → Prop} {rt : Option FieldType} {k0 n0 bs L i x mm o : Nat} {xs : Nat → Int32} {K N : Nat → Nat} {I : Nat → Nat → Int32} {Q : Nat → Nat → Option Nat} {J : Nat → Nat → Int64} {ow : xO} {n : Nat} {c : Nat → Nat} {al : Nat → Bool} {sp tu pt : Nat → Nat} {m : Nat} {pc : Nat → Nat} {pa : Nat → Bool} {ps : Nat → Nat} {r d u g w : Int32} {ar : Nat → Nat} (C : XC p s mi args meth cd code 9 RL rt G) (hX : gX G s s.heap) (hlt : l.stackTraces = false) (hXs : va_X bs L xs s s.heap) (hbl : bs < s.heap.size) (hbA : ¬ gA G bs) (hi : i + 5 ≤ L) (hL : L ≤ 2560) (hk0 : k0 + 100 ≤ room_1.cells) (hn0 : n0 + 2000 ≤ room_1.slots) (hS : SY ow (K, N, I, Q, J) x n c al sp tu pt m pc pa ps r d u g w) (hM : KM ow (K, N, I, Q, J) mm ar n c al sp tu pt m pc pa ps r d u g w) (hO : K o = 24 ∧ N o = 1 ∧ ow o = 10) (hB : BNm n al tu m pa)  (kk : ∀ (ow1 : xO) (S1 : xS), INV ow1 S1 x mm o → XW p l ee room_1 s mi args below meth cd G Z (k0 + 100) (n0 + 2000) S1 1254 [some (.ref bs), some (.ref x), some (.ref mm), some (.ref o), some (.int (nI i)), none, none, none, none] []) : XW p l ee room_1 s mi args below meth cd G Z k0 n0 (K, N, I, Q, J) 379 [some (.ref bs), some (.ref x), some (.ref mm), some (.ref o), some (.int (nI i)), none, none, none, none] [] := by
  obtain ⟨hKB, hPB, hUP, hPI, hn2, hcb, hm2, hsb, hx⟩ := hS.kb
  have hx : K x = 8 := hx
  have hmm : K mm = 9 := hM.1.1
  have ht30 : ∀ i, i < n → tu i < 2 ^ 30 := fun i hi => Nat.lt_trans (hsb i hi).2 (by decide)
  have hs30 : ∀ i, i < n → sp i < 2 ^ 30 := fun i hi => Nat.lt_trans (hsb i hi).1 (by decide)
  have hp30 : ∀ i, i < m → ps i < 2 ^ 30 := fun i hi => Nat.lt_trans (hPB i hi).2.2 (by decide)
  refine x_aload_n C D_L_law_13.1 rfl rfl (by first | exact Or.inr ⟨_, rfl⟩ | exact va_rf_or _ | exact Or.inl rfl) ?_
  refine x_callVi C (y := yX8_nodes) (c_X8_nodes l G ow x n m c al sp tu pt pc ps pa r d u g w  hS ) (ci := 7) (by assumption) (by decide) rfl rfl k_358 k_359 k_360 k_60 k_361 hd_X8_nodes ⟨(Nat.le_of_ble_eq_true rfl), (Nat.le_of_ble_eq_true rfl)⟩ rfl (by first | exact Nat.le_of_ble_eq_true rfl | simp [x_crf, Value.category]) rfl rfl D_L_law_13.2.1 ⟨Nat.le_trans (Nat.add_le_add_left (Nat.le_of_ble_eq_true rfl : _ ≤ 20) _) (by omega), Nat.le_trans (Nat.add_le_add_left (Nat.le_of_ble_eq_true rfl : _ ≤ 400) _) (by omega)⟩ (fun r_380 S_380 h_380 => ?_)
  refine x_widen (k' := k0 + 20) (n' := n0 + 400) (Nat.add_le_add_left (Nat.le_of_ble_eq_true rfl) _) (Nat.add_le_add_left (Nat.le_of_ble_eq_true rfl) _) ?_
  obtain ⟨rfl, rfl⟩ := h_380
  have hM1 := hM
  have hS1 := hS
  have hO1 := hO
  have hm1 : K mm = 9 := hM1.1.1
  have m1d : I mm 1 = d := hM1.2.2.2.2.1
  have m1r : I mm 2 = r := hM1.2.2.2.2.2.1
  have m1u : I mm 3 = u := hM1.2.2.2.2.2.2.1
  have m1g : I mm 4 = g := hM1.2.2.2.2.2.2.2.1
  have m1w : I mm 11 = w := hM1.2.2.2.2.2.2.2.2
  refine x_aload_n C D_L_law_13.2.2.1 rfl rfl (by first | exact Or.inr ⟨_, rfl⟩ | exact va_rf_or _ | exact Or.inl rfl) ?_
  refine x_callVi C (y := yX9_nodes) (c_X9_nodes l G mm hm1) (ci := 8) hm1 (by decide) rfl rfl k_1074 k_1075 k_1076 k_67 k_1077 hd_X9_nodes ⟨(Nat.le_of_ble_eq_true rfl), (Nat.le_of_ble_eq_true rfl)⟩ rfl (by first | exact Nat.le_of_ble_eq_true rfl | simp [x_crf, Value.category]) rfl rfl D_L_law_13.2.2.2.1 ⟨Nat.le_trans (Nat.add_le_add_left (Nat.le_of_ble_eq_true rfl : _ ≤ 20) _) (by omega), Nat.le_trans (Nat.add_le_add_left (Nat.le_of_ble_eq_true rfl : _ ≤ 400) _) (by omega)⟩ (fun r_384 S_384 h_384 => ?_)
  refine x_widen (k' := k0 + 20 + 20) (n' := n0 + 400 + 400) (Nat.add_le_add_left (Nat.le_of_ble_eq_true rfl) _) (Nat.add_le_add_left (Nat.le_of_ble_eq_true rfl) _) ?_
  obtain ⟨rfl, rfl⟩ := h_384
  refine x_eqi _ ((hM1.2.1.1)) ?_
  refine x_icmp_eq C 1254 D_L_law_13.2.2.2.2.1 (by decide) (fun c_387 => ?_) (fun c_387 => ?_)
  · skip
    exact x_drop9 (x_widen (by omega) (by omega) (kk _ _ (INV.q hS1 hM1 hO1 hB _)))
  · skip
    exact absurd rfl c_387
    --end
theorem hd_X8_bound : yX8_bound.cls ≠ "java/lang/invoke/MethodHandle" ∧ yX8_bound.cls ≠ "java/lang/invoke/VarHandle" ∧ (parseMethodDescriptor yX8_bound.desc).map (fun d => d.parameters.length) = some 0 := by decide +kernel
theorem hd_X9_bound : yX9_bound.cls ≠ "java/lang/invoke/MethodHandle" ∧ yX9_bound.cls ≠ "java/lang/invoke/VarHandle" ∧ (parseMethodDescriptor yX9_bound.desc).map (fun d => d.parameters.length) = some 0 := by decide +kernel
set_option maxHeartbeats 4000000 in
set_option maxRecDepth 100000 in
theorem lc_bound {p : Program} {l : Launch} {ee : Env} {s : State} {mi : MethodId} {args : Array Value} {below : List Frame} {meth : Method} {cd : Code} {G : xG} {Z : State → Prop} {rt : Option FieldType} {k0 n0 bs L i x mm o : Nat} {xs : Nat → Int32} {K N : Nat → Nat} {I : Nat → Nat → Int32} {Q : Nat → Nat → Option Nat} {J : Nat → Nat → Int64} {ow : xO} {n : Nat} {c : Nat → Nat} {al : Nat → Bool} {sp tu pt : Nat → Nat} {m : Nat} {pc : Nat → Nat} {pa : Nat → Bool} {ps : Nat → Nat} {r d u g w : Int32} {ar : Nat → Nat} (C : XC p s mi args meth cd code 9 RL rt G) (hX : gX G s s.heap) (hlt : l.stackTraces = false) (hXs : va_X bs L xs s s.heap) (hbl : bs < s.heap.size) (hbA : ¬ gA G bs) (hi : i + 5 ≤ L) (hL : L ≤ 2560) (hk0 : k0 + 100 ≤ room_1.cells) (hn0 : n0 + 2000 ≤ room_1.slots) (hS : SY ow (K, N, I, Q, J) x n c al sp tu pt m pc pa ps r d u g w) (hM : KM ow (K, N, I, Q, J) mm ar n c al sp tu pt m pc pa ps r d u g w) (hO : K o = 24 ∧ N o = 1 ∧ ow o = 10) (hB : BNm n al tu m pa)  (kk : ∀ (ow1 : xO) (S1 : xS), INV ow1 S1 x mm o → XW p l ee room_1 s mi args below meth cd G Z (k0 + 100) (n0 + 2000) S1 1254 [some (.ref bs), some (.ref x), some (.ref mm), some (.ref o), some (.int (nI i)), none, none, none, none] []) : XW p l ee room_1 s mi args below meth cd G Z k0 n0 (K, N, I, Q, J) 392 [some (.ref bs), some (.ref x), some (.ref mm), some (.ref o), some (.int (nI i)), none, none, none, none] [] := by
  obtain ⟨hKB, hPB, hUP, hPI, hn2, hcb, hm2, hsb, hx⟩ := hS.kb
  have hx : K x = 8 := hx
  have hmm : K mm = 9 := hM.1.1
  have ht30 : ∀ i, i < n → tu i < 2 ^ 30 := fun i hi => Nat.lt_trans (hsb i hi).2 (by decide)
  have hs30 : ∀ i, i < n → sp i < 2 ^ 30 := fun i hi => Nat.lt_trans (hsb i hi).1 (by decide)
  have hp30 : ∀ i, i < m → ps i < 2 ^ 30 := fun i hi => Nat.lt_trans (hPB i hi).2.2 (by decide)
  refine x_aload_n C D_L_law_13.2.2.2.2.2.2.2.1 rfl rfl (by first | exact Or.inr ⟨_, rfl⟩ | exact va_rf_or _ | exact Or.inl rfl) ?_
  refine x_callVi C (y := yX8_bound) (c_X8_bound l G ow x n m c al sp tu pt pc ps pa r d u g w  hS ) (ci := 7) (by assumption) (by decide) rfl rfl k_366 k_367 k_368 k_60 k_369 hd_X8_bound ⟨(Nat.le_of_ble_eq_true rfl), (Nat.le_of_ble_eq_true rfl)⟩ rfl (by first | exact Nat.le_of_ble_eq_true rfl | simp [x_crf, Value.category]) rfl rfl D_L_law_13.2.2.2.2.2.2.2.2.1 ⟨Nat.le_trans (Nat.add_le_add_left (Nat.le_of_ble_eq_true rfl : _ ≤ 20) _) (by omega), Nat.le_trans (Nat.add_le_add_left (Nat.le_of_ble_eq_true rfl : _ ≤ 400) _) (by omega)⟩ (fun r_393 S_393 h_393 => ?_)
  refine x_widen (k' := k0 + 20) (n' := n0 + 400) (Nat.add_le_add_left (Nat.le_of_ble_eq_true rfl) _) (Nat.add_le_add_left (Nat.le_of_ble_eq_true rfl) _) ?_
  obtain ⟨rfl, rfl⟩ := h_393
  have hM1 := hM
  have hS1 := hS
  have hO1 := hO
  have hm1 : K mm = 9 := hM1.1.1
  have m1d : I mm 1 = d := hM1.2.2.2.2.1
  have m1r : I mm 2 = r := hM1.2.2.2.2.2.1
  have m1u : I mm 3 = u := hM1.2.2.2.2.2.2.1
  have m1g : I mm 4 = g := hM1.2.2.2.2.2.2.2.1
  have m1w : I mm 11 = w := hM1.2.2.2.2.2.2.2.2
  refine x_aload_n C D_L_law_13.2.2.2.2.2.2.2.2.2.1 rfl rfl (by first | exact Or.inr ⟨_, rfl⟩ | exact va_rf_or _ | exact Or.inl rfl) ?_
  refine x_callVi C (y := yX9_bound) (c_X9_bound l G mm n ar c sp tu pt al  hM1.1 hM1.2.1 ) (ci := 8) hm1 (by decide) rfl rfl k_1078 k_1079 k_1080 k_67 k_1081 hd_X9_bound ⟨(Nat.le_of_ble_eq_true rfl), (Nat.le_of_ble_eq_true rfl)⟩ rfl (by first | exact Nat.le_of_ble_eq_true rfl | simp [x_crf, Value.category]) rfl rfl D_L_law_13.2.2.2.2.2.2.2.2.2.2.1 ⟨Nat.le_trans (Nat.add_le_add_left (Nat.le_of_ble_eq_true rfl : _ ≤ 20) _) (by omega), Nat.le_trans (Nat.add_le_add_left (Nat.le_of_ble_eq_true rfl : _ ≤ 400) _) (by omega)⟩ (fun r_397 S_397 h_397 => ?_)
  refine x_widen (k' := k0 + 20 + 20) (n' := n0 + 400 + 400) (Nat.add_le_add_left (Nat.le_of_ble_eq_true rfl) _) (Nat.add_le_add_left (Nat.le_of_ble_eq_true rfl) _) ?_
  obtain ⟨rfl, rfl⟩ := h_397
  refine x_icmp_eq C 1254 D_L_law_13.2.2.2.2.2.2.2.2.2.2.2 (by decide) (fun c_400 => ?_) (fun c_400 => ?_)
  · skip
    exact x_drop9 (x_widen (by omega) (by omega) (kk _ _ (INV.q hS1 hM1 hO1 hB _)))
  · skip
    exact absurd rfl c_400
    --end
theorem hd_X8_height : yX8_height.cls ≠ "java/lang/invoke/MethodHandle" ∧ yX8_height.cls ≠ "java/lang/invoke/VarHandle" ∧ (parseMethodDescriptor yX8_height.desc).map (fun d => d.parameters.length) = some 0 := by decide +kernel
theorem hd_X9_height : yX9_height.cls ≠ "java/lang/invoke/MethodHandle" ∧ yX9_height.cls ≠ "java/lang/invoke/VarHandle" ∧ (parseMethodDescriptor yX9_height.desc).map (fun d => d.parameters.length) = some 0 := by decide +kernel
set_option maxHeartbeats 4000000 in
set_option maxRecDepth 100000 in
theorem lc_height {p : Program} {l : Launch} {ee : Env} {s : State} {mi : MethodId} {args : Array Value} {below : List Frame} {meth : Method} {cd : Code} {G : xG} {Z : State → Prop} {rt : Option FieldType} {k0 n0 bs L i x mm o : Nat} {xs : Nat → Int32} {K N : Nat → Nat} {I : Nat → Nat → Int32} {Q : Nat → Nat → Option Nat} {J : Nat → Nat → Int64} {ow : xO} {n : Nat} {c : Nat → Nat} {al : Nat → Bool} {sp tu pt : Nat → Nat} {m : Nat} {pc : Nat → Nat} {pa : Nat → Bool} {ps : Nat → Nat} {r d u g w : Int32} {ar : Nat → Nat} (C : XC p s mi args meth cd code 9 RL rt G) (hX : gX G s s.heap) (hlt : l.stackTraces = false) (hXs : va_X bs L xs s s.heap) (hbl : bs < s.heap.size) (hbA : ¬ gA G bs) (hi : i + 5 ≤ L) (hL : L ≤ 2560) (hk0 : k0 + 100 ≤ room_1.cells) (hn0 : n0 + 2000 ≤ room_1.slots) (hS : SY ow (K, N, I, Q, J) x n c al sp tu pt m pc pa ps r d u g w) (hM : KM ow (K, N, I, Q, J) mm ar n c al sp tu pt m pc pa ps r d u g w) (hO : K o = 24 ∧ N o = 1 ∧ ow o = 10) (hB : BNm n al tu m pa)  (kk : ∀ (ow1 : xO) (S1 : xS), INV ow1 S1 x mm o → XW p l ee room_1 s mi args below meth cd G Z (k0 + 100) (n0 + 2000) S1 1254 [some (.ref bs), some (.ref x), some (.ref mm), some (.ref o), some (.int (nI i)), none, none, none, none] []) : XW p l ee room_1 s mi args below meth cd G Z k0 n0 (K, N, I, Q, J) 405 [some (.ref bs), some (.ref x), some (.ref mm), some (.ref o), some (.int (nI i)), none, none, none, none] [] := by
  obtain ⟨hKB, hPB, hUP, hPI, hn2, hcb, hm2, hsb, hx⟩ := hS.kb
  have hx : K x = 8 := hx
  have hmm : K mm = 9 := hM.1.1
  have ht30 : ∀ i, i < n → tu i < 2 ^ 30 := fun i hi => Nat.lt_trans (hsb i hi).2 (by decide)
  have hs30 : ∀ i, i < n → sp i < 2 ^ 30 := fun i hi => Nat.lt_trans (hsb i hi).1 (by decide)
  have hp30 : ∀ i, i < m → ps i < 2 ^ 30 := fun i hi => Nat.lt_trans (hPB i hi).2.2 (by decide)
  refine x_aload_n C D_L_law_14.2.2.1 rfl rfl (by first | exact Or.inr ⟨_, rfl⟩ | exact va_rf_or _ | exact Or.inl rfl) ?_
  refine x_callVi C (y := yX8_height) (c_X8_height l G ow x n m c al sp tu pt pc ps pa r d u g w  hS ) (ci := 7) (by assumption) (by decide) rfl rfl k_375 k_376 k_377 k_60 k_378 hd_X8_height ⟨(Nat.le_of_ble_eq_true rfl), (Nat.le_of_ble_eq_true rfl)⟩ rfl (by first | exact Nat.le_of_ble_eq_true rfl | simp [x_crf, Value.category]) rfl rfl D_L_law_14.2.2.2.1 ⟨Nat.le_trans (Nat.add_le_add_left (Nat.le_of_ble_eq_true rfl : _ ≤ 20) _) (by omega), Nat.le_trans (Nat.add_le_add_left (Nat.le_of_ble_eq_true rfl : _ ≤ 400) _) (by omega)⟩ (fun r_406 S_406 h_406 => ?_)
  refine x_widen (k' := k0 + 20) (n' := n0 + 400) (Nat.add_le_add_left (Nat.le_of_ble_eq_true rfl) _) (Nat.add_le_add_left (Nat.le_of_ble_eq_true rfl) _) ?_
  obtain ⟨rfl, rfl⟩ := h_406
  have hM1 := hM
  have hS1 := hS
  have hO1 := hO
  have hm1 : K mm = 9 := hM1.1.1
  have m1d : I mm 1 = d := hM1.2.2.2.2.1
  have m1r : I mm 2 = r := hM1.2.2.2.2.2.1
  have m1u : I mm 3 = u := hM1.2.2.2.2.2.2.1
  have m1g : I mm 4 = g := hM1.2.2.2.2.2.2.2.1
  have m1w : I mm 11 = w := hM1.2.2.2.2.2.2.2.2
  refine x_aload_n C D_L_law_14.2.2.2.2.1 rfl rfl (by first | exact Or.inr ⟨_, rfl⟩ | exact va_rf_or _ | exact Or.inl rfl) ?_
  refine x_callVi C (y := yX9_height) (c_X9_height l G mm n ar c sp tu pt al  hM1.1 hM1.2.1 hs30) (ci := 8) hm1 (by decide) rfl rfl k_1082 k_1083 k_1084 k_67 k_1085 hd_X9_height ⟨(Nat.le_of_ble_eq_true rfl), (Nat.le_of_ble_eq_true rfl)⟩ rfl (by first | exact Nat.le_of_ble_eq_true rfl | simp [x_crf, Value.category]) rfl rfl D_L_law_14.2.2.2.2.2.1 ⟨Nat.le_trans (Nat.add_le_add_left (Nat.le_of_ble_eq_true rfl : _ ≤ 20) _) (by omega), Nat.le_trans (Nat.add_le_add_left (Nat.le_of_ble_eq_true rfl : _ ≤ 400) _) (by omega)⟩ (fun r_410 S_410 h_410 => ?_)
  refine x_widen (k' := k0 + 20 + 20) (n' := n0 + 400 + 400) (Nat.add_le_add_left (Nat.le_of_ble_eq_true rfl) _) (Nat.add_le_add_left (Nat.le_of_ble_eq_true rfl) _) ?_
  obtain ⟨rfl, rfl⟩ := h_410
  refine x_icmp_eq C 1254 D_L_law_14.2.2.2.2.2.2.1 (by decide) (fun c_413 => ?_) (fun c_413 => ?_)
  · skip
    exact x_drop9 (x_widen (by omega) (by omega) (kk _ _ (INV.q hS1 hM1 hO1 hB _)))
  · skip
    exact absurd rfl c_413
    --end
theorem hd_X8_rebuilt : yX8_rebuilt.cls ≠ "java/lang/invoke/MethodHandle" ∧ yX8_rebuilt.cls ≠ "java/lang/invoke/VarHandle" ∧ (parseMethodDescriptor yX8_rebuilt.desc).map (fun d => d.parameters.length) = some 0 := by decide +kernel
theorem hd_X9_rebuilt : yX9_rebuilt.cls ≠ "java/lang/invoke/MethodHandle" ∧ yX9_rebuilt.cls ≠ "java/lang/invoke/VarHandle" ∧ (parseMethodDescriptor yX9_rebuilt.desc).map (fun d => d.parameters.length) = some 0 := by decide +kernel
set_option maxHeartbeats 4000000 in
set_option maxRecDepth 100000 in
theorem lc_rebuilt {p : Program} {l : Launch} {ee : Env} {s : State} {mi : MethodId} {args : Array Value} {below : List Frame} {meth : Method} {cd : Code} {G : xG} {Z : State → Prop} {rt : Option FieldType} {k0 n0 bs L i x mm o : Nat} {xs : Nat → Int32} {K N : Nat → Nat} {I : Nat → Nat → Int32} {Q : Nat → Nat → Option Nat} {J : Nat → Nat → Int64} {ow : xO} {n : Nat} {c : Nat → Nat} {al : Nat → Bool} {sp tu pt : Nat → Nat} {m : Nat} {pc : Nat → Nat} {pa : Nat → Bool} {ps : Nat → Nat} {r d u g w : Int32} {ar : Nat → Nat} (C : XC p s mi args meth cd code 9 RL rt G) (hX : gX G s s.heap) (hlt : l.stackTraces = false) (hXs : va_X bs L xs s s.heap) (hbl : bs < s.heap.size) (hbA : ¬ gA G bs) (hi : i + 5 ≤ L) (hL : L ≤ 2560) (hk0 : k0 + 100 ≤ room_1.cells) (hn0 : n0 + 2000 ≤ room_1.slots) (hS : SY ow (K, N, I, Q, J) x n c al sp tu pt m pc pa ps r d u g w) (hM : KM ow (K, N, I, Q, J) mm ar n c al sp tu pt m pc pa ps r d u g w) (hO : K o = 24 ∧ N o = 1 ∧ ow o = 10) (hB : BNm n al tu m pa)  (kk : ∀ (ow1 : xO) (S1 : xS), INV ow1 S1 x mm o → XW p l ee room_1 s mi args below meth cd G Z (k0 + 100) (n0 + 2000) S1 1254 [some (.ref bs), some (.ref x), some (.ref mm), some (.ref o), some (.int (nI i)), none, none, none, none] []) : XW p l ee room_1 s mi args below meth cd G Z k0 n0 (K, N, I, Q, J) 530 [some (.ref bs), some (.ref x), some (.ref mm), some (.ref o), some (.int (nI i)), none, none, none, none] [] := by
  obtain ⟨hKB, hPB, hUP, hPI, hn2, hcb, hm2, hsb, hx⟩ := hS.kb
  have hx : K x = 8 := hx
  have hmm : K mm = 9 := hM.1.1
  have ht30 : ∀ i, i < n → tu i < 2 ^ 30 := fun i hi => Nat.lt_trans (hsb i hi).2 (by decide)
  have hs30 : ∀ i, i < n → sp i < 2 ^ 30 := fun i hi => Nat.lt_trans (hsb i hi).1 (by decide)
  have hp30 : ∀ i, i < m → ps i < 2 ^ 30 := fun i hi => Nat.lt_trans (hPB i hi).2.2 (by decide)
  refine x_aload_n C D_L_law_20.2.2.2.2.2.2.2.1 rfl rfl (by first | exact Or.inr ⟨_, rfl⟩ | exact va_rf_or _ | exact Or.inl rfl) ?_
  refine x_callVi C (y := yX8_rebuilt) (c_X8_rebuilt l G ow x n m c al sp tu pt pc ps pa r d u g w  hS ) (ci := 7) (by assumption) (by decide) rfl rfl k_391 k_392 k_393 k_60 k_394 hd_X8_rebuilt ⟨(Nat.le_of_ble_eq_true rfl), (Nat.le_of_ble_eq_true rfl)⟩ rfl (by first | exact Nat.le_of_ble_eq_true rfl | simp [x_crf, Value.category]) rfl rfl D_L_law_20.2.2.2.2.2.2.2.2.1 ⟨Nat.le_trans (Nat.add_le_add_left (Nat.le_of_ble_eq_true rfl : _ ≤ 20) _) (by omega), Nat.le_trans (Nat.add_le_add_left (Nat.le_of_ble_eq_true rfl : _ ≤ 400) _) (by omega)⟩ (fun r_531 S_531 h_531 => ?_)
  refine x_widen (k' := k0 + 20) (n' := n0 + 400) (Nat.add_le_add_left (Nat.le_of_ble_eq_true rfl) _) (Nat.add_le_add_left (Nat.le_of_ble_eq_true rfl) _) ?_
  obtain ⟨h1_, rfl⟩ := h_531
  refine x_eqi _ h1_ ?_
  have hM1 := hM
  have hS1 := hS
  have hO1 := hO
  have hm1 : K mm = 9 := hM1.1.1
  have m1d : I mm 1 = d := hM1.2.2.2.2.1
  have m1r : I mm 2 = r := hM1.2.2.2.2.2.1
  have m1u : I mm 3 = u := hM1.2.2.2.2.2.2.1
  have m1g : I mm 4 = g := hM1.2.2.2.2.2.2.2.1
  have m1w : I mm 11 = w := hM1.2.2.2.2.2.2.2.2
  refine x_aload_n C D_L_law_20.2.2.2.2.2.2.2.2.2.1 rfl rfl (by first | exact Or.inr ⟨_, rfl⟩ | exact va_rf_or _ | exact Or.inl rfl) ?_
  refine x_callVi C (y := yX9_rebuilt) (c_X9_rebuilt l G mm hm1) (ci := 8) hm1 (by decide) rfl rfl k_1101 k_1102 k_1103 k_67 k_1104 hd_X9_rebuilt ⟨(Nat.le_of_ble_eq_true rfl), (Nat.le_of_ble_eq_true rfl)⟩ rfl (by first | exact Nat.le_of_ble_eq_true rfl | simp [x_crf, Value.category]) rfl rfl D_L_law_20.2.2.2.2.2.2.2.2.2.2.1 ⟨Nat.le_trans (Nat.add_le_add_left (Nat.le_of_ble_eq_true rfl : _ ≤ 20) _) (by omega), Nat.le_trans (Nat.add_le_add_left (Nat.le_of_ble_eq_true rfl : _ ≤ 400) _) (by omega)⟩ (fun r_535 S_535 h_535 => ?_)
  refine x_widen (k' := k0 + 20 + 20) (n' := n0 + 400 + 400) (Nat.add_le_add_left (Nat.le_of_ble_eq_true rfl) _) (Nat.add_le_add_left (Nat.le_of_ble_eq_true rfl) _) ?_
  obtain ⟨rfl, rfl⟩ := h_535
  refine x_eqi _ ((m1r)) ?_
  refine x_icmp_eq C 1254 D_L_law_20.2.2.2.2.2.2.2.2.2.2.2 (by decide) (fun c_538 => ?_) (fun c_538 => ?_)
  · skip
    exact x_drop9 (x_widen (by omega) (by omega) (kk _ _ (INV.q hS1 hM1 hO1 hB _)))
  · skip
    exact absurd rfl c_538
    --end
theorem hd_X8_drops : yX8_drops.cls ≠ "java/lang/invoke/MethodHandle" ∧ yX8_drops.cls ≠ "java/lang/invoke/VarHandle" ∧ (parseMethodDescriptor yX8_drops.desc).map (fun d => d.parameters.length) = some 0 := by decide +kernel
theorem hd_X9_drops : yX9_drops.cls ≠ "java/lang/invoke/MethodHandle" ∧ yX9_drops.cls ≠ "java/lang/invoke/VarHandle" ∧ (parseMethodDescriptor yX9_drops.desc).map (fun d => d.parameters.length) = some 0 := by decide +kernel
set_option maxHeartbeats 4000000 in
set_option maxRecDepth 100000 in
theorem lc_drops {p : Program} {l : Launch} {ee : Env} {s : State} {mi : MethodId} {args : Array Value} {below : List Frame} {meth : Method} {cd : Code} {G : xG} {Z : State → Prop} {rt : Option FieldType} {k0 n0 bs L i x mm o : Nat} {xs : Nat → Int32} {K N : Nat → Nat} {I : Nat → Nat → Int32} {Q : Nat → Nat → Option Nat} {J : Nat → Nat → Int64} {ow : xO} {n : Nat} {c : Nat → Nat} {al : Nat → Bool} {sp tu pt : Nat → Nat} {m : Nat} {pc : Nat → Nat} {pa : Nat → Bool} {ps : Nat → Nat} {r d u g w : Int32} {ar : Nat → Nat} (C : XC p s mi args meth cd code 9 RL rt G) (hX : gX G s s.heap) (hlt : l.stackTraces = false) (hXs : va_X bs L xs s s.heap) (hbl : bs < s.heap.size) (hbA : ¬ gA G bs) (hi : i + 5 ≤ L) (hL : L ≤ 2560) (hk0 : k0 + 100 ≤ room_1.cells) (hn0 : n0 + 2000 ≤ room_1.slots) (hS : SY ow (K, N, I, Q, J) x n c al sp tu pt m pc pa ps r d u g w) (hM : KM ow (K, N, I, Q, J) mm ar n c al sp tu pt m pc pa ps r d u g w) (hO : K o = 24 ∧ N o = 1 ∧ ow o = 10) (hB : BNm n al tu m pa)  (kk : ∀ (ow1 : xO) (S1 : xS), INV ow1 S1 x mm o → XW p l ee room_1 s mi args below meth cd G Z (k0 + 100) (n0 + 2000) S1 1254 [some (.ref bs), some (.ref x), some (.ref mm), some (.ref o), some (.int (nI i)), none, none, none, none] []) : XW p l ee room_1 s mi args below meth cd G Z k0 n0 (K, N, I, Q, J) 543 [some (.ref bs), some (.ref x), some (.ref mm), some (.ref o), some (.int (nI i)), none, none, none, none] [] := by
  obtain ⟨hKB, hPB, hUP, hPI, hn2, hcb, hm2, hsb, hx⟩ := hS.kb
  have hx : K x = 8 := hx
  have hmm : K mm = 9 := hM.1.1
  have ht30 : ∀ i, i < n → tu i < 2 ^ 30 := fun i hi => Nat.lt_trans (hsb i hi).2 (by decide)
  have hs30 : ∀ i, i < n → sp i < 2 ^ 30 := fun i hi => Nat.lt_trans (hsb i hi).1 (by decide)
  have hp30 : ∀ i, i < m → ps i < 2 ^ 30 := fun i hi => Nat.lt_trans (hPB i hi).2.2 (by decide)
  refine x_aload_n C D_L_law_21.2.2.1 rfl rfl (by first | exact Or.inr ⟨_, rfl⟩ | exact va_rf_or _ | exact Or.inl rfl) ?_
  refine x_callVi C (y := yX8_drops) (c_X8_drops l G ow x n m c al sp tu pt pc ps pa r d u g w  hS ) (ci := 7) (by assumption) (by decide) rfl rfl k_401 k_402 k_403 k_60 k_404 hd_X8_drops ⟨(Nat.le_of_ble_eq_true rfl), (Nat.le_of_ble_eq_true rfl)⟩ rfl (by first | exact Nat.le_of_ble_eq_true rfl | simp [x_crf, Value.category]) rfl rfl D_L_law_21.2.2.2.1 ⟨Nat.le_trans (Nat.add_le_add_left (Nat.le_of_ble_eq_true rfl : _ ≤ 20) _) (by omega), Nat.le_trans (Nat.add_le_add_left (Nat.le_of_ble_eq_true rfl : _ ≤ 400) _) (by omega)⟩ (fun r_544 S_544 h_544 => ?_)
  refine x_widen (k' := k0 + 20) (n' := n0 + 400) (Nat.add_le_add_left (Nat.le_of_ble_eq_true rfl) _) (Nat.add_le_add_left (Nat.le_of_ble_eq_true rfl) _) ?_
  obtain ⟨h1_, rfl⟩ := h_544
  refine x_eqi _ h1_ ?_
  have hM1 := hM
  have hS1 := hS
  have hO1 := hO
  have hm1 : K mm = 9 := hM1.1.1
  have m1d : I mm 1 = d := hM1.2.2.2.2.1
  have m1r : I mm 2 = r := hM1.2.2.2.2.2.1
  have m1u : I mm 3 = u := hM1.2.2.2.2.2.2.1
  have m1g : I mm 4 = g := hM1.2.2.2.2.2.2.2.1
  have m1w : I mm 11 = w := hM1.2.2.2.2.2.2.2.2
  refine x_aload_n C D_L_law_21.2.2.2.2.1 rfl rfl (by first | exact Or.inr ⟨_, rfl⟩ | exact va_rf_or _ | exact Or.inl rfl) ?_
  refine x_callVi C (y := yX9_drops) (c_X9_drops l G mm hm1) (ci := 8) hm1 (by decide) rfl rfl k_1105 k_1106 k_1107 k_67 k_1108 hd_X9_drops ⟨(Nat.le_of_ble_eq_true rfl), (Nat.le_of_ble_eq_true rfl)⟩ rfl (by first | exact Nat.le_of_ble_eq_true rfl | simp [x_crf, Value.category]) rfl rfl D_L_law_21.2.2.2.2.2.1 ⟨Nat.le_trans (Nat.add_le_add_left (Nat.le_of_ble_eq_true rfl : _ ≤ 20) _) (by omega), Nat.le_trans (Nat.add_le_add_left (Nat.le_of_ble_eq_true rfl : _ ≤ 400) _) (by omega)⟩ (fun r_548 S_548 h_548 => ?_)
  refine x_widen (k' := k0 + 20 + 20) (n' := n0 + 400 + 400) (Nat.add_le_add_left (Nat.le_of_ble_eq_true rfl) _) (Nat.add_le_add_left (Nat.le_of_ble_eq_true rfl) _) ?_
  obtain ⟨rfl, rfl⟩ := h_548
  refine x_eqi _ ((m1d)) ?_
  refine x_icmp_eq C 1254 D_L_law_21.2.2.2.2.2.2.1 (by decide) (fun c_551 => ?_) (fun c_551 => ?_)
  · skip
    exact x_drop9 (x_widen (by omega) (by omega) (kk _ _ (INV.q hS1 hM1 hO1 hB _)))
  · skip
    exact absurd rfl c_551
    --end
theorem hd_X8_turns : yX8_turns.cls ≠ "java/lang/invoke/MethodHandle" ∧ yX8_turns.cls ≠ "java/lang/invoke/VarHandle" ∧ (parseMethodDescriptor yX8_turns.desc).map (fun d => d.parameters.length) = some 0 := by decide +kernel
theorem hd_X9_turns : yX9_turns.cls ≠ "java/lang/invoke/MethodHandle" ∧ yX9_turns.cls ≠ "java/lang/invoke/VarHandle" ∧ (parseMethodDescriptor yX9_turns.desc).map (fun d => d.parameters.length) = some 0 := by decide +kernel
set_option maxHeartbeats 4000000 in
set_option maxRecDepth 100000 in
theorem lc_turns {p : Program} {l : Launch} {ee : Env} {s : State} {mi : MethodId} {args : Array Value} {below : List Frame} {meth : Method} {cd : Code} {G : xG} {Z : State → Prop} {rt : Option FieldType} {k0 n0 bs L i x mm o : Nat} {xs : Nat → Int32} {K N : Nat → Nat} {I : Nat → Nat → Int32} {Q : Nat → Nat → Option Nat} {J : Nat → Nat → Int64} {ow : xO} {n : Nat} {c : Nat → Nat} {al : Nat → Bool} {sp tu pt : Nat → Nat} {m : Nat} {pc : Nat → Nat} {pa : Nat → Bool} {ps : Nat → Nat} {r d u g w : Int32} {ar : Nat → Nat} (C : XC p s mi args meth cd code 9 RL rt G) (hX : gX G s s.heap) (hlt : l.stackTraces = false) (hXs : va_X bs L xs s s.heap) (hbl : bs < s.heap.size) (hbA : ¬ gA G bs) (hi : i + 5 ≤ L) (hL : L ≤ 2560) (hk0 : k0 + 100 ≤ room_1.cells) (hn0 : n0 + 2000 ≤ room_1.slots) (hS : SY ow (K, N, I, Q, J) x n c al sp tu pt m pc pa ps r d u g w) (hM : KM ow (K, N, I, Q, J) mm ar n c al sp tu pt m pc pa ps r d u g w) (hO : K o = 24 ∧ N o = 1 ∧ ow o = 10) (hB : BNm n al tu m pa)  (kk : ∀ (ow1 : xO) (S1 : xS), INV ow1 S1 x mm o → XW p l ee room_1 s mi args below meth cd G Z (k0 + 100) (n0 + 2000) S1 1254 [some (.ref bs), some (.ref x), some (.ref mm), some (.ref o), some (.int (nI i)), none, none, none, none] []) : XW p l ee room_1 s mi args below meth cd G Z k0 n0 (K, N, I, Q, J) 699 [some (.ref bs), some (.ref x), some (.ref mm), some (.ref o), some (.int (nI i)), none, none, none, none] [] := by
  obtain ⟨hKB, hPB, hUP, hPI, hn2, hcb, hm2, hsb, hx⟩ := hS.kb
  have hx : K x = 8 := hx
  have hmm : K mm = 9 := hM.1.1
  have ht30 : ∀ i, i < n → tu i < 2 ^ 30 := fun i hi => Nat.lt_trans (hsb i hi).2 (by decide)
  have hs30 : ∀ i, i < n → sp i < 2 ^ 30 := fun i hi => Nat.lt_trans (hsb i hi).1 (by decide)
  have hp30 : ∀ i, i < m → ps i < 2 ^ 30 := fun i hi => Nat.lt_trans (hPB i hi).2.2 (by decide)
  refine x_aload_n C D_L_law_28.2.2.2.2.2.2.2.2.1 rfl rfl (by first | exact Or.inr ⟨_, rfl⟩ | exact va_rf_or _ | exact Or.inl rfl) ?_
  refine x_callVi C (y := yX8_turns) (c_X8_turns l G ow x n m c al sp tu pt pc ps pa r d u g w  hS ) (ci := 7) (by assumption) (by decide) rfl rfl k_424 k_425 k_426 k_60 k_427 hd_X8_turns ⟨(Nat.le_of_ble_eq_true rfl), (Nat.le_of_ble_eq_true rfl)⟩ rfl (by first | exact Nat.le_of_ble_eq_true rfl | simp [x_crf, Value.category]) rfl rfl D_L_law_28.2.2.2.2.2.2.2.2.2.1 ⟨Nat.le_trans (Nat.add_le_add_left (Nat.le_of_ble_eq_true rfl : _ ≤ 20) _) (by omega), Nat.le_trans (Nat.add_le_add_left (Nat.le_of_ble_eq_true rfl : _ ≤ 400) _) (by omega)⟩ (fun r_700 S_700 h_700 => ?_)
  refine x_widen (k' := k0 + 20) (n' := n0 + 400) (Nat.add_le_add_left (Nat.le_of_ble_eq_true rfl) _) (Nat.add_le_add_left (Nat.le_of_ble_eq_true rfl) _) ?_
  obtain ⟨h1_, rfl⟩ := h_700
  refine x_eqi _ h1_ ?_
  have hM1 := hM
  have hS1 := hS
  have hO1 := hO
  have hm1 : K mm = 9 := hM1.1.1
  have m1d : I mm 1 = d := hM1.2.2.2.2.1
  have m1r : I mm 2 = r := hM1.2.2.2.2.2.1
  have m1u : I mm 3 = u := hM1.2.2.2.2.2.2.1
  have m1g : I mm 4 = g := hM1.2.2.2.2.2.2.2.1
  have m1w : I mm 11 = w := hM1.2.2.2.2.2.2.2.2
  refine x_aload_n C D_L_law_28.2.2.2.2.2.2.2.2.2.2.1 rfl rfl (by first | exact Or.inr ⟨_, rfl⟩ | exact va_rf_or _ | exact Or.inl rfl) ?_
  refine x_callVi C (y := yX9_turns) (c_X9_turns l G mm hm1) (ci := 8) hm1 (by decide) rfl rfl k_1121 k_1122 k_1123 k_67 k_1124 hd_X9_turns ⟨(Nat.le_of_ble_eq_true rfl), (Nat.le_of_ble_eq_true rfl)⟩ rfl (by first | exact Nat.le_of_ble_eq_true rfl | simp [x_crf, Value.category]) rfl rfl D_L_law_28.2.2.2.2.2.2.2.2.2.2.2 ⟨Nat.le_trans (Nat.add_le_add_left (Nat.le_of_ble_eq_true rfl : _ ≤ 20) _) (by omega), Nat.le_trans (Nat.add_le_add_left (Nat.le_of_ble_eq_true rfl : _ ≤ 400) _) (by omega)⟩ (fun r_704 S_704 h_704 => ?_)
  refine x_widen (k' := k0 + 20 + 20) (n' := n0 + 400 + 400) (Nat.add_le_add_left (Nat.le_of_ble_eq_true rfl) _) (Nat.add_le_add_left (Nat.le_of_ble_eq_true rfl) _) ?_
  obtain ⟨rfl, rfl⟩ := h_704
  refine x_eqi _ ((m1u)) ?_
  refine x_icmp_eq C 1254 D_L_law_29.1 (by decide) (fun c_707 => ?_) (fun c_707 => ?_)
  · skip
    exact x_drop9 (x_widen (by omega) (by omega) (kk _ _ (INV.q hS1 hM1 hO1 hB _)))
  · skip
    exact absurd rfl c_707
    --end
theorem hd_X8_entries : yX8_entries.cls ≠ "java/lang/invoke/MethodHandle" ∧ yX8_entries.cls ≠ "java/lang/invoke/VarHandle" ∧ (parseMethodDescriptor yX8_entries.desc).map (fun d => d.parameters.length) = some 0 := by decide +kernel
theorem hd_X9_entries : yX9_entries.cls ≠ "java/lang/invoke/MethodHandle" ∧ yX9_entries.cls ≠ "java/lang/invoke/VarHandle" ∧ (parseMethodDescriptor yX9_entries.desc).map (fun d => d.parameters.length) = some 0 := by decide +kernel
set_option maxHeartbeats 4000000 in
set_option maxRecDepth 100000 in
theorem lc_entries {p : Program} {l : Launch} {ee : Env} {s : State} {mi : MethodId} {args : Array Value} {below : List Frame} {meth : Method} {cd : Code} {G : xG} {Z : State → Prop} {rt : Option FieldType} {k0 n0 bs L i x mm o : Nat} {xs : Nat → Int32} {K N : Nat → Nat} {I : Nat → Nat → Int32} {Q : Nat → Nat → Option Nat} {J : Nat → Nat → Int64} {ow : xO} {n : Nat} {c : Nat → Nat} {al : Nat → Bool} {sp tu pt : Nat → Nat} {m : Nat} {pc : Nat → Nat} {pa : Nat → Bool} {ps : Nat → Nat} {r d u g w : Int32} {ar : Nat → Nat} (C : XC p s mi args meth cd code 9 RL rt G) (hX : gX G s s.heap) (hlt : l.stackTraces = false) (hXs : va_X bs L xs s s.heap) (hbl : bs < s.heap.size) (hbA : ¬ gA G bs) (hi : i + 5 ≤ L) (hL : L ≤ 2560) (hk0 : k0 + 100 ≤ room_1.cells) (hn0 : n0 + 2000 ≤ room_1.slots) (hS : SY ow (K, N, I, Q, J) x n c al sp tu pt m pc pa ps r d u g w) (hM : KM ow (K, N, I, Q, J) mm ar n c al sp tu pt m pc pa ps r d u g w) (hO : K o = 24 ∧ N o = 1 ∧ ow o = 10) (hB : BNm n al tu m pa)  (kk : ∀ (ow1 : xO) (S1 : xS), INV ow1 S1 x mm o → XW p l ee room_1 s mi args below meth cd G Z (k0 + 100) (n0 + 2000) S1 1254 [some (.ref bs), some (.ref x), some (.ref mm), some (.ref o), some (.int (nI i)), none, none, none, none] []) : XW p l ee room_1 s mi args below meth cd G Z k0 n0 (K, N, I, Q, J) 712 [some (.ref bs), some (.ref x), some (.ref mm), some (.ref o), some (.int (nI i)), none, none, none, none] [] := by
  obtain ⟨hKB, hPB, hUP, hPI, hn2, hcb, hm2, hsb, hx⟩ := hS.kb
  have hx : K x = 8 := hx
  have hmm : K mm = 9 := hM.1.1
  have ht30 : ∀ i, i < n → tu i < 2 ^ 30 := fun i hi => Nat.lt_trans (hsb i hi).2 (by decide)
  have hs30 : ∀ i, i < n → sp i < 2 ^ 30 := fun i hi => Nat.lt_trans (hsb i hi).1 (by decide)
  have hp30 : ∀ i, i < m → ps i < 2 ^ 30 := fun i hi => Nat.lt_trans (hPB i hi).2.2 (by decide)
  refine x_aload_n C D_L_law_29.2.2.2.1 rfl rfl (by first | exact Or.inr ⟨_, rfl⟩ | exact va_rf_or _ | exact Or.inl rfl) ?_
  refine x_callVi C (y := yX8_entries) (c_X8_entries l G ow x n m c al sp tu pt pc ps pa r d u g w  hS ) (ci := 7) (by assumption) (by decide) rfl rfl k_432 k_433 k_434 k_60 k_435 hd_X8_entries ⟨(Nat.le_of_ble_eq_true rfl), (Nat.le_of_ble_eq_true rfl)⟩ rfl (by first | exact Nat.le_of_ble_eq_true rfl | simp [x_crf, Value.category]) rfl rfl D_L_law_29.2.2.2.2.1 ⟨Nat.le_trans (Nat.add_le_add_left (Nat.le_of_ble_eq_true rfl : _ ≤ 20) _) (by omega), Nat.le_trans (Nat.add_le_add_left (Nat.le_of_ble_eq_true rfl : _ ≤ 400) _) (by omega)⟩ (fun r_713 S_713 h_713 => ?_)
  refine x_widen (k' := k0 + 20) (n' := n0 + 400) (Nat.add_le_add_left (Nat.le_of_ble_eq_true rfl) _) (Nat.add_le_add_left (Nat.le_of_ble_eq_true rfl) _) ?_
  obtain ⟨rfl, rfl⟩ := h_713
  have hM1 := hM
  have hS1 := hS
  have hO1 := hO
  have hm1 : K mm = 9 := hM1.1.1
  have m1d : I mm 1 = d := hM1.2.2.2.2.1
  have m1r : I mm 2 = r := hM1.2.2.2.2.2.1
  have m1u : I mm 3 = u := hM1.2.2.2.2.2.2.1
  have m1g : I mm 4 = g := hM1.2.2.2.2.2.2.2.1
  have m1w : I mm 11 = w := hM1.2.2.2.2.2.2.2.2
  refine x_aload_n C D_L_law_29.2.2.2.2.2.1 rfl rfl (by first | exact Or.inr ⟨_, rfl⟩ | exact va_rf_or _ | exact Or.inl rfl) ?_
  refine x_callVi C (y := yX9_entries) (c_X9_entries l G mm hm1) (ci := 8) hm1 (by decide) rfl rfl k_1125 k_1126 k_1127 k_67 k_1128 hd_X9_entries ⟨(Nat.le_of_ble_eq_true rfl), (Nat.le_of_ble_eq_true rfl)⟩ rfl (by first | exact Nat.le_of_ble_eq_true rfl | simp [x_crf, Value.category]) rfl rfl D_L_law_29.2.2.2.2.2.2.1 ⟨Nat.le_trans (Nat.add_le_add_left (Nat.le_of_ble_eq_true rfl : _ ≤ 20) _) (by omega), Nat.le_trans (Nat.add_le_add_left (Nat.le_of_ble_eq_true rfl : _ ≤ 400) _) (by omega)⟩ (fun r_717 S_717 h_717 => ?_)
  refine x_widen (k' := k0 + 20 + 20) (n' := n0 + 400 + 400) (Nat.add_le_add_left (Nat.le_of_ble_eq_true rfl) _) (Nat.add_le_add_left (Nat.le_of_ble_eq_true rfl) _) ?_
  obtain ⟨rfl, rfl⟩ := h_717
  refine x_eqi _ ((hM1.2.1.1)) ?_
  refine x_icmp_eq C 1254 D_L_law_29.2.2.2.2.2.2.2.1 (by decide) (fun c_720 => ?_) (fun c_720 => ?_)
  · skip
    exact x_drop9 (x_widen (by omega) (by omega) (kk _ _ (INV.q hS1 hM1 hO1 hB _)))
  · skip
    exact absurd rfl c_720
    --end
theorem hd_X8_merges : yX8_merges.cls ≠ "java/lang/invoke/MethodHandle" ∧ yX8_merges.cls ≠ "java/lang/invoke/VarHandle" ∧ (parseMethodDescriptor yX8_merges.desc).map (fun d => d.parameters.length) = some 0 := by decide +kernel
theorem hd_X9_merges : yX9_merges.cls ≠ "java/lang/invoke/MethodHandle" ∧ yX9_merges.cls ≠ "java/lang/invoke/VarHandle" ∧ (parseMethodDescriptor yX9_merges.desc).map (fun d => d.parameters.length) = some 0 := by decide +kernel
set_option maxHeartbeats 4000000 in
set_option maxRecDepth 100000 in
theorem lc_merges {p : Program} {l : Launch} {ee : Env} {s : State} {mi : MethodId} {args : Array Value} {below : List Frame} {meth : Method} {cd : Code} {G : xG} {Z : State → Prop} {rt : Option FieldType} {k0 n0 bs L i x mm o : Nat} {xs : Nat → Int32} {K N : Nat → Nat} {I : Nat → Nat → Int32} {Q : Nat → Nat → Option Nat} {J : Nat → Nat → Int64} {ow : xO} {n : Nat} {c : Nat → Nat} {al : Nat → Bool} {sp tu pt : Nat → Nat} {m : Nat} {pc : Nat → Nat} {pa : Nat → Bool} {ps : Nat → Nat} {r d u g w : Int32} {ar : Nat → Nat} (C : XC p s mi args meth cd code 9 RL rt G) (hX : gX G s s.heap) (hlt : l.stackTraces = false) (hXs : va_X bs L xs s s.heap) (hbl : bs < s.heap.size) (hbA : ¬ gA G bs) (hi : i + 5 ≤ L) (hL : L ≤ 2560) (hk0 : k0 + 100 ≤ room_1.cells) (hn0 : n0 + 2000 ≤ room_1.slots) (hS : SY ow (K, N, I, Q, J) x n c al sp tu pt m pc pa ps r d u g w) (hM : KM ow (K, N, I, Q, J) mm ar n c al sp tu pt m pc pa ps r d u g w) (hO : K o = 24 ∧ N o = 1 ∧ ow o = 10) (hB : BNm n al tu m pa)  (kk : ∀ (ow1 : xO) (S1 : xS), INV ow1 S1 x mm o → XW p l ee room_1 s mi args below meth cd G Z (k0 + 100) (n0 + 2000) S1 1254 [some (.ref bs), some (.ref x), some (.ref mm), some (.ref o), some (.int (nI i)), none, none, none, none] []) : XW p l ee room_1 s mi args below meth cd G Z k0 n0 (K, N, I, Q, J) 849 [some (.ref bs), some (.ref x), some (.ref mm), some (.ref o), some (.int (nI i)), none, none, none, none] [] := by
  obtain ⟨hKB, hPB, hUP, hPI, hn2, hcb, hm2, hsb, hx⟩ := hS.kb
  have hx : K x = 8 := hx
  have hmm : K mm = 9 := hM.1.1
  have ht30 : ∀ i, i < n → tu i < 2 ^ 30 := fun i hi => Nat.lt_trans (hsb i hi).2 (by decide)
  have hs30 : ∀ i, i < n → sp i < 2 ^ 30 := fun i hi => Nat.lt_trans (hsb i hi).1 (by decide)
  have hp30 : ∀ i, i < m → ps i < 2 ^ 30 := fun i hi => Nat.lt_trans (hPB i hi).2.2 (by decide)
  refine x_aload_n C D_L_law_36.2.2.2.2.2.2.1 rfl rfl (by first | exact Or.inr ⟨_, rfl⟩ | exact va_rf_or _ | exact Or.inl rfl) ?_
  refine x_callVi C (y := yX8_merges) (c_X8_merges l G ow x n m c al sp tu pt pc ps pa r d u g w  hS ) (ci := 7) (by assumption) (by decide) rfl rfl k_440 k_441 k_442 k_60 k_443 hd_X8_merges ⟨(Nat.le_of_ble_eq_true rfl), (Nat.le_of_ble_eq_true rfl)⟩ rfl (by first | exact Nat.le_of_ble_eq_true rfl | simp [x_crf, Value.category]) rfl rfl D_L_law_36.2.2.2.2.2.2.2.1 ⟨Nat.le_trans (Nat.add_le_add_left (Nat.le_of_ble_eq_true rfl : _ ≤ 20) _) (by omega), Nat.le_trans (Nat.add_le_add_left (Nat.le_of_ble_eq_true rfl : _ ≤ 400) _) (by omega)⟩ (fun r_850 S_850 h_850 => ?_)
  refine x_widen (k' := k0 + 20) (n' := n0 + 400) (Nat.add_le_add_left (Nat.le_of_ble_eq_true rfl) _) (Nat.add_le_add_left (Nat.le_of_ble_eq_true rfl) _) ?_
  obtain ⟨h1_, rfl⟩ := h_850
  refine x_eqi _ h1_ ?_
  have hM1 := hM
  have hS1 := hS
  have hO1 := hO
  have hm1 : K mm = 9 := hM1.1.1
  have m1d : I mm 1 = d := hM1.2.2.2.2.1
  have m1r : I mm 2 = r := hM1.2.2.2.2.2.1
  have m1u : I mm 3 = u := hM1.2.2.2.2.2.2.1
  have m1g : I mm 4 = g := hM1.2.2.2.2.2.2.2.1
  have m1w : I mm 11 = w := hM1.2.2.2.2.2.2.2.2
  refine x_aload_n C D_L_law_36.2.2.2.2.2.2.2.2.1 rfl rfl (by first | exact Or.inr ⟨_, rfl⟩ | exact va_rf_or _ | exact Or.inl rfl) ?_
  refine x_callVi C (y := yX9_merges) (c_X9_merges l G mm hm1) (ci := 8) hm1 (by decide) rfl rfl k_1137 k_1138 k_1139 k_67 k_1140 hd_X9_merges ⟨(Nat.le_of_ble_eq_true rfl), (Nat.le_of_ble_eq_true rfl)⟩ rfl (by first | exact Nat.le_of_ble_eq_true rfl | simp [x_crf, Value.category]) rfl rfl D_L_law_36.2.2.2.2.2.2.2.2.2.1 ⟨Nat.le_trans (Nat.add_le_add_left (Nat.le_of_ble_eq_true rfl : _ ≤ 20) _) (by omega), Nat.le_trans (Nat.add_le_add_left (Nat.le_of_ble_eq_true rfl : _ ≤ 400) _) (by omega)⟩ (fun r_854 S_854 h_854 => ?_)
  refine x_widen (k' := k0 + 20 + 20) (n' := n0 + 400 + 400) (Nat.add_le_add_left (Nat.le_of_ble_eq_true rfl) _) (Nat.add_le_add_left (Nat.le_of_ble_eq_true rfl) _) ?_
  obtain ⟨rfl, rfl⟩ := h_854
  refine x_eqi _ ((m1g)) ?_
  refine x_icmp_eq C 1254 D_L_law_36.2.2.2.2.2.2.2.2.2.2.1 (by decide) (fun c_857 => ?_) (fun c_857 => ?_)
  · skip
    exact x_drop9 (x_widen (by omega) (by omega) (kk _ _ (INV.q hS1 hM1 hO1 hB _)))
  · skip
    exact absurd rfl c_857
    --end
theorem hd_X8_points : yX8_points.cls ≠ "java/lang/invoke/MethodHandle" ∧ yX8_points.cls ≠ "java/lang/invoke/VarHandle" ∧ (parseMethodDescriptor yX8_points.desc).map (fun d => d.parameters.length) = some 0 := by decide +kernel
theorem hd_X9_points : yX9_points.cls ≠ "java/lang/invoke/MethodHandle" ∧ yX9_points.cls ≠ "java/lang/invoke/VarHandle" ∧ (parseMethodDescriptor yX9_points.desc).map (fun d => d.parameters.length) = some 0 := by decide +kernel
set_option maxHeartbeats 4000000 in
set_option maxRecDepth 100000 in
theorem lc_points {p : Program} {l : Launch} {ee : Env} {s : State} {mi : MethodId} {args : Array Value} {below : List Frame} {meth : Method} {cd : Code} {G : xG} {Z : State → Prop} {rt : Option FieldType} {k0 n0 bs L i x mm o : Nat} {xs : Nat → Int32} {K N : Nat → Nat} {I : Nat → Nat → Int32} {Q : Nat → Nat → Option Nat} {J : Nat → Nat → Int64} {ow : xO} {n : Nat} {c : Nat → Nat} {al : Nat → Bool} {sp tu pt : Nat → Nat} {m : Nat} {pc : Nat → Nat} {pa : Nat → Bool} {ps : Nat → Nat} {r d u g w : Int32} {ar : Nat → Nat} (C : XC p s mi args meth cd code 9 RL rt G) (hX : gX G s s.heap) (hlt : l.stackTraces = false) (hXs : va_X bs L xs s s.heap) (hbl : bs < s.heap.size) (hbA : ¬ gA G bs) (hi : i + 5 ≤ L) (hL : L ≤ 2560) (hk0 : k0 + 100 ≤ room_1.cells) (hn0 : n0 + 2000 ≤ room_1.slots) (hS : SY ow (K, N, I, Q, J) x n c al sp tu pt m pc pa ps r d u g w) (hM : KM ow (K, N, I, Q, J) mm ar n c al sp tu pt m pc pa ps r d u g w) (hO : K o = 24 ∧ N o = 1 ∧ ow o = 10) (hB : BNm n al tu m pa)  (kk : ∀ (ow1 : xO) (S1 : xS), INV ow1 S1 x mm o → XW p l ee room_1 s mi args below meth cd G Z (k0 + 100) (n0 + 2000) S1 1254 [some (.ref bs), some (.ref x), some (.ref mm), some (.ref o), some (.int (nI i)), none, none, none, none] []) : XW p l ee room_1 s mi args below meth cd G Z k0 n0 (K, N, I, Q, J) 974 [some (.ref bs), some (.ref x), some (.ref mm), some (.ref o), some (.int (nI i)), none, none, none, none] [] := by
  obtain ⟨hKB, hPB, hUP, hPI, hn2, hcb, hm2, hsb, hx⟩ := hS.kb
  have hx : K x = 8 := hx
  have hmm : K mm = 9 := hM.1.1
  have ht30 : ∀ i, i < n → tu i < 2 ^ 30 := fun i hi => Nat.lt_trans (hsb i hi).2 (by decide)
  have hs30 : ∀ i, i < n → sp i < 2 ^ 30 := fun i hi => Nat.lt_trans (hsb i hi).1 (by decide)
  have hp30 : ∀ i, i < m → ps i < 2 ^ 30 := fun i hi => Nat.lt_trans (hPB i hi).2.2 (by decide)
  refine x_aload_n C D_L_law_43.2.2.2.2.1 rfl rfl (by first | exact Or.inr ⟨_, rfl⟩ | exact va_rf_or _ | exact Or.inl rfl) ?_
  refine x_callVi C (y := yX8_points) (c_X8_points l G ow x n m c al sp tu pt pc ps pa r d u g w  hS ) (ci := 7) (by assumption) (by decide) rfl rfl k_467 k_468 k_469 k_60 k_470 hd_X8_points ⟨(Nat.le_of_ble_eq_true rfl), (Nat.le_of_ble_eq_true rfl)⟩ rfl (by first | exact Nat.le_of_ble_eq_true rfl | simp [x_crf, Value.category]) rfl rfl D_L_law_43.2.2.2.2.2.1 ⟨Nat.le_trans (Nat.add_le_add_left (Nat.le_of_ble_eq_true rfl : _ ≤ 20) _) (by omega), Nat.le_trans (Nat.add_le_add_left (Nat.le_of_ble_eq_true rfl : _ ≤ 400) _) (by omega)⟩ (fun r_975 S_975 h_975 => ?_)
  refine x_widen (k' := k0 + 20) (n' := n0 + 400) (Nat.add_le_add_left (Nat.le_of_ble_eq_true rfl) _) (Nat.add_le_add_left (Nat.le_of_ble_eq_true rfl) _) ?_
  obtain ⟨rfl, rfl⟩ := h_975
  have hM1 := hM
  have hS1 := hS
  have hO1 := hO
  have hm1 : K mm = 9 := hM1.1.1
  have m1d : I mm 1 = d := hM1.2.2.2.2.1
  have m1r : I mm 2 = r := hM1.2.2.2.2.2.1
  have m1u : I mm 3 = u := hM1.2.2.2.2.2.2.1
  have m1g : I mm 4 = g := hM1.2.2.2.2.2.2.2.1
  have m1w : I mm 11 = w := hM1.2.2.2.2.2.2.2.2
  refine x_aload_n C D_L_law_43.2.2.2.2.2.2.1 rfl rfl (by first | exact Or.inr ⟨_, rfl⟩ | exact va_rf_or _ | exact Or.inl rfl) ?_
  refine x_callVi C (y := yX9_points) (c_X9_points l G mm m ar pc ps pa  hM1.1 hM1.2.2.1 ) (ci := 8) hm1 (by decide) rfl rfl k_1180 k_1181 k_1182 k_67 k_1183 hd_X9_points ⟨(Nat.le_of_ble_eq_true rfl), (Nat.le_of_ble_eq_true rfl)⟩ rfl (by first | exact Nat.le_of_ble_eq_true rfl | simp [x_crf, Value.category]) rfl rfl D_L_law_43.2.2.2.2.2.2.2.1 ⟨Nat.le_trans (Nat.add_le_add_left (Nat.le_of_ble_eq_true rfl : _ ≤ 20) _) (by omega), Nat.le_trans (Nat.add_le_add_left (Nat.le_of_ble_eq_true rfl : _ ≤ 400) _) (by omega)⟩ (fun r_979 S_979 h_979 => ?_)
  refine x_widen (k' := k0 + 20 + 20) (n' := n0 + 400 + 400) (Nat.add_le_add_left (Nat.le_of_ble_eq_true rfl) _) (Nat.add_le_add_left (Nat.le_of_ble_eq_true rfl) _) ?_
  obtain ⟨rfl, rfl⟩ := h_979
  refine x_icmp_eq C 1254 D_L_law_43.2.2.2.2.2.2.2.2.1 (by decide) (fun c_982 => ?_) (fun c_982 => ?_)
  · skip
    exact x_drop9 (x_widen (by omega) (by omega) (kk _ _ (INV.q hS1 hM1 hO1 hB _)))
  · skip
    exact absurd rfl c_982
    --end
theorem hd_X8_pointNodes : yX8_pointNodes.cls ≠ "java/lang/invoke/MethodHandle" ∧ yX8_pointNodes.cls ≠ "java/lang/invoke/VarHandle" ∧ (parseMethodDescriptor yX8_pointNodes.desc).map (fun d => d.parameters.length) = some 0 := by decide +kernel
theorem hd_X9_pointNodes : yX9_pointNodes.cls ≠ "java/lang/invoke/MethodHandle" ∧ yX9_pointNodes.cls ≠ "java/lang/invoke/VarHandle" ∧ (parseMethodDescriptor yX9_pointNodes.desc).map (fun d => d.parameters.length) = some 0 := by decide +kernel
set_option maxHeartbeats 4000000 in
set_option maxRecDepth 100000 in
theorem lc_pointNodes {p : Program} {l : Launch} {ee : Env} {s : State} {mi : MethodId} {args : Array Value} {below : List Frame} {meth : Method} {cd : Code} {G : xG} {Z : State → Prop} {rt : Option FieldType} {k0 n0 bs L i x mm o : Nat} {xs : Nat → Int32} {K N : Nat → Nat} {I : Nat → Nat → Int32} {Q : Nat → Nat → Option Nat} {J : Nat → Nat → Int64} {ow : xO} {n : Nat} {c : Nat → Nat} {al : Nat → Bool} {sp tu pt : Nat → Nat} {m : Nat} {pc : Nat → Nat} {pa : Nat → Bool} {ps : Nat → Nat} {r d u g w : Int32} {ar : Nat → Nat} (C : XC p s mi args meth cd code 9 RL rt G) (hX : gX G s s.heap) (hlt : l.stackTraces = false) (hXs : va_X bs L xs s s.heap) (hbl : bs < s.heap.size) (hbA : ¬ gA G bs) (hi : i + 5 ≤ L) (hL : L ≤ 2560) (hk0 : k0 + 100 ≤ room_1.cells) (hn0 : n0 + 2000 ≤ room_1.slots) (hS : SY ow (K, N, I, Q, J) x n c al sp tu pt m pc pa ps r d u g w) (hM : KM ow (K, N, I, Q, J) mm ar n c al sp tu pt m pc pa ps r d u g w) (hO : K o = 24 ∧ N o = 1 ∧ ow o = 10) (hB : BNm n al tu m pa)  (kk : ∀ (ow1 : xO) (S1 : xS), INV ow1 S1 x mm o → XW p l ee room_1 s mi args below meth cd G Z (k0 + 100) (n0 + 2000) S1 1254 [some (.ref bs), some (.ref x), some (.ref mm), some (.ref o), some (.int (nI i)), none, none, none, none] []) : XW p l ee room_1 s mi args below meth cd G Z k0 n0 (K, N, I, Q, J) 987 [some (.ref bs), some (.ref x), some (.ref mm), some (.ref o), some (.int (nI i)), none, none, none, none] [] := by
  obtain ⟨hKB, hPB, hUP, hPI, hn2, hcb, hm2, hsb, hx⟩ := hS.kb
  have hx : K x = 8 := hx
  have hmm : K mm = 9 := hM.1.1
  have ht30 : ∀ i, i < n → tu i < 2 ^ 30 := fun i hi => Nat.lt_trans (hsb i hi).2 (by decide)
  have hs30 : ∀ i, i < n → sp i < 2 ^ 30 := fun i hi => Nat.lt_trans (hsb i hi).1 (by decide)
  have hp30 : ∀ i, i < m → ps i < 2 ^ 30 := fun i hi => Nat.lt_trans (hPB i hi).2.2 (by decide)
  refine x_aload_n C D_L_law_43.2.2.2.2.2.2.2.2.2.2.2 rfl rfl (by first | exact Or.inr ⟨_, rfl⟩ | exact va_rf_or _ | exact Or.inl rfl) ?_
  refine x_callVi C (y := yX8_pointNodes) (c_X8_pointNodes l G ow x n m c al sp tu pt pc ps pa r d u g w  hS ) (ci := 7) (by assumption) (by decide) rfl rfl k_477 k_478 k_479 k_60 k_480 hd_X8_pointNodes ⟨(Nat.le_of_ble_eq_true rfl), (Nat.le_of_ble_eq_true rfl)⟩ rfl (by first | exact Nat.le_of_ble_eq_true rfl | simp [x_crf, Value.category]) rfl rfl D_L_law_44.1 ⟨Nat.le_trans (Nat.add_le_add_left (Nat.le_of_ble_eq_true rfl : _ ≤ 20) _) (by omega), Nat.le_trans (Nat.add_le_add_left (Nat.le_of_ble_eq_true rfl : _ ≤ 400) _) (by omega)⟩ (fun r_988 S_988 h_988 => ?_)
  refine x_widen (k' := k0 + 20) (n' := n0 + 400) (Nat.add_le_add_left (Nat.le_of_ble_eq_true rfl) _) (Nat.add_le_add_left (Nat.le_of_ble_eq_true rfl) _) ?_
  obtain ⟨rfl, rfl⟩ := h_988
  have hM1 := hM
  have hS1 := hS
  have hO1 := hO
  have hm1 : K mm = 9 := hM1.1.1
  have m1d : I mm 1 = d := hM1.2.2.2.2.1
  have m1r : I mm 2 = r := hM1.2.2.2.2.2.1
  have m1u : I mm 3 = u := hM1.2.2.2.2.2.2.1
  have m1g : I mm 4 = g := hM1.2.2.2.2.2.2.2.1
  have m1w : I mm 11 = w := hM1.2.2.2.2.2.2.2.2
  refine x_aload_n C D_L_law_44.2.1 rfl rfl (by first | exact Or.inr ⟨_, rfl⟩ | exact va_rf_or _ | exact Or.inl rfl) ?_
  refine x_callVi C (y := yX9_pointNodes) (c_X9_pointNodes l G mm hm1) (ci := 8) hm1 (by decide) rfl rfl k_1184 k_1185 k_1186 k_67 k_1187 hd_X9_pointNodes ⟨(Nat.le_of_ble_eq_true rfl), (Nat.le_of_ble_eq_true rfl)⟩ rfl (by first | exact Nat.le_of_ble_eq_true rfl | simp [x_crf, Value.category]) rfl rfl D_L_law_44.2.2.1 ⟨Nat.le_trans (Nat.add_le_add_left (Nat.le_of_ble_eq_true rfl : _ ≤ 20) _) (by omega), Nat.le_trans (Nat.add_le_add_left (Nat.le_of_ble_eq_true rfl : _ ≤ 400) _) (by omega)⟩ (fun r_992 S_992 h_992 => ?_)
  refine x_widen (k' := k0 + 20 + 20) (n' := n0 + 400 + 400) (Nat.add_le_add_left (Nat.le_of_ble_eq_true rfl) _) (Nat.add_le_add_left (Nat.le_of_ble_eq_true rfl) _) ?_
  obtain ⟨rfl, rfl⟩ := h_992
  refine x_eqi _ ((hM1.2.2.1.1)) ?_
  refine x_icmp_eq C 1254 D_L_law_44.2.2.2.1 (by decide) (fun c_995 => ?_) (fun c_995 => ?_)
  · skip
    exact x_drop9 (x_widen (by omega) (by omega) (kk _ _ (INV.q hS1 hM1 hO1 hB _)))
  · skip
    exact absurd rfl c_995
    --end
theorem hd_X8_pointHeight : yX8_pointHeight.cls ≠ "java/lang/invoke/MethodHandle" ∧ yX8_pointHeight.cls ≠ "java/lang/invoke/VarHandle" ∧ (parseMethodDescriptor yX8_pointHeight.desc).map (fun d => d.parameters.length) = some 0 := by decide +kernel
theorem hd_X9_pointHeight : yX9_pointHeight.cls ≠ "java/lang/invoke/MethodHandle" ∧ yX9_pointHeight.cls ≠ "java/lang/invoke/VarHandle" ∧ (parseMethodDescriptor yX9_pointHeight.desc).map (fun d => d.parameters.length) = some 0 := by decide +kernel
set_option maxHeartbeats 4000000 in
set_option maxRecDepth 100000 in
theorem lc_pointHeight {p : Program} {l : Launch} {ee : Env} {s : State} {mi : MethodId} {args : Array Value} {below : List Frame} {meth : Method} {cd : Code} {G : xG} {Z : State → Prop} {rt : Option FieldType} {k0 n0 bs L i x mm o : Nat} {xs : Nat → Int32} {K N : Nat → Nat} {I : Nat → Nat → Int32} {Q : Nat → Nat → Option Nat} {J : Nat → Nat → Int64} {ow : xO} {n : Nat} {c : Nat → Nat} {al : Nat → Bool} {sp tu pt : Nat → Nat} {m : Nat} {pc : Nat → Nat} {pa : Nat → Bool} {ps : Nat → Nat} {r d u g w : Int32} {ar : Nat → Nat} (C : XC p s mi args meth cd code 9 RL rt G) (hX : gX G s s.heap) (hlt : l.stackTraces = false) (hXs : va_X bs L xs s s.heap) (hbl : bs < s.heap.size) (hbA : ¬ gA G bs) (hi : i + 5 ≤ L) (hL : L ≤ 2560) (hk0 : k0 + 100 ≤ room_1.cells) (hn0 : n0 + 2000 ≤ room_1.slots) (hS : SY ow (K, N, I, Q, J) x n c al sp tu pt m pc pa ps r d u g w) (hM : KM ow (K, N, I, Q, J) mm ar n c al sp tu pt m pc pa ps r d u g w) (hO : K o = 24 ∧ N o = 1 ∧ ow o = 10) (hB : BNm n al tu m pa)  (kk : ∀ (ow1 : xO) (S1 : xS), INV ow1 S1 x mm o → XW p l ee room_1 s mi args below meth cd G Z (k0 + 100) (n0 + 2000) S1 1254 [some (.ref bs), some (.ref x), some (.ref mm), some (.ref o), some (.int (nI i)), none, none, none, none] []) : XW p l ee room_1 s mi args below meth cd G Z k0 n0 (K, N, I, Q, J) 1068 [some (.ref bs), some (.ref x), some (.ref mm), some (.ref o), some (.int (nI i)), none, none, none, none] [] := by
  obtain ⟨hKB, hPB, hUP, hPI, hn2, hcb, hm2, hsb, hx⟩ := hS.kb
  have hx : K x = 8 := hx
  have hmm : K mm = 9 := hM.1.1
  have ht30 : ∀ i, i < n → tu i < 2 ^ 30 := fun i hi => Nat.lt_trans (hsb i hi).2 (by decide)
  have hs30 : ∀ i, i < n → sp i < 2 ^ 30 := fun i hi => Nat.lt_trans (hsb i hi).1 (by decide)
  have hp30 : ∀ i, i < m → ps i < 2 ^ 30 := fun i hi => Nat.lt_trans (hPB i hi).2.2 (by decide)
  refine x_aload_n C D_L_law_48.2.2.2.1 rfl rfl (by first | exact Or.inr ⟨_, rfl⟩ | exact va_rf_or _ | exact Or.inl rfl) ?_
  refine x_callVi C (y := yX8_pointHeight) (c_X8_pointHeight l G ow x n m c al sp tu pt pc ps pa r d u g w  hS ) (ci := 7) (by assumption) (by decide) rfl rfl k_484 k_485 k_486 k_60 k_487 hd_X8_pointHeight ⟨(Nat.le_of_ble_eq_true rfl), (Nat.le_of_ble_eq_true rfl)⟩ rfl (by first | exact Nat.le_of_ble_eq_true rfl | simp [x_crf, Value.category]) rfl rfl D_L_law_48.2.2.2.2.1 ⟨Nat.le_trans (Nat.add_le_add_left (Nat.le_of_ble_eq_true rfl : _ ≤ 20) _) (by omega), Nat.le_trans (Nat.add_le_add_left (Nat.le_of_ble_eq_true rfl : _ ≤ 400) _) (by omega)⟩ (fun r_1069 S_1069 h_1069 => ?_)
  refine x_widen (k' := k0 + 20) (n' := n0 + 400) (Nat.add_le_add_left (Nat.le_of_ble_eq_true rfl) _) (Nat.add_le_add_left (Nat.le_of_ble_eq_true rfl) _) ?_
  obtain ⟨rfl, rfl⟩ := h_1069
  have hM1 := hM
  have hS1 := hS
  have hO1 := hO
  have hm1 : K mm = 9 := hM1.1.1
  have m1d : I mm 1 = d := hM1.2.2.2.2.1
  have m1r : I mm 2 = r := hM1.2.2.2.2.2.1
  have m1u : I mm 3 = u := hM1.2.2.2.2.2.2.1
  have m1g : I mm 4 = g := hM1.2.2.2.2.2.2.2.1
  have m1w : I mm 11 = w := hM1.2.2.2.2.2.2.2.2
  refine x_aload_n C D_L_law_48.2.2.2.2.2.1 rfl rfl (by first | exact Or.inr ⟨_, rfl⟩ | exact va_rf_or _ | exact Or.inl rfl) ?_
  refine x_callVi C (y := yX9_pointHeight) (c_X9_pointHeight l G mm m ar pc ps pa  hM1.1 hM1.2.2.1 hp30) (ci := 8) hm1 (by decide) rfl rfl k_1192 k_1193 k_1194 k_67 k_1195 hd_X9_pointHeight ⟨(Nat.le_of_ble_eq_true rfl), (Nat.le_of_ble_eq_true rfl)⟩ rfl (by first | exact Nat.le_of_ble_eq_true rfl | simp [x_crf, Value.category]) rfl rfl D_L_law_48.2.2.2.2.2.2.1 ⟨Nat.le_trans (Nat.add_le_add_left (Nat.le_of_ble_eq_true rfl : _ ≤ 20) _) (by omega), Nat.le_trans (Nat.add_le_add_left (Nat.le_of_ble_eq_true rfl : _ ≤ 400) _) (by omega)⟩ (fun r_1073 S_1073 h_1073 => ?_)
  refine x_widen (k' := k0 + 20 + 20) (n' := n0 + 400 + 400) (Nat.add_le_add_left (Nat.le_of_ble_eq_true rfl) _) (Nat.add_le_add_left (Nat.le_of_ble_eq_true rfl) _) ?_
  obtain ⟨rfl, rfl⟩ := h_1073
  refine x_icmp_eq C 1254 D_L_law_48.2.2.2.2.2.2.2.1 (by decide) (fun c_1076 => ?_) (fun c_1076 => ?_)
  · skip
    exact x_drop9 (x_widen (by omega) (by omega) (kk _ _ (INV.q hS1 hM1 hO1 hB _)))
  · skip
    exact absurd rfl c_1076
    --end
theorem hd_X8_pointsRebuilt : yX8_pointsRebuilt.cls ≠ "java/lang/invoke/MethodHandle" ∧ yX8_pointsRebuilt.cls ≠ "java/lang/invoke/VarHandle" ∧ (parseMethodDescriptor yX8_pointsRebuilt.desc).map (fun d => d.parameters.length) = some 0 := by decide +kernel
theorem hd_X9_pointsRebuilt : yX9_pointsRebuilt.cls ≠ "java/lang/invoke/MethodHandle" ∧ yX9_pointsRebuilt.cls ≠ "java/lang/invoke/VarHandle" ∧ (parseMethodDescriptor yX9_pointsRebuilt.desc).map (fun d => d.parameters.length) = some 0 := by decide +kernel
set_option maxHeartbeats 4000000 in
set_option maxRecDepth 100000 in
theorem lc_pointsRebuilt {p : Program} {l : Launch} {ee : Env} {s : State} {mi : MethodId} {args : Array Value} {below : List Frame} {meth : Method} {cd : Code} {G : xG} {Z : State → Prop} {rt : Option FieldType} {k0 n0 bs L i x mm o : Nat} {xs : Nat → Int32} {K N : Nat → Nat} {I : Nat → Nat → Int32} {Q : Nat → Nat → Option Nat} {J : Nat → Nat → Int64} {ow : xO} {n : Nat} {c : Nat → Nat} {al : Nat → Bool} {sp tu pt : Nat → Nat} {m : Nat} {pc : Nat → Nat} {pa : Nat → Bool} {ps : Nat → Nat} {r d u g w : Int32} {ar : Nat → Nat} (C : XC p s mi args meth cd code 9 RL rt G) (hX : gX G s s.heap) (hlt : l.stackTraces = false) (hXs : va_X bs L xs s s.heap) (hbl : bs < s.heap.size) (hbA : ¬ gA G bs) (hi : i + 5 ≤ L) (hL : L ≤ 2560) (hk0 : k0 + 100 ≤ room_1.cells) (hn0 : n0 + 2000 ≤ room_1.slots) (hS : SY ow (K, N, I, Q, J) x n c al sp tu pt m pc pa ps r d u g w) (hM : KM ow (K, N, I, Q, J) mm ar n c al sp tu pt m pc pa ps r d u g w) (hO : K o = 24 ∧ N o = 1 ∧ ow o = 10) (hB : BNm n al tu m pa)  (kk : ∀ (ow1 : xO) (S1 : xS), INV ow1 S1 x mm o → XW p l ee room_1 s mi args below meth cd G Z (k0 + 100) (n0 + 2000) S1 1254 [some (.ref bs), some (.ref x), some (.ref mm), some (.ref o), some (.int (nI i)), none, none, none, none] []) : XW p l ee room_1 s mi args below meth cd G Z k0 n0 (K, N, I, Q, J) 1241 [some (.ref bs), some (.ref x), some (.ref mm), some (.ref o), some (.int (nI i)), none, none, none, none] [] := by
  obtain ⟨hKB, hPB, hUP, hPI, hn2, hcb, hm2, hsb, hx⟩ := hS.kb
  have hx : K x = 8 := hx
  have hmm : K mm = 9 := hM.1.1
  have ht30 : ∀ i, i < n → tu i < 2 ^ 30 := fun i hi => Nat.lt_trans (hsb i hi).2 (by decide)
  have hs30 : ∀ i, i < n → sp i < 2 ^ 30 := fun i hi => Nat.lt_trans (hsb i hi).1 (by decide)
  have hp30 : ∀ i, i < m → ps i < 2 ^ 30 := fun i hi => Nat.lt_trans (hPB i hi).2.2 (by decide)
  refine x_aload_n C D_L_law_58.1 rfl rfl (by first | exact Or.inr ⟨_, rfl⟩ | exact va_rf_or _ | exact Or.inl rfl) ?_
  refine x_callVi C (y := yX8_pointsRebuilt) (c_X8_pointsRebuilt l G ow x n m c al sp tu pt pc ps pa r d u g w  hS ) (ci := 7) (by assumption) (by decide) rfl rfl k_491 k_492 k_493 k_60 k_494 hd_X8_pointsRebuilt ⟨(Nat.le_of_ble_eq_true rfl), (Nat.le_of_ble_eq_true rfl)⟩ rfl (by first | exact Nat.le_of_ble_eq_true rfl | simp [x_crf, Value.category]) rfl rfl D_L_law_58.2.1 ⟨Nat.le_trans (Nat.add_le_add_left (Nat.le_of_ble_eq_true rfl : _ ≤ 20) _) (by omega), Nat.le_trans (Nat.add_le_add_left (Nat.le_of_ble_eq_true rfl : _ ≤ 400) _) (by omega)⟩ (fun r_1242 S_1242 h_1242 => ?_)
  refine x_widen (k' := k0 + 20) (n' := n0 + 400) (Nat.add_le_add_left (Nat.le_of_ble_eq_true rfl) _) (Nat.add_le_add_left (Nat.le_of_ble_eq_true rfl) _) ?_
  obtain ⟨h1_, rfl⟩ := h_1242
  refine x_eqi _ h1_ ?_
  have hM1 := hM
  have hS1 := hS
  have hO1 := hO
  have hm1 : K mm = 9 := hM1.1.1
  have m1d : I mm 1 = d := hM1.2.2.2.2.1
  have m1r : I mm 2 = r := hM1.2.2.2.2.2.1
  have m1u : I mm 3 = u := hM1.2.2.2.2.2.2.1
  have m1g : I mm 4 = g := hM1.2.2.2.2.2.2.2.1
  have m1w : I mm 11 = w := hM1.2.2.2.2.2.2.2.2
  refine x_aload_n C D_L_law_58.2.2.1 rfl rfl (by first | exact Or.inr ⟨_, rfl⟩ | exact va_rf_or _ | exact Or.inl rfl) ?_
  refine x_callVi C (y := yX9_pointsRebuilt) (c_X9_pointsRebuilt l G mm hm1) (ci := 8) hm1 (by decide) rfl rfl k_1205 k_1206 k_1207 k_67 k_1208 hd_X9_pointsRebuilt ⟨(Nat.le_of_ble_eq_true rfl), (Nat.le_of_ble_eq_true rfl)⟩ rfl (by first | exact Nat.le_of_ble_eq_true rfl | simp [x_crf, Value.category]) rfl rfl D_L_law_58.2.2.2.1 ⟨Nat.le_trans (Nat.add_le_add_left (Nat.le_of_ble_eq_true rfl : _ ≤ 20) _) (by omega), Nat.le_trans (Nat.add_le_add_left (Nat.le_of_ble_eq_true rfl : _ ≤ 400) _) (by omega)⟩ (fun r_1246 S_1246 h_1246 => ?_)
  refine x_widen (k' := k0 + 20 + 20) (n' := n0 + 400 + 400) (Nat.add_le_add_left (Nat.le_of_ble_eq_true rfl) _) (Nat.add_le_add_left (Nat.le_of_ble_eq_true rfl) _) ?_
  obtain ⟨rfl, rfl⟩ := h_1246
  refine x_eqi _ ((m1w)) ?_
  refine x_icmp_eq C 1254 D_L_law_58.2.2.2.2.1 (by decide) (fun c_1249 => ?_) (fun c_1249 => ?_)
  · skip
    exact x_drop9 (x_widen (by omega) (by omega) (kk _ _ (INV.q hS1 hM1 hO1 hB _)))
  · skip
    exact absurd rfl c_1249
    --end
theorem hd_X8_averageDepth : yX8_averageDepth.cls ≠ "java/lang/invoke/MethodHandle" ∧ yX8_averageDepth.cls ≠ "java/lang/invoke/VarHandle" ∧ (parseMethodDescriptor yX8_averageDepth.desc).map (fun d => d.parameters.length) = some 0 := by decide +kernel
theorem hd_X9_averageDepth : yX9_averageDepth.cls ≠ "java/lang/invoke/MethodHandle" ∧ yX9_averageDepth.cls ≠ "java/lang/invoke/VarHandle" ∧ (parseMethodDescriptor yX9_averageDepth.desc).map (fun d => d.parameters.length) = some 0 := by decide +kernel
set_option maxHeartbeats 4000000 in
set_option maxRecDepth 100000 in
theorem lc_averageDepth {p : Program} {l : Launch} {ee : Env} {s : State} {mi : MethodId} {args : Array Value} {below : List Frame} {meth : Method} {cd : Code} {G : xG} {Z : State → Prop} {rt : Option FieldType} {k0 n0 bs L i x mm o : Nat} {xs : Nat → Int32} {K N : Nat → Nat} {I : Nat → Nat → Int32} {Q : Nat → Nat → Option Nat} {J : Nat → Nat → Int64} {ow : xO} {n : Nat} {c : Nat → Nat} {al : Nat → Bool} {sp tu pt : Nat → Nat} {m : Nat} {pc : Nat → Nat} {pa : Nat → Bool} {ps : Nat → Nat} {r d u g w : Int32} {ar : Nat → Nat} (C : XC p s mi args meth cd code 9 RL rt G) (hX : gX G s s.heap) (hlt : l.stackTraces = false) (hXs : va_X bs L xs s s.heap) (hbl : bs < s.heap.size) (hbA : ¬ gA G bs) (hi : i + 5 ≤ L) (hL : L ≤ 2560) (hk0 : k0 + 100 ≤ room_1.cells) (hn0 : n0 + 2000 ≤ room_1.slots) (hS : SY ow (K, N, I, Q, J) x n c al sp tu pt m pc pa ps r d u g w) (hM : KM ow (K, N, I, Q, J) mm ar n c al sp tu pt m pc pa ps r d u g w) (hO : K o = 24 ∧ N o = 1 ∧ ow o = 10) (hB : BNm n al tu m pa)  (kk : ∀ (ow1 : xO) (S1 : xS), INV ow1 S1 x mm o → XW p l ee room_1 s mi args below meth cd G Z (k0 + 100) (n0 + 2000) S1 1254 [some (.ref bs), some (.ref x), some (.ref mm), some (.ref o), some (.int (nI i)), none, none, none, none] []) : XW p l ee room_1 s mi args below meth cd G Z k0 n0 (K, N, I, Q, J) 556 [some (.ref bs), some (.ref x), some (.ref mm), some (.ref o), some (.int (nI i)), none, none, none, none] [] := by
  obtain ⟨hKB, hPB, hUP, hPI, hn2, hcb, hm2, hsb, hx⟩ := hS.kb
  have hx : K x = 8 := hx
  have hmm : K mm = 9 := hM.1.1
  have ht30 : ∀ i, i < n → tu i < 2 ^ 30 := fun i hi => Nat.lt_trans (hsb i hi).2 (by decide)
  have hs30 : ∀ i, i < n → sp i < 2 ^ 30 := fun i hi => Nat.lt_trans (hsb i hi).1 (by decide)
  have hp30 : ∀ i, i < m → ps i < 2 ^ 30 := fun i hi => Nat.lt_trans (hPB i hi).2.2 (by decide)
  refine x_aload_n C D_L_law_21.2.2.2.2.2.2.2.2.2.1 rfl rfl (by first | exact Or.inr ⟨_, rfl⟩ | exact va_rf_or _ | exact Or.inl rfl) ?_
  refine x_callVf C (y := yX8_averageDepth) (c_X8_averageDepth l G ow x n m c al sp tu pt pc ps pa r d u g w  hS ) (ci := 7) (by assumption) (by decide) rfl rfl k_411 k_412 k_413 k_60 k_414 hd_X8_averageDepth ⟨(Nat.le_of_ble_eq_true rfl), (Nat.le_of_ble_eq_true rfl)⟩ rfl (by first | exact Nat.le_of_ble_eq_true rfl | simp [x_crf, Value.category]) rfl rfl D_L_law_21.2.2.2.2.2.2.2.2.2.2.1 ⟨Nat.le_trans (Nat.add_le_add_left (Nat.le_of_ble_eq_true rfl : _ ≤ 20) _) (by omega), Nat.le_trans (Nat.add_le_add_left (Nat.le_of_ble_eq_true rfl : _ ≤ 400) _) (by omega)⟩ (fun r_557 S_557 h_557 => ?_)
  refine x_widen (k' := k0 + 20) (n' := n0 + 400) (Nat.add_le_add_left (Nat.le_of_ble_eq_true rfl) _) (Nat.add_le_add_left (Nat.le_of_ble_eq_true rfl) _) ?_
  obtain ⟨rfl, rfl⟩ := h_557
  have hM1 := hM
  have hS1 := hS
  have hO1 := hO
  have hm1 : K mm = 9 := hM1.1.1
  have m1d : I mm 1 = d := hM1.2.2.2.2.1
  have m1r : I mm 2 = r := hM1.2.2.2.2.2.1
  have m1u : I mm 3 = u := hM1.2.2.2.2.2.2.1
  have m1g : I mm 4 = g := hM1.2.2.2.2.2.2.2.1
  have m1w : I mm 11 = w := hM1.2.2.2.2.2.2.2.2
  have hav := av_f2d (av_nn (smd sp n) n (by omega))
  refine x_f2d C D_L_law_21.2.2.2.2.2.2.2.2.2.2.2 hav.1 ?_
  refine x_dstore C (lv' := [_, _, _, _, _, _, _, _, _]) D_L_law_22.1 (Nat.le_of_ble_eq_true rfl) (by first | rfl | exact x_ok_q rfl) rfl ?_
  refine x_aload_n C D_L_law_22.2.1 rfl rfl (by first | exact Or.inr ⟨_, rfl⟩ | exact va_rf_or _ | exact Or.inl rfl) ?_
  refine x_callVf C (y := yX9_averageDepth) (c_X9_averageDepth l G mm n ar c sp tu pt al  hM1.1 hM1.2.1 hs30) (ci := 8) hm1 (by decide) rfl rfl k_1109 k_1110 k_1111 k_67 k_1112 hd_X9_averageDepth ⟨(Nat.le_of_ble_eq_true rfl), (Nat.le_of_ble_eq_true rfl)⟩ rfl (by first | exact Nat.le_of_ble_eq_true rfl | simp [x_crf, Value.category]) rfl rfl D_L_law_22.2.2.1 ⟨Nat.le_trans (Nat.add_le_add_left (Nat.le_of_ble_eq_true rfl : _ ≤ 20) _) (by omega), Nat.le_trans (Nat.add_le_add_left (Nat.le_of_ble_eq_true rfl : _ ≤ 400) _) (by omega)⟩ (fun r_564 S_564 h_564 => ?_)
  refine x_widen (k' := k0 + 20 + 20) (n' := n0 + 400 + 400) (Nat.add_le_add_left (Nat.le_of_ble_eq_true rfl) _) (Nat.add_le_add_left (Nat.le_of_ble_eq_true rfl) _) ?_
  obtain ⟨rfl, rfl⟩ := h_564
  refine x_f2d C D_L_law_22.2.2.2.1 hav.1 ?_
  refine x_dstore C (lv' := [_, _, _, _, _, _, _, _, _]) D_L_law_22.2.2.2.2.1 (Nat.le_of_ble_eq_true rfl) (by first | rfl | exact x_ok_q rfl) rfl ?_
  refine x_dload C D_L_law_22.2.2.2.2.2.1 rfl ?_
  refine x_dload C D_L_law_22.2.2.2.2.2.2.1 rfl ?_
  refine x_dcmp C D_L_law_22.2.2.2.2.2.2.2.1 ?_
  refine x_eqi _ (show Op.cmpValue (FP.dcmp (FP.f2d (avgF (smd sp n) n)) (FP.f2d (avgF (smd sp n) n))) .l = 0 by rw [hav.2]; rfl) ?_
  refine x_if_eq C 596 D_L_law_22.2.2.2.2.2.2.2.2.1 (by decide) (fun c_575 => ?_) (fun c_575 => ?_)
  · skip
    refine x_goto C 1254 D_L_law_23.2.2.2.2.2.2.2.1 (by decide) ?_
    exact x_drop9 (x_widen (by omega) (by omega) (kk _ _ (INV.q hS1 hM1 hO1 hB _)))
  · skip
    exact absurd rfl c_575
    --end
theorem hd_L_keyAt : yL_keyAt.cls ≠ "java/lang/invoke/MethodHandle" ∧ yL_keyAt.cls ≠ "java/lang/invoke/VarHandle" ∧ (parseMethodDescriptor yL_keyAt.desc).map (fun d => d.parameters.length) = some 3 := by decide +kernel
theorem hd_X9_keyAt : yX9_keyAt.cls ≠ "java/lang/invoke/MethodHandle" ∧ yX9_keyAt.cls ≠ "java/lang/invoke/VarHandle" ∧ (parseMethodDescriptor yX9_keyAt.desc).map (fun d => d.parameters.length) = some 1 := by decide +kernel
set_option maxHeartbeats 4000000 in
set_option maxRecDepth 100000 in
theorem lc_keyAtY {p : Program} {l : Launch} {ee : Env} {s : State} {mi : MethodId} {args : Array Value} {below : List Frame} {meth : Method} {cd : Code} {G : xG} {Z : State → Prop} {rt : Option FieldType} {k0 n0 bs L i x mm o : Nat} {xs : Nat → Int32} {K N : Nat → Nat} {I : Nat → Nat → Int32} {Q : Nat → Nat → Option Nat} {J : Nat → Nat → Int64} {ow : xO} {n : Nat} {c : Nat → Nat} {al : Nat → Bool} {sp tu pt : Nat → Nat} {m : Nat} {pc : Nat → Nat} {pa : Nat → Bool} {ps : Nat → Nat} {r d u g w : Int32} {ar : Nat → Nat} (C : XC p s mi args meth cd code 9 RL rt G) (hX : gX G s s.heap) (hlt : l.stackTraces = false) (hXs : va_X bs L xs s s.heap) (hbl : bs < s.heap.size) (hbA : ¬ gA G bs) (hi : i + 5 ≤ L) (hL : L ≤ 2560) (hk0 : k0 + 100 ≤ room_1.cells) (hn0 : n0 + 2000 ≤ room_1.slots) (hS : SY ow (K, N, I, Q, J) x n c al sp tu pt m pc pa ps r d u g w) (hM : KM ow (K, N, I, Q, J) mm ar n c al sp tu pt m pc pa ps r d u g w) (hO : K o = 24 ∧ N o = 1 ∧ ow o = 10) (hB : BNm n al tu m pa) (j : Nat) (hj : j < cn al n) (y1 : xs (i + 1) = nI j) (kk : ∀ (ow1 : xO) (S1 : xS), INV ow1 S1 x mm o → XW p l ee room_1 s mi args below meth cd G Z (k0 + 100) (n0 + 2000) S1 1254 [some (.ref bs), some (.ref x), some (.ref mm), some (.ref o), some (.int (nI i)), none, none, none, none] []) : XW p l ee room_1 s mi args below meth cd G Z k0 n0 (K, N, I, Q, J) 323 [some (.ref bs), some (.ref x), some (.ref mm), some (.ref o), some (.int (nI i)), none, none, none, none] [] := by
  obtain ⟨hKB, hPB, hUP, hPI, hn2, hcb, hm2, hsb, hx⟩ := hS.kb
  have hx : K x = 8 := hx
  have hmm : K mm = 9 := hM.1.1
  have ht30 : ∀ i, i < n → tu i < 2 ^ 30 := fun i hi => Nat.lt_trans (hsb i hi).2 (by decide)
  have hs30 : ∀ i, i < n → sp i < 2 ^ 30 := fun i hi => Nat.lt_trans (hsb i hi).1 (by decide)
  have hp30 : ∀ i, i < m → ps i < 2 ^ 30 := fun i hi => Nat.lt_trans (hPB i hi).2.2 (by decide)
  refine x_aload_n C D_L_law_10.2.1 rfl rfl (by first | exact Or.inr ⟨_, rfl⟩ | exact va_rf_or _ | exact Or.inl rfl) ?_
  refine x_aload_n C D_L_law_10.2.2.1 rfl rfl (by first | exact Or.inr ⟨_, rfl⟩ | exact va_rf_or _ | exact Or.inl rfl) ?_
  refine x_iload C D_L_law_10.2.2.2.1 rfl ?_
  refine x_iconst C (v := nI 1) D_L_law_10.2.2.2.2.1 (by decide +kernel) ?_
  refine x_iadd C D_L_law_10.2.2.2.2.2.1 ?_
  first
  | refine x_eqi _ (nI_add _ _) ?_
  | skip
  refine x_sld C hXs hbl hbA _ rfl (by omega) hL D_L_law_10.2.2.2.2.2.2.1 ?_
  refine x_eqi _ y1 ?_
  refine x_aload_n C D_L_law_10.2.2.2.2.2.2.2.1 rfl rfl (by first | exact Or.inr ⟨_, rfl⟩ | exact va_rf_or _ | exact Or.inl rfl) ?_
  refine x_callW C hX (y := yL_keyAt) (c_L_keyAtY l G ow x o n m c al sp tu pt pc ps pa r d u g w j hlt hS ⟨hO.1, hO.2.1⟩ hj) k_712 k_713 k_59 kw_keyAt hd_L_keyAt ⟨(Nat.le_of_ble_eq_true rfl), (Nat.le_of_ble_eq_true rfl)⟩ rfl (by first | exact Nat.le_of_ble_eq_true rfl | simp [x_crf, Value.category]) rfl rfl D_L_law_10.2.2.2.2.2.2.2.2.1 ⟨Nat.le_trans (Nat.add_le_add_left (Nat.le_of_ble_eq_true rfl : _ ≤ 20) _) (by omega), Nat.le_trans (Nat.add_le_add_left (Nat.le_of_ble_eq_true rfl : _ ≤ 400) _) (by omega)⟩ (fun r_331 S_331 h_331 => ?_)
  refine x_widen (k' := k0 + 20) (n' := n0 + 400) (Nat.add_le_add_left (Nat.le_of_ble_eq_true rfl) _) (Nat.add_le_add_left (Nat.le_of_ble_eq_true rfl) _) ?_
  obtain ⟨rfl, S0, J2, rfl, eJ2, ow1, hF1, hS1⟩ := h_331
  obtain ⟨K1, N1, I1, Q1, J1⟩ := S0
  have hM1 := (hM.agree hF1).J (J1 := J2)
  have hS1 := hS1.J (J1 := J2)
  have hO1 := hF1.o hO
  have hm1 : K1 mm = 9 := hM1.1.1
  have ko1 : K1 o = 24 := hO1.1
  have no1 : N1 o = 1 := hO1.2.1
  have m1d : I1 mm 1 = d := hM1.2.2.2.2.1
  have m1r : I1 mm 2 = r := hM1.2.2.2.2.2.1
  have m1u : I1 mm 3 = u := hM1.2.2.2.2.2.2.1
  have m1g : I1 mm 4 = g := hM1.2.2.2.2.2.2.2.1
  have m1w : I1 mm 11 = w := hM1.2.2.2.2.2.2.2.2
  refine x_istore C (lv' := [_, _, _, _, _, _, _, _, _]) D_L_law_10.2.2.2.2.2.2.2.2.2.1 (Nat.le_of_ble_eq_true rfl) (by first | rfl | exact x_ok_q rfl) rfl ?_
  refine x_aload_n C D_L_law_10.2.2.2.2.2.2.2.2.2.2.1 rfl rfl (by first | exact Or.inr ⟨_, rfl⟩ | exact va_rf_or _ | exact Or.inl rfl) ?_
  refine x_aload_n C D_L_law_10.2.2.2.2.2.2.2.2.2.2.2 rfl rfl (by first | exact Or.inr ⟨_, rfl⟩ | exact va_rf_or _ | exact Or.inl rfl) ?_
  refine x_iload C D_L_law_11.1 rfl ?_
  refine x_iconst C (v := nI 1) D_L_law_11.2.1 (by decide +kernel) ?_
  refine x_iadd C D_L_law_11.2.2.1 ?_
  first
  | refine x_eqi _ (nI_add _ _) ?_
  | skip
  refine x_sld C hXs hbl hbA _ rfl (by omega) hL D_L_law_11.2.2.2.1 ?_
  refine x_eqi _ y1 ?_
  refine x_callVi C (y := yX9_keyAt) (c_X9_keyAtI l G mm n ar c sp tu pt al j hM1.1 hM1.2.1 hj) (ci := 8) hm1 (by decide) rfl rfl k_1070 k_1071 k_1072 k_67 k_1073 hd_X9_keyAt ⟨(Nat.le_of_ble_eq_true rfl), (Nat.le_of_ble_eq_true rfl)⟩ rfl (by first | exact Nat.le_of_ble_eq_true rfl | simp [x_crf, Value.category]) rfl rfl D_L_law_11.2.2.2.2.1 ⟨Nat.le_trans (Nat.add_le_add_left (Nat.le_of_ble_eq_true rfl : _ ≤ 20) _) (by omega), Nat.le_trans (Nat.add_le_add_left (Nat.le_of_ble_eq_true rfl : _ ≤ 400) _) (by omega)⟩ (fun r_343 S_343 h_343 => ?_)
  refine x_widen (k' := k0 + 20 + 20) (n' := n0 + 400 + 400) (Nat.add_le_add_left (Nat.le_of_ble_eq_true rfl) _) (Nat.add_le_add_left (Nat.le_of_ble_eq_true rfl) _) ?_
  obtain ⟨rfl, rfl⟩ := h_343
  refine x_istore C (lv' := [_, _, _, _, _, _, _, _, _]) D_L_law_11.2.2.2.2.2.1 (Nat.le_of_ble_eq_true rfl) (by first | rfl | exact x_ok_q rfl) rfl ?_
  refine x_aload_n C D_L_law_11.2.2.2.2.2.2.1 rfl rfl (by first | exact Or.inr ⟨_, rfl⟩ | exact va_rf_or _ | exact Or.inl rfl) ?_
  refine x_callVi C (y := yX9_thrown) (c_X9_thrown l G mm hm1) (ci := 8) hm1 (by decide) rfl rfl k_962 k_963 k_964 k_67 k_965 hd_X9_thrown ⟨(Nat.le_of_ble_eq_true rfl), (Nat.le_of_ble_eq_true rfl)⟩ rfl (by first | exact Nat.le_of_ble_eq_true rfl | simp [x_crf, Value.category]) rfl rfl D_L_law_11.2.2.2.2.2.2.2.1 ⟨Nat.le_trans (Nat.add_le_add_left (Nat.le_of_ble_eq_true rfl : _ ≤ 20) _) (by omega), Nat.le_trans (Nat.add_le_add_left (Nat.le_of_ble_eq_true rfl : _ ≤ 400) _) (by omega)⟩ (fun r_349 S_349 h_349 => ?_)
  refine x_widen (k' := k0 + 20 + 20 + 20) (n' := n0 + 400 + 400 + 400) (Nat.add_le_add_left (Nat.le_of_ble_eq_true rfl) _) (Nat.add_le_add_left (Nat.le_of_ble_eq_true rfl) _) ?_
  obtain ⟨rfl, rfl⟩ := h_349
  refine x_eqi _ (show _ = nI 0 from x_u2_s _ _ _ _) ?_
  refine x_iload C D_L_law_11.2.2.2.2.2.2.2.2.1 rfl ?_
  refine x_icmp_eq C 359 D_L_law_11.2.2.2.2.2.2.2.2.2.1 (by decide) (fun c_354 => ?_) (fun c_354 => ?_)
  · skip
    refine x_iload C D_L_law_12.1 rfl ?_
    refine x_if_ne C 376 D_L_law_12.2.1 (by decide) (fun c_361 => ?_) (fun c_361 => ?_)
    · skip
      exact absurd rfl c_361
      --end
    · skip
      refine x_aload_n C D_L_law_12.2.2.1 rfl rfl (by first | exact Or.inr ⟨_, rfl⟩ | exact va_rf_or _ | exact Or.inl rfl) ?_
      refine x_iconst C (v := nI 0) D_L_law_12.2.2.2.1 (by decide +kernel) ?_
      refine x_lald C 0 ko1 rfl (by omega) (by omega) D_L_law_12.2.2.2.2.1 ?_
      refine x_eql _ (show J2 o 0 = _ by rw [eJ2, x_u2_s]) ?_
      refine x_iload C D_L_law_12.2.2.2.2.2.1 rfl ?_
      refine x_i2l C D_L_law_12.2.2.2.2.2.2.1 ?_
      refine x_lcmp C D_L_law_12.2.2.2.2.2.2.2.1 ?_
      refine x_eqi _ (lg_self _) ?_
      refine x_if_eq C 376 D_L_law_12.2.2.2.2.2.2.2.2.1 (by decide) (fun c_371 => ?_) (fun c_371 => ?_)
      · skip
        refine x_goto C 1254 D_L_law_12.2.2.2.2.2.2.2.2.2.2.2 (by decide) ?_
        exact x_drop9 (x_widen (by omega) (by omega) (kk _ _ (INV.q hS1 hM1 hO1 hB _)))
      · skip
        exact absurd rfl c_371
        --end
  · skip
    exact absurd rfl c_354
    --end
set_option maxHeartbeats 4000000 in
set_option maxRecDepth 100000 in
theorem lc_keyAtN {p : Program} {l : Launch} {ee : Env} {s : State} {mi : MethodId} {args : Array Value} {below : List Frame} {meth : Method} {cd : Code} {G : xG} {Z : State → Prop} {rt : Option FieldType} {k0 n0 bs L i x mm o : Nat} {xs : Nat → Int32} {K N : Nat → Nat} {I : Nat → Nat → Int32} {Q : Nat → Nat → Option Nat} {J : Nat → Nat → Int64} {ow : xO} {n : Nat} {c : Nat → Nat} {al : Nat → Bool} {sp tu pt : Nat → Nat} {m : Nat} {pc : Nat → Nat} {pa : Nat → Bool} {ps : Nat → Nat} {r d u g w : Int32} {ar : Nat → Nat} (C : XC p s mi args meth cd code 9 RL rt G) (hX : gX G s s.heap) (hlt : l.stackTraces = false) (hXs : va_X bs L xs s s.heap) (hbl : bs < s.heap.size) (hbA : ¬ gA G bs) (hi : i + 5 ≤ L) (hL : L ≤ 2560) (hk0 : k0 + 100 ≤ room_1.cells) (hn0 : n0 + 2000 ≤ room_1.slots) (hS : SY ow (K, N, I, Q, J) x n c al sp tu pt m pc pa ps r d u g w) (hM : KM ow (K, N, I, Q, J) mm ar n c al sp tu pt m pc pa ps r d u g w) (hO : K o = 24 ∧ N o = 1 ∧ ow o = 10) (hB : BNm n al tu m pa) (hy : xs (i + 1) < 0 ∨ nI (cn al n) ≤ xs (i + 1)) (kk : ∀ (ow1 : xO) (S1 : xS), INV ow1 S1 x mm o → XW p l ee room_1 s mi args below meth cd G Z (k0 + 100) (n0 + 2000) S1 1254 [some (.ref bs), some (.ref x), some (.ref mm), some (.ref o), some (.int (nI i)), none, none, none, none] []) : XW p l ee room_1 s mi args below meth cd G Z k0 n0 (K, N, I, Q, J) 323 [some (.ref bs), some (.ref x), some (.ref mm), some (.ref o), some (.int (nI i)), none, none, none, none] [] := by
  obtain ⟨hKB, hPB, hUP, hPI, hn2, hcb, hm2, hsb, hx⟩ := hS.kb
  have hx : K x = 8 := hx
  have hmm : K mm = 9 := hM.1.1
  have ht30 : ∀ i, i < n → tu i < 2 ^ 30 := fun i hi => Nat.lt_trans (hsb i hi).2 (by decide)
  have hs30 : ∀ i, i < n → sp i < 2 ^ 30 := fun i hi => Nat.lt_trans (hsb i hi).1 (by decide)
  have hp30 : ∀ i, i < m → ps i < 2 ^ 30 := fun i hi => Nat.lt_trans (hPB i hi).2.2 (by decide)
  refine x_aload_n C D_L_law_10.2.1 rfl rfl (by first | exact Or.inr ⟨_, rfl⟩ | exact va_rf_or _ | exact Or.inl rfl) ?_
  refine x_aload_n C D_L_law_10.2.2.1 rfl rfl (by first | exact Or.inr ⟨_, rfl⟩ | exact va_rf_or _ | exact Or.inl rfl) ?_
  refine x_iload C D_L_law_10.2.2.2.1 rfl ?_
  refine x_iconst C (v := nI 1) D_L_law_10.2.2.2.2.1 (by decide +kernel) ?_
  refine x_iadd C D_L_law_10.2.2.2.2.2.1 ?_
  first
  | refine x_eqi _ (nI_add _ _) ?_
  | skip
  refine x_sld C hXs hbl hbA _ rfl (by omega) hL D_L_law_10.2.2.2.2.2.2.1 ?_
  refine x_aload_n C D_L_law_10.2.2.2.2.2.2.2.1 rfl rfl (by first | exact Or.inr ⟨_, rfl⟩ | exact va_rf_or _ | exact Or.inl rfl) ?_
  refine x_callW C hX (y := yL_keyAt) (c_L_keyAtN l G ow x o n m c al sp tu pt pc ps pa r d u g w (xs (i + 1)) hlt hS ⟨hO.1, hO.2.1⟩ hy) k_712 k_713 k_59 kw_keyAt hd_L_keyAt ⟨(Nat.le_of_ble_eq_true rfl), (Nat.le_of_ble_eq_true rfl)⟩ rfl (by first | exact Nat.le_of_ble_eq_true rfl | simp [x_crf, Value.category]) rfl rfl D_L_law_10.2.2.2.2.2.2.2.2.1 ⟨Nat.le_trans (Nat.add_le_add_left (Nat.le_of_ble_eq_true rfl : _ ≤ 20) _) (by omega), Nat.le_trans (Nat.add_le_add_left (Nat.le_of_ble_eq_true rfl : _ ≤ 400) _) (by omega)⟩ (fun r_331 S_331 h_331 => ?_)
  refine x_widen (k' := k0 + 20) (n' := n0 + 400) (Nat.add_le_add_left (Nat.le_of_ble_eq_true rfl) _) (Nat.add_le_add_left (Nat.le_of_ble_eq_true rfl) _) ?_
  obtain ⟨rfl, ow1, hF1, hS1⟩ := h_331
  obtain ⟨K1, N1, I1, Q1, J1⟩ := S_331
  have hM1 := hM.agree hF1
  have hO1 := hF1.o hO
  have hm1 : K1 mm = 9 := hM1.1.1
  have m1d : I1 mm 1 = d := hM1.2.2.2.2.1
  have m1r : I1 mm 2 = r := hM1.2.2.2.2.2.1
  have m1u : I1 mm 3 = u := hM1.2.2.2.2.2.2.1
  have m1g : I1 mm 4 = g := hM1.2.2.2.2.2.2.2.1
  have m1w : I1 mm 11 = w := hM1.2.2.2.2.2.2.2.2
  refine x_istore C (lv' := [_, _, _, _, _, _, _, _, _]) D_L_law_10.2.2.2.2.2.2.2.2.2.1 (Nat.le_of_ble_eq_true rfl) (by first | rfl | exact x_ok_q rfl) rfl ?_
  refine x_aload_n C D_L_law_10.2.2.2.2.2.2.2.2.2.2.1 rfl rfl (by first | exact Or.inr ⟨_, rfl⟩ | exact va_rf_or _ | exact Or.inl rfl) ?_
  refine x_aload_n C D_L_law_10.2.2.2.2.2.2.2.2.2.2.2 rfl rfl (by first | exact Or.inr ⟨_, rfl⟩ | exact va_rf_or _ | exact Or.inl rfl) ?_
  refine x_iload C D_L_law_11.1 rfl ?_
  refine x_iconst C (v := nI 1) D_L_law_11.2.1 (by decide +kernel) ?_
  refine x_iadd C D_L_law_11.2.2.1 ?_
  first
  | refine x_eqi _ (nI_add _ _) ?_
  | skip
  refine x_sld C hXs hbl hbA _ rfl (by omega) hL D_L_law_11.2.2.2.1 ?_
  refine x_callVi C (y := yX9_keyAt) (c_X9_keyAtX l G mm n ar c sp tu pt al (xs (i + 1)) hM1.1 hM1.2.1 hy) (ci := 8) hm1 (by decide) rfl rfl k_1070 k_1071 k_1072 k_67 k_1073 hd_X9_keyAt ⟨(Nat.le_of_ble_eq_true rfl), (Nat.le_of_ble_eq_true rfl)⟩ rfl (by first | exact Nat.le_of_ble_eq_true rfl | simp [x_crf, Value.category]) rfl rfl D_L_law_11.2.2.2.2.1 ⟨Nat.le_trans (Nat.add_le_add_left (Nat.le_of_ble_eq_true rfl : _ ≤ 20) _) (by omega), Nat.le_trans (Nat.add_le_add_left (Nat.le_of_ble_eq_true rfl : _ ≤ 400) _) (by omega)⟩ (fun r_343 S_343 h_343 => ?_)
  refine x_widen (k' := k0 + 20 + 20) (n' := n0 + 400 + 400) (Nat.add_le_add_left (Nat.le_of_ble_eq_true rfl) _) (Nat.add_le_add_left (Nat.le_of_ble_eq_true rfl) _) ?_
  obtain ⟨rfl, rfl⟩ := h_343
  refine x_istore C (lv' := [_, _, _, _, _, _, _, _, _]) D_L_law_11.2.2.2.2.2.1 (Nat.le_of_ble_eq_true rfl) (by first | rfl | exact x_ok_q rfl) rfl ?_
  refine x_aload_n C D_L_law_11.2.2.2.2.2.2.1 rfl rfl (by first | exact Or.inr ⟨_, rfl⟩ | exact va_rf_or _ | exact Or.inl rfl) ?_
  refine x_callVi C (y := yX9_thrown) (c_X9_thrown l G mm hm1) (ci := 8) hm1 (by decide) rfl rfl k_962 k_963 k_964 k_67 k_965 hd_X9_thrown ⟨(Nat.le_of_ble_eq_true rfl), (Nat.le_of_ble_eq_true rfl)⟩ rfl (by first | exact Nat.le_of_ble_eq_true rfl | simp [x_crf, Value.category]) rfl rfl D_L_law_11.2.2.2.2.2.2.2.1 ⟨Nat.le_trans (Nat.add_le_add_left (Nat.le_of_ble_eq_true rfl : _ ≤ 20) _) (by omega), Nat.le_trans (Nat.add_le_add_left (Nat.le_of_ble_eq_true rfl : _ ≤ 400) _) (by omega)⟩ (fun r_349 S_349 h_349 => ?_)
  refine x_widen (k' := k0 + 20 + 20 + 20) (n' := n0 + 400 + 400 + 400) (Nat.add_le_add_left (Nat.le_of_ble_eq_true rfl) _) (Nat.add_le_add_left (Nat.le_of_ble_eq_true rfl) _) ?_
  obtain ⟨rfl, rfl⟩ := h_349
  refine x_eqi _ (show _ = nI 1 from x_u2_s _ _ _ _) ?_
  refine x_iload C D_L_law_11.2.2.2.2.2.2.2.2.1 rfl ?_
  refine x_icmp_eq C 359 D_L_law_11.2.2.2.2.2.2.2.2.2.1 (by decide) (fun c_354 => ?_) (fun c_354 => ?_)
  · skip
    refine x_iload C D_L_law_12.1 rfl ?_
    refine x_if_ne C 376 D_L_law_12.2.1 (by decide) (fun c_361 => ?_) (fun c_361 => ?_)
    · skip
      refine x_goto C 1254 D_L_law_12.2.2.2.2.2.2.2.2.2.2.2 (by decide) ?_
      exact x_drop9 (x_widen (by omega) (by omega) (kk _ _ (INV.q hS1 hM1 hO1 hB _)))
    · skip
      exact absurd c_361 (by decide)
      --end
  · skip
    exact absurd rfl c_354
    --end
theorem hd_L_depth : yL_depth.cls ≠ "java/lang/invoke/MethodHandle" ∧ yL_depth.cls ≠ "java/lang/invoke/VarHandle" ∧ (parseMethodDescriptor yL_depth.desc).map (fun d => d.parameters.length) = some 3 := by decide +kernel
theorem hd_X9_depth : yX9_depth.cls ≠ "java/lang/invoke/MethodHandle" ∧ yX9_depth.cls ≠ "java/lang/invoke/VarHandle" ∧ (parseMethodDescriptor yX9_depth.desc).map (fun d => d.parameters.length) = some 1 := by decide +kernel
set_option maxHeartbeats 4000000 in
set_option maxRecDepth 100000 in
theorem lc_depthY {p : Program} {l : Launch} {ee : Env} {s : State} {mi : MethodId} {args : Array Value} {below : List Frame} {meth : Method} {cd : Code} {G : xG} {Z : State → Prop} {rt : Option FieldType} {k0 n0 bs L i x mm o : Nat} {xs : Nat → Int32} {K N : Nat → Nat} {I : Nat → Nat → Int32} {Q : Nat → Nat → Option Nat} {J : Nat → Nat → Int64} {ow : xO} {n : Nat} {c : Nat → Nat} {al : Nat → Bool} {sp tu pt : Nat → Nat} {m : Nat} {pc : Nat → Nat} {pa : Nat → Bool} {ps : Nat → Nat} {r d u g w : Int32} {ar : Nat → Nat} (C : XC p s mi args meth cd code 9 RL rt G) (hX : gX G s s.heap) (hlt : l.stackTraces = false) (hXs : va_X bs L xs s s.heap) (hbl : bs < s.heap.size) (hbA : ¬ gA G bs) (hi : i + 5 ≤ L) (hL : L ≤ 2560) (hk0 : k0 + 100 ≤ room_1.cells) (hn0 : n0 + 2000 ≤ room_1.slots) (hS : SY ow (K, N, I, Q, J) x n c al sp tu pt m pc pa ps r d u g w) (hM : KM ow (K, N, I, Q, J) mm ar n c al sp tu pt m pc pa ps r d u g w) (hO : K o = 24 ∧ N o = 1 ∧ ow o = 10) (hB : BNm n al tu m pa) (k : Nat) (hk : k < n) (y1 : xs (i + 1) = cv1 (c k)) (kk : ∀ (ow1 : xO) (S1 : xS), INV ow1 S1 x mm o → XW p l ee room_1 s mi args below meth cd G Z (k0 + 100) (n0 + 2000) S1 1254 [some (.ref bs), some (.ref x), some (.ref mm), some (.ref o), some (.int (nI i)), none, none, none, none] []) : XW p l ee room_1 s mi args below meth cd G Z k0 n0 (K, N, I, Q, J) 418 [some (.ref bs), some (.ref x), some (.ref mm), some (.ref o), some (.int (nI i)), none, none, none, none] [] := by
  obtain ⟨hKB, hPB, hUP, hPI, hn2, hcb, hm2, hsb, hx⟩ := hS.kb
  have hx : K x = 8 := hx
  have hmm : K mm = 9 := hM.1.1
  have ht30 : ∀ i, i < n → tu i < 2 ^ 30 := fun i hi => Nat.lt_trans (hsb i hi).2 (by decide)
  have hs30 : ∀ i, i < n → sp i < 2 ^ 30 := fun i hi => Nat.lt_trans (hsb i hi).1 (by decide)
  have hp30 : ∀ i, i < m → ps i < 2 ^ 30 := fun i hi => Nat.lt_trans (hPB i hi).2.2 (by decide)
  refine x_aload_n C D_L_law_14.2.2.2.2.2.2.2.2.2.1 rfl rfl (by first | exact Or.inr ⟨_, rfl⟩ | exact va_rf_or _ | exact Or.inl rfl) ?_
  refine x_aload_n C D_L_law_14.2.2.2.2.2.2.2.2.2.2.1 rfl rfl (by first | exact Or.inr ⟨_, rfl⟩ | exact va_rf_or _ | exact Or.inl rfl) ?_
  refine x_iload C D_L_law_14.2.2.2.2.2.2.2.2.2.2.2 rfl ?_
  refine x_iconst C (v := nI 1) D_L_law_15.1 (by decide +kernel) ?_
  refine x_iadd C D_L_law_15.2.1 ?_
  first
  | refine x_eqi _ (nI_add _ _) ?_
  | skip
  refine x_sld C hXs hbl hbA _ rfl (by omega) hL D_L_law_15.2.2.1 ?_
  refine x_eqi _ y1 ?_
  refine x_aload_n C D_L_law_15.2.2.2.1 rfl rfl (by first | exact Or.inr ⟨_, rfl⟩ | exact va_rf_or _ | exact Or.inl rfl) ?_
  refine x_callW C hX (y := yL_depth) (c_L_depthY l G ow x o n m c al sp tu pt pc ps pa r d u g w k hlt hS ⟨hO.1, hO.2.1⟩ hk) k_740 k_741 k_59 kw_depth hd_L_depth ⟨(Nat.le_of_ble_eq_true rfl), (Nat.le_of_ble_eq_true rfl)⟩ rfl (by first | exact Nat.le_of_ble_eq_true rfl | simp [x_crf, Value.category]) rfl rfl D_L_law_15.2.2.2.2.1 ⟨Nat.le_trans (Nat.add_le_add_left (Nat.le_of_ble_eq_true rfl : _ ≤ 20) _) (by omega), Nat.le_trans (Nat.add_le_add_left (Nat.le_of_ble_eq_true rfl : _ ≤ 400) _) (by omega)⟩ (fun r_426 S_426 h_426 => ?_)
  refine x_widen (k' := k0 + 20) (n' := n0 + 400) (Nat.add_le_add_left (Nat.le_of_ble_eq_true rfl) _) (Nat.add_le_add_left (Nat.le_of_ble_eq_true rfl) _) ?_
  obtain ⟨rfl, S0, J2, rfl, eJ2, ow1, hF1, hS1⟩ := h_426
  obtain ⟨K1, N1, I1, Q1, J1⟩ := S0
  have hM1 := (hM.agree hF1).J (J1 := J2)
  have hS1 := hS1.J (J1 := J2)
  have hO1 := hF1.o hO
  have hm1 : K1 mm = 9 := hM1.1.1
  have ko1 : K1 o = 24 := hO1.1
  have no1 : N1 o = 1 := hO1.2.1
  have m1d : I1 mm 1 = d := hM1.2.2.2.2.1
  have m1r : I1 mm 2 = r := hM1.2.2.2.2.2.1
  have m1u : I1 mm 3 = u := hM1.2.2.2.2.2.2.1
  have m1g : I1 mm 4 = g := hM1.2.2.2.2.2.2.2.1
  have m1w : I1 mm 11 = w := hM1.2.2.2.2.2.2.2.2
  refine x_istore C (lv' := [_, _, _, _, _, _, _, _, _]) D_L_law_15.2.2.2.2.2.1 (Nat.le_of_ble_eq_true rfl) (by first | rfl | exact x_ok_q rfl) rfl ?_
  refine x_aload_n C D_L_law_15.2.2.2.2.2.2.1 rfl rfl (by first | exact Or.inr ⟨_, rfl⟩ | exact va_rf_or _ | exact Or.inl rfl) ?_
  refine x_aload_n C D_L_law_15.2.2.2.2.2.2.2.1 rfl rfl (by first | exact Or.inr ⟨_, rfl⟩ | exact va_rf_or _ | exact Or.inl rfl) ?_
  refine x_iload C D_L_law_15.2.2.2.2.2.2.2.2.1 rfl ?_
  refine x_iconst C (v := nI 1) D_L_law_15.2.2.2.2.2.2.2.2.2.1 (by decide +kernel) ?_
  refine x_iadd C D_L_law_15.2.2.2.2.2.2.2.2.2.2.1 ?_
  first
  | refine x_eqi _ (nI_add _ _) ?_
  | skip
  refine x_sld C hXs hbl hbA _ rfl (by omega) hL D_L_law_15.2.2.2.2.2.2.2.2.2.2.2 ?_
  refine x_eqi _ y1 ?_
  refine x_callVi C (y := yX9_depth) (c_X9_depthY l G mm n ar c sp tu pt al (cv1 (c k)) k hM1.1 hM1.2.1 (KV_some hM1.2.1 hUP hcb hk) hs30) (ci := 8) hm1 (by decide) rfl rfl k_1089 k_1090 k_1091 k_67 k_1092 hd_X9_depth ⟨(Nat.le_of_ble_eq_true rfl), (Nat.le_of_ble_eq_true rfl)⟩ rfl (by first | exact Nat.le_of_ble_eq_true rfl | simp [x_crf, Value.category]) rfl rfl D_L_law_16.1 ⟨Nat.le_trans (Nat.add_le_add_left (Nat.le_of_ble_eq_true rfl : _ ≤ 20) _) (by omega), Nat.le_trans (Nat.add_le_add_left (Nat.le_of_ble_eq_true rfl : _ ≤ 400) _) (by omega)⟩ (fun r_438 S_438 h_438 => ?_)
  refine x_widen (k' := k0 + 20 + 20) (n' := n0 + 400 + 400) (Nat.add_le_add_left (Nat.le_of_ble_eq_true rfl) _) (Nat.add_le_add_left (Nat.le_of_ble_eq_true rfl) _) ?_
  obtain ⟨rfl, rfl⟩ := h_438
  refine x_istore C (lv' := [_, _, _, _, _, _, _, _, _]) D_L_law_16.2.1 (Nat.le_of_ble_eq_true rfl) (by first | rfl | exact x_ok_q rfl) rfl ?_
  refine x_aload_n C D_L_law_16.2.2.1 rfl rfl (by first | exact Or.inr ⟨_, rfl⟩ | exact va_rf_or _ | exact Or.inl rfl) ?_
  refine x_callVi C (y := yX9_thrown) (c_X9_thrown l G mm hm1) (ci := 8) hm1 (by decide) rfl rfl k_962 k_963 k_964 k_67 k_965 hd_X9_thrown ⟨(Nat.le_of_ble_eq_true rfl), (Nat.le_of_ble_eq_true rfl)⟩ rfl (by first | exact Nat.le_of_ble_eq_true rfl | simp [x_crf, Value.category]) rfl rfl D_L_law_16.2.2.2.1 ⟨Nat.le_trans (Nat.add_le_add_left (Nat.le_of_ble_eq_true rfl : _ ≤ 20) _) (by omega), Nat.le_trans (Nat.add_le_add_left (Nat.le_of_ble_eq_true rfl : _ ≤ 400) _) (by omega)⟩ (fun r_444 S_444 h_444 => ?_)
  refine x_widen (k' := k0 + 20 + 20 + 20) (n' := n0 + 400 + 400 + 400) (Nat.add_le_add_left (Nat.le_of_ble_eq_true rfl) _) (Nat.add_le_add_left (Nat.le_of_ble_eq_true rfl) _) ?_
  obtain ⟨rfl, rfl⟩ := h_444
  refine x_eqi _ (show _ = nI 0 from x_u2_s _ _ _ _) ?_
  refine x_iload C D_L_law_16.2.2.2.2.1 rfl ?_
  refine x_icmp_eq C 454 D_L_law_16.2.2.2.2.2.1 (by decide) (fun c_449 => ?_) (fun c_449 => ?_)
  · skip
    refine x_iload C D_L_law_16.2.2.2.2.2.2.2.2.1 rfl ?_
    refine x_if_ne C 471 D_L_law_16.2.2.2.2.2.2.2.2.2.1 (by decide) (fun c_456 => ?_) (fun c_456 => ?_)
    · skip
      exact absurd rfl c_456
      --end
    · skip
      refine x_aload_n C D_L_law_16.2.2.2.2.2.2.2.2.2.2.1 rfl rfl (by first | exact Or.inr ⟨_, rfl⟩ | exact va_rf_or _ | exact Or.inl rfl) ?_
      refine x_iconst C (v := nI 0) D_L_law_16.2.2.2.2.2.2.2.2.2.2.2 (by decide +kernel) ?_
      refine x_lald C 0 ko1 rfl (by omega) (by omega) D_L_law_17.1 ?_
      refine x_eql _ (show J2 o 0 = _ by rw [eJ2, x_u2_s]) ?_
      refine x_iload C D_L_law_17.2.1 rfl ?_
      refine x_i2l C D_L_law_17.2.2.1 ?_
      refine x_lcmp C D_L_law_17.2.2.2.1 ?_
      refine x_eqi _ (lg_self _) ?_
      refine x_if_eq C 471 D_L_law_17.2.2.2.2.1 (by decide) (fun c_466 => ?_) (fun c_466 => ?_)
      · skip
        refine x_goto C 1254 D_L_law_17.2.2.2.2.2.2.2.1 (by decide) ?_
        exact x_drop9 (x_widen (by omega) (by omega) (kk _ _ (INV.q hS1 hM1 hO1 hB _)))
      · skip
        exact absurd rfl c_466
        --end
  · skip
    exact absurd rfl c_449
    --end
set_option maxHeartbeats 4000000 in
set_option maxRecDepth 100000 in
theorem lc_depthN {p : Program} {l : Launch} {ee : Env} {s : State} {mi : MethodId} {args : Array Value} {below : List Frame} {meth : Method} {cd : Code} {G : xG} {Z : State → Prop} {rt : Option FieldType} {k0 n0 bs L i x mm o : Nat} {xs : Nat → Int32} {K N : Nat → Nat} {I : Nat → Nat → Int32} {Q : Nat → Nat → Option Nat} {J : Nat → Nat → Int64} {ow : xO} {n : Nat} {c : Nat → Nat} {al : Nat → Bool} {sp tu pt : Nat → Nat} {m : Nat} {pc : Nat → Nat} {pa : Nat → Bool} {ps : Nat → Nat} {r d u g w : Int32} {ar : Nat → Nat} (C : XC p s mi args meth cd code 9 RL rt G) (hX : gX G s s.heap) (hlt : l.stackTraces = false) (hXs : va_X bs L xs s s.heap) (hbl : bs < s.heap.size) (hbA : ¬ gA G bs) (hi : i + 5 ≤ L) (hL : L ≤ 2560) (hk0 : k0 + 100 ≤ room_1.cells) (hn0 : n0 + 2000 ≤ room_1.slots) (hS : SY ow (K, N, I, Q, J) x n c al sp tu pt m pc pa ps r d u g w) (hM : KM ow (K, N, I, Q, J) mm ar n c al sp tu pt m pc pa ps r d u g w) (hO : K o = 24 ∧ N o = 1 ∧ ow o = 10) (hB : BNm n al tu m pa) (hno : ∀ j, j < n → ¬ cv1 (c j) = xs (i + 1)) (kk : ∀ (ow1 : xO) (S1 : xS), INV ow1 S1 x mm o → XW p l ee room_1 s mi args below meth cd G Z (k0 + 100) (n0 + 2000) S1 1254 [some (.ref bs), some (.ref x), some (.ref mm), some (.ref o), some (.int (nI i)), none, none, none, none] []) : XW p l ee room_1 s mi args below meth cd G Z k0 n0 (K, N, I, Q, J) 418 [some (.ref bs), some (.ref x), some (.ref mm), some (.ref o), some (.int (nI i)), none, none, none, none] [] := by
  obtain ⟨hKB, hPB, hUP, hPI, hn2, hcb, hm2, hsb, hx⟩ := hS.kb
  have hx : K x = 8 := hx
  have hmm : K mm = 9 := hM.1.1
  have ht30 : ∀ i, i < n → tu i < 2 ^ 30 := fun i hi => Nat.lt_trans (hsb i hi).2 (by decide)
  have hs30 : ∀ i, i < n → sp i < 2 ^ 30 := fun i hi => Nat.lt_trans (hsb i hi).1 (by decide)
  have hp30 : ∀ i, i < m → ps i < 2 ^ 30 := fun i hi => Nat.lt_trans (hPB i hi).2.2 (by decide)
  refine x_aload_n C D_L_law_14.2.2.2.2.2.2.2.2.2.1 rfl rfl (by first | exact Or.inr ⟨_, rfl⟩ | exact va_rf_or _ | exact Or.inl rfl) ?_
  refine x_aload_n C D_L_law_14.2.2.2.2.2.2.2.2.2.2.1 rfl rfl (by first | exact Or.inr ⟨_, rfl⟩ | exact va_rf_or _ | exact Or.inl rfl) ?_
  refine x_iload C D_L_law_14.2.2.2.2.2.2.2.2.2.2.2 rfl ?_
  refine x_iconst C (v := nI 1) D_L_law_15.1 (by decide +kernel) ?_
  refine x_iadd C D_L_law_15.2.1 ?_
  first
  | refine x_eqi _ (nI_add _ _) ?_
  | skip
  refine x_sld C hXs hbl hbA _ rfl (by omega) hL D_L_law_15.2.2.1 ?_
  refine x_aload_n C D_L_law_15.2.2.2.1 rfl rfl (by first | exact Or.inr ⟨_, rfl⟩ | exact va_rf_or _ | exact Or.inl rfl) ?_
  refine x_callW C hX (y := yL_depth) (c_L_depthN l G ow x o n m c al sp tu pt pc ps pa r d u g w (xs (i + 1)) hlt hS ⟨hO.1, hO.2.1⟩ hno) k_740 k_741 k_59 kw_depth hd_L_depth ⟨(Nat.le_of_ble_eq_true rfl), (Nat.le_of_ble_eq_true rfl)⟩ rfl (by first | exact Nat.le_of_ble_eq_true rfl | simp [x_crf, Value.category]) rfl rfl D_L_law_15.2.2.2.2.1 ⟨Nat.le_trans (Nat.add_le_add_left (Nat.le_of_ble_eq_true rfl : _ ≤ 20) _) (by omega), Nat.le_trans (Nat.add_le_add_left (Nat.le_of_ble_eq_true rfl : _ ≤ 400) _) (by omega)⟩ (fun r_426 S_426 h_426 => ?_)
  refine x_widen (k' := k0 + 20) (n' := n0 + 400) (Nat.add_le_add_left (Nat.le_of_ble_eq_true rfl) _) (Nat.add_le_add_left (Nat.le_of_ble_eq_true rfl) _) ?_
  obtain ⟨rfl, ow1, hF1, hS1⟩ := h_426
  obtain ⟨K1, N1, I1, Q1, J1⟩ := S_426
  have hM1 := hM.agree hF1
  have hO1 := hF1.o hO
  have hm1 : K1 mm = 9 := hM1.1.1
  have m1d : I1 mm 1 = d := hM1.2.2.2.2.1
  have m1r : I1 mm 2 = r := hM1.2.2.2.2.2.1
  have m1u : I1 mm 3 = u := hM1.2.2.2.2.2.2.1
  have m1g : I1 mm 4 = g := hM1.2.2.2.2.2.2.2.1
  have m1w : I1 mm 11 = w := hM1.2.2.2.2.2.2.2.2
  refine x_istore C (lv' := [_, _, _, _, _, _, _, _, _]) D_L_law_15.2.2.2.2.2.1 (Nat.le_of_ble_eq_true rfl) (by first | rfl | exact x_ok_q rfl) rfl ?_
  refine x_aload_n C D_L_law_15.2.2.2.2.2.2.1 rfl rfl (by first | exact Or.inr ⟨_, rfl⟩ | exact va_rf_or _ | exact Or.inl rfl) ?_
  refine x_aload_n C D_L_law_15.2.2.2.2.2.2.2.1 rfl rfl (by first | exact Or.inr ⟨_, rfl⟩ | exact va_rf_or _ | exact Or.inl rfl) ?_
  refine x_iload C D_L_law_15.2.2.2.2.2.2.2.2.1 rfl ?_
  refine x_iconst C (v := nI 1) D_L_law_15.2.2.2.2.2.2.2.2.2.1 (by decide +kernel) ?_
  refine x_iadd C D_L_law_15.2.2.2.2.2.2.2.2.2.2.1 ?_
  first
  | refine x_eqi _ (nI_add _ _) ?_
  | skip
  refine x_sld C hXs hbl hbA _ rfl (by omega) hL D_L_law_15.2.2.2.2.2.2.2.2.2.2.2 ?_
  refine x_callVi C (y := yX9_depth) (c_X9_depthN l G mm n ar c sp tu pt al (xs (i + 1)) hM1.1 hM1.2.1 (KV_none hM1.2.1 hno) hs30) (ci := 8) hm1 (by decide) rfl rfl k_1089 k_1090 k_1091 k_67 k_1092 hd_X9_depth ⟨(Nat.le_of_ble_eq_true rfl), (Nat.le_of_ble_eq_true rfl)⟩ rfl (by first | exact Nat.le_of_ble_eq_true rfl | simp [x_crf, Value.category]) rfl rfl D_L_law_16.1 ⟨Nat.le_trans (Nat.add_le_add_left (Nat.le_of_ble_eq_true rfl : _ ≤ 20) _) (by omega), Nat.le_trans (Nat.add_le_add_left (Nat.le_of_ble_eq_true rfl : _ ≤ 400) _) (by omega)⟩ (fun r_438 S_438 h_438 => ?_)
  refine x_widen (k' := k0 + 20 + 20) (n' := n0 + 400 + 400) (Nat.add_le_add_left (Nat.le_of_ble_eq_true rfl) _) (Nat.add_le_add_left (Nat.le_of_ble_eq_true rfl) _) ?_
  obtain ⟨rfl, rfl⟩ := h_438
  refine x_istore C (lv' := [_, _, _, _, _, _, _, _, _]) D_L_law_16.2.1 (Nat.le_of_ble_eq_true rfl) (by first | rfl | exact x_ok_q rfl) rfl ?_
  refine x_aload_n C D_L_law_16.2.2.1 rfl rfl (by first | exact Or.inr ⟨_, rfl⟩ | exact va_rf_or _ | exact Or.inl rfl) ?_
  refine x_callVi C (y := yX9_thrown) (c_X9_thrown l G mm hm1) (ci := 8) hm1 (by decide) rfl rfl k_962 k_963 k_964 k_67 k_965 hd_X9_thrown ⟨(Nat.le_of_ble_eq_true rfl), (Nat.le_of_ble_eq_true rfl)⟩ rfl (by first | exact Nat.le_of_ble_eq_true rfl | simp [x_crf, Value.category]) rfl rfl D_L_law_16.2.2.2.1 ⟨Nat.le_trans (Nat.add_le_add_left (Nat.le_of_ble_eq_true rfl : _ ≤ 20) _) (by omega), Nat.le_trans (Nat.add_le_add_left (Nat.le_of_ble_eq_true rfl : _ ≤ 400) _) (by omega)⟩ (fun r_444 S_444 h_444 => ?_)
  refine x_widen (k' := k0 + 20 + 20 + 20) (n' := n0 + 400 + 400 + 400) (Nat.add_le_add_left (Nat.le_of_ble_eq_true rfl) _) (Nat.add_le_add_left (Nat.le_of_ble_eq_true rfl) _) ?_
  obtain ⟨rfl, rfl⟩ := h_444
  refine x_eqi _ (show _ = nI 1 from x_u2_s _ _ _ _) ?_
  refine x_iload C D_L_law_16.2.2.2.2.1 rfl ?_
  refine x_icmp_eq C 454 D_L_law_16.2.2.2.2.2.1 (by decide) (fun c_449 => ?_) (fun c_449 => ?_)
  · skip
    refine x_iload C D_L_law_16.2.2.2.2.2.2.2.2.1 rfl ?_
    refine x_if_ne C 471 D_L_law_16.2.2.2.2.2.2.2.2.2.1 (by decide) (fun c_456 => ?_) (fun c_456 => ?_)
    · skip
      refine x_goto C 1254 D_L_law_17.2.2.2.2.2.2.2.1 (by decide) ?_
      exact x_drop9 (x_widen (by omega) (by omega) (kk _ _ (INV.q hS1 hM1 hO1 hB _)))
    · skip
      exact absurd c_456 (by decide)
      --end
  · skip
    exact absurd rfl c_449
    --end
theorem hd_L_weight : yL_weight.cls ≠ "java/lang/invoke/MethodHandle" ∧ yL_weight.cls ≠ "java/lang/invoke/VarHandle" ∧ (parseMethodDescriptor yL_weight.desc).map (fun d => d.parameters.length) = some 3 := by decide +kernel
theorem hd_X9_weight : yX9_weight.cls ≠ "java/lang/invoke/MethodHandle" ∧ yX9_weight.cls ≠ "java/lang/invoke/VarHandle" ∧ (parseMethodDescriptor yX9_weight.desc).map (fun d => d.parameters.length) = some 1 := by decide +kernel
set_option maxHeartbeats 4000000 in
set_option maxRecDepth 100000 in
theorem lc_weightY {p : Program} {l : Launch} {ee : Env} {s : State} {mi : MethodId} {args : Array Value} {below : List Frame} {meth : Method} {cd : Code} {G : xG} {Z : State → Prop} {rt : Option FieldType} {k0 n0 bs L i x mm o : Nat} {xs : Nat → Int32} {K N : Nat → Nat} {I : Nat → Nat → Int32} {Q : Nat → Nat → Option Nat} {J : Nat → Nat → Int64} {ow : xO} {n : Nat} {c : Nat → Nat} {al : Nat → Bool} {sp tu pt : Nat → Nat} {m : Nat} {pc : Nat → Nat} {pa : Nat → Bool} {ps : Nat → Nat} {r d u g w : Int32} {ar : Nat → Nat} (C : XC p s mi args meth cd code 9 RL rt G) (hX : gX G s s.heap) (hlt : l.stackTraces = false) (hXs : va_X bs L xs s s.heap) (hbl : bs < s.heap.size) (hbA : ¬ gA G bs) (hi : i + 5 ≤ L) (hL : L ≤ 2560) (hk0 : k0 + 100 ≤ room_1.cells) (hn0 : n0 + 2000 ≤ room_1.slots) (hS : SY ow (K, N, I, Q, J) x n c al sp tu pt m pc pa ps r d u g w) (hM : KM ow (K, N, I, Q, J) mm ar n c al sp tu pt m pc pa ps r d u g w) (hO : K o = 24 ∧ N o = 1 ∧ ow o = 10) (hB : BNm n al tu m pa) (k : Nat) (hk : k < n) (y1 : xs (i + 1) = cv1 (c k)) (kk : ∀ (ow1 : xO) (S1 : xS), INV ow1 S1 x mm o → XW p l ee room_1 s mi args below meth cd G Z (k0 + 100) (n0 + 2000) S1 1254 [some (.ref bs), some (.ref x), some (.ref mm), some (.ref o), some (.int (nI i)), none, none, none, none] []) : XW p l ee room_1 s mi args below meth cd G Z k0 n0 (K, N, I, Q, J) 474 [some (.ref bs), some (.ref x), some (.ref mm), some (.ref o), some (.int (nI i)), none, none, none, none] [] := by
  obtain ⟨hKB, hPB, hUP, hPI, hn2, hcb, hm2, hsb, hx⟩ := hS.kb
  have hx : K x = 8 := hx
  have hmm : K mm = 9 := hM.1.1
  have ht30 : ∀ i, i < n → tu i < 2 ^ 30 := fun i hi => Nat.lt_trans (hsb i hi).2 (by decide)
  have hs30 : ∀ i, i < n → sp i < 2 ^ 30 := fun i hi => Nat.lt_trans (hsb i hi).1 (by decide)
  have hp30 : ∀ i, i < m → ps i < 2 ^ 30 := fun i hi => Nat.lt_trans (hPB i hi).2.2 (by decide)
  refine x_aload_n C D_L_law_17.2.2.2.2.2.2.2.2.1 rfl rfl (by first | exact Or.inr ⟨_, rfl⟩ | exact va_rf_or _ | exact Or.inl rfl) ?_
  refine x_aload_n C D_L_law_17.2.2.2.2.2.2.2.2.2.1 rfl rfl (by first | exact Or.inr ⟨_, rfl⟩ | exact va_rf_or _ | exact Or.inl rfl) ?_
  refine x_iload C D_L_law_17.2.2.2.2.2.2.2.2.2.2.1 rfl ?_
  refine x_iconst C (v := nI 1) D_L_law_17.2.2.2.2.2.2.2.2.2.2.2 (by decide +kernel) ?_
  refine x_iadd C D_L_law_18.1 ?_
  first
  | refine x_eqi _ (nI_add _ _) ?_
  | skip
  refine x_sld C hXs hbl hbA _ rfl (by omega) hL D_L_law_18.2.1 ?_
  refine x_eqi _ y1 ?_
  refine x_aload_n C D_L_law_18.2.2.1 rfl rfl (by first | exact Or.inr ⟨_, rfl⟩ | exact va_rf_or _ | exact Or.inl rfl) ?_
  refine x_callW C hX (y := yL_weight) (c_L_weightY l G ow x o n m c al sp tu pt pc ps pa r d u g w k hlt hS ⟨hO.1, hO.2.1⟩ hk) k_770 k_771 k_59 kw_weight hd_L_weight ⟨(Nat.le_of_ble_eq_true rfl), (Nat.le_of_ble_eq_true rfl)⟩ rfl (by first | exact Nat.le_of_ble_eq_true rfl | simp [x_crf, Value.category]) rfl rfl D_L_law_18.2.2.2.1 ⟨Nat.le_trans (Nat.add_le_add_left (Nat.le_of_ble_eq_true rfl : _ ≤ 20) _) (by omega), Nat.le_trans (Nat.add_le_add_left (Nat.le_of_ble_eq_true rfl : _ ≤ 400) _) (by omega)⟩ (fun r_482 S_482 h_482 => ?_)
  refine x_widen (k' := k0 + 20) (n' := n0 + 400) (Nat.add_le_add_left (Nat.le_of_ble_eq_true rfl) _) (Nat.add_le_add_left (Nat.le_of_ble_eq_true rfl) _) ?_
  obtain ⟨rfl, S0, J2, rfl, eJ2, ow1, hF1, hS1⟩ := h_482
  obtain ⟨K1, N1, I1, Q1, J1⟩ := S0
  have hM1 := (hM.agree hF1).J (J1 := J2)
  have hS1 := hS1.J (J1 := J2)
  have hO1 := hF1.o hO
  have hm1 : K1 mm = 9 := hM1.1.1
  have ko1 : K1 o = 24 := hO1.1
  have no1 : N1 o = 1 := hO1.2.1
  have m1d : I1 mm 1 = d := hM1.2.2.2.2.1
  have m1r : I1 mm 2 = r := hM1.2.2.2.2.2.1
  have m1u : I1 mm 3 = u := hM1.2.2.2.2.2.2.1
  have m1g : I1 mm 4 = g := hM1.2.2.2.2.2.2.2.1
  have m1w : I1 mm 11 = w := hM1.2.2.2.2.2.2.2.2
  refine x_istore C (lv' := [_, _, _, _, _, _, _, _, _]) D_L_law_18.2.2.2.2.1 (Nat.le_of_ble_eq_true rfl) (by first | rfl | exact x_ok_q rfl) rfl ?_
  refine x_aload_n C D_L_law_18.2.2.2.2.2.1 rfl rfl (by first | exact Or.inr ⟨_, rfl⟩ | exact va_rf_or _ | exact Or.inl rfl) ?_
  refine x_aload_n C D_L_law_18.2.2.2.2.2.2.1 rfl rfl (by first | exact Or.inr ⟨_, rfl⟩ | exact va_rf_or _ | exact Or.inl rfl) ?_
  refine x_iload C D_L_law_18.2.2.2.2.2.2.2.1 rfl ?_
  refine x_iconst C (v := nI 1) D_L_law_18.2.2.2.2.2.2.2.2.1 (by decide +kernel) ?_
  refine x_iadd C D_L_law_18.2.2.2.2.2.2.2.2.2.1 ?_
  first
  | refine x_eqi _ (nI_add _ _) ?_
  | skip
  refine x_sld C hXs hbl hbA _ rfl (by omega) hL D_L_law_18.2.2.2.2.2.2.2.2.2.2.1 ?_
  refine x_eqi _ y1 ?_
  refine x_callVi C (y := yX9_weight) (c_X9_weightY l G mm n ar c sp tu pt al (cv1 (c k)) k hM1.1 hM1.2.1 (KV_some hM1.2.1 hUP hcb hk) hs30) (ci := 8) hm1 (by decide) rfl rfl k_1097 k_1098 k_1099 k_67 k_1100 hd_X9_weight ⟨(Nat.le_of_ble_eq_true rfl), (Nat.le_of_ble_eq_true rfl)⟩ rfl (by first | exact Nat.le_of_ble_eq_true rfl | simp [x_crf, Value.category]) rfl rfl D_L_law_18.2.2.2.2.2.2.2.2.2.2.2 ⟨Nat.le_trans (Nat.add_le_add_left (Nat.le_of_ble_eq_true rfl : _ ≤ 20) _) (by omega), Nat.le_trans (Nat.add_le_add_left (Nat.le_of_ble_eq_true rfl : _ ≤ 400) _) (by omega)⟩ (fun r_494 S_494 h_494 => ?_)
  refine x_widen (k' := k0 + 20 + 20) (n' := n0 + 400 + 400) (Nat.add_le_add_left (Nat.le_of_ble_eq_true rfl) _) (Nat.add_le_add_left (Nat.le_of_ble_eq_true rfl) _) ?_
  obtain ⟨rfl, rfl⟩ := h_494
  refine x_istore C (lv' := [_, _, _, _, _, _, _, _, _]) D_L_law_19.1 (Nat.le_of_ble_eq_true rfl) (by first | rfl | exact x_ok_q rfl) rfl ?_
  refine x_aload_n C D_L_law_19.2.1 rfl rfl (by first | exact Or.inr ⟨_, rfl⟩ | exact va_rf_or _ | exact Or.inl rfl) ?_
  refine x_callVi C (y := yX9_thrown) (c_X9_thrown l G mm hm1) (ci := 8) hm1 (by decide) rfl rfl k_962 k_963 k_964 k_67 k_965 hd_X9_thrown ⟨(Nat.le_of_ble_eq_true rfl), (Nat.le_of_ble_eq_true rfl)⟩ rfl (by first | exact Nat.le_of_ble_eq_true rfl | simp [x_crf, Value.category]) rfl rfl D_L_law_19.2.2.1 ⟨Nat.le_trans (Nat.add_le_add_left (Nat.le_of_ble_eq_true rfl : _ ≤ 20) _) (by omega), Nat.le_trans (Nat.add_le_add_left (Nat.le_of_ble_eq_true rfl : _ ≤ 400) _) (by omega)⟩ (fun r_500 S_500 h_500 => ?_)
  refine x_widen (k' := k0 + 20 + 20 + 20) (n' := n0 + 400 + 400 + 400) (Nat.add_le_add_left (Nat.le_of_ble_eq_true rfl) _) (Nat.add_le_add_left (Nat.le_of_ble_eq_true rfl) _) ?_
  obtain ⟨rfl, rfl⟩ := h_500
  refine x_eqi _ (show _ = nI 0 from x_u2_s _ _ _ _) ?_
  refine x_iload C D_L_law_19.2.2.2.1 rfl ?_
  refine x_icmp_eq C 510 D_L_law_19.2.2.2.2.1 (by decide) (fun c_505 => ?_) (fun c_505 => ?_)
  · skip
    refine x_iload C D_L_law_19.2.2.2.2.2.2.2.1 rfl ?_
    refine x_if_ne C 527 D_L_law_19.2.2.2.2.2.2.2.2.1 (by decide) (fun c_512 => ?_) (fun c_512 => ?_)
    · skip
      exact absurd rfl c_512
      --end
    · skip
      refine x_aload_n C D_L_law_19.2.2.2.2.2.2.2.2.2.1 rfl rfl (by first | exact Or.inr ⟨_, rfl⟩ | exact va_rf_or _ | exact Or.inl rfl) ?_
      refine x_iconst C (v := nI 0) D_L_law_19.2.2.2.2.2.2.2.2.2.2.1 (by decide +kernel) ?_
      refine x_lald C 0 ko1 rfl (by omega) (by omega) D_L_law_19.2.2.2.2.2.2.2.2.2.2.2 ?_
      refine x_eql _ (show J2 o 0 = _ by rw [eJ2, x_u2_s]) ?_
      refine x_iload C D_L_law_20.1 rfl ?_
      refine x_i2l C D_L_law_20.2.1 ?_
      refine x_lcmp C D_L_law_20.2.2.1 ?_
      refine x_eqi _ (lg_self _) ?_
      refine x_if_eq C 527 D_L_law_20.2.2.2.1 (by decide) (fun c_522 => ?_) (fun c_522 => ?_)
      · skip
        refine x_goto C 1254 D_L_law_20.2.2.2.2.2.2.1 (by decide) ?_
        exact x_drop9 (x_widen (by omega) (by omega) (kk _ _ (INV.q hS1 hM1 hO1 hB _)))
      · skip
        exact absurd rfl c_522
        --end
  · skip
    exact absurd rfl c_505
    --end
set_option maxHeartbeats 4000000 in
set_option maxRecDepth 100000 in
theorem lc_weightN {p : Program} {l : Launch} {ee : Env} {s : State} {mi : MethodId} {args : Array Value} {below : List Frame} {meth : Method} {cd : Code} {G : xG} {Z : State → Prop} {rt : Option FieldType} {k0 n0 bs L i x mm o : Nat} {xs : Nat → Int32} {K N : Nat → Nat} {I : Nat → Nat → Int32} {Q : Nat → Nat → Option Nat} {J : Nat → Nat → Int64} {ow : xO} {n : Nat} {c : Nat → Nat} {al : Nat → Bool} {sp tu pt : Nat → Nat} {m : Nat} {pc : Nat → Nat} {pa : Nat → Bool} {ps : Nat → Nat} {r d u g w : Int32} {ar : Nat → Nat} (C : XC p s mi args meth cd code 9 RL rt G) (hX : gX G s s.heap) (hlt : l.stackTraces = false) (hXs : va_X bs L xs s s.heap) (hbl : bs < s.heap.size) (hbA : ¬ gA G bs) (hi : i + 5 ≤ L) (hL : L ≤ 2560) (hk0 : k0 + 100 ≤ room_1.cells) (hn0 : n0 + 2000 ≤ room_1.slots) (hS : SY ow (K, N, I, Q, J) x n c al sp tu pt m pc pa ps r d u g w) (hM : KM ow (K, N, I, Q, J) mm ar n c al sp tu pt m pc pa ps r d u g w) (hO : K o = 24 ∧ N o = 1 ∧ ow o = 10) (hB : BNm n al tu m pa) (hno : ∀ j, j < n → ¬ cv1 (c j) = xs (i + 1)) (kk : ∀ (ow1 : xO) (S1 : xS), INV ow1 S1 x mm o → XW p l ee room_1 s mi args below meth cd G Z (k0 + 100) (n0 + 2000) S1 1254 [some (.ref bs), some (.ref x), some (.ref mm), some (.ref o), some (.int (nI i)), none, none, none, none] []) : XW p l ee room_1 s mi args below meth cd G Z k0 n0 (K, N, I, Q, J) 474 [some (.ref bs), some (.ref x), some (.ref mm), some (.ref o), some (.int (nI i)), none, none, none, none] [] := by
  obtain ⟨hKB, hPB, hUP, hPI, hn2, hcb, hm2, hsb, hx⟩ := hS.kb
  have hx : K x = 8 := hx
  have hmm : K mm = 9 := hM.1.1
  have ht30 : ∀ i, i < n → tu i < 2 ^ 30 := fun i hi => Nat.lt_trans (hsb i hi).2 (by decide)
  have hs30 : ∀ i, i < n → sp i < 2 ^ 30 := fun i hi => Nat.lt_trans (hsb i hi).1 (by decide)
  have hp30 : ∀ i, i < m → ps i < 2 ^ 30 := fun i hi => Nat.lt_trans (hPB i hi).2.2 (by decide)
  refine x_aload_n C D_L_law_17.2.2.2.2.2.2.2.2.1 rfl rfl (by first | exact Or.inr ⟨_, rfl⟩ | exact va_rf_or _ | exact Or.inl rfl) ?_
  refine x_aload_n C D_L_law_17.2.2.2.2.2.2.2.2.2.1 rfl rfl (by first | exact Or.inr ⟨_, rfl⟩ | exact va_rf_or _ | exact Or.inl rfl) ?_
  refine x_iload C D_L_law_17.2.2.2.2.2.2.2.2.2.2.1 rfl ?_
  refine x_iconst C (v := nI 1) D_L_law_17.2.2.2.2.2.2.2.2.2.2.2 (by decide +kernel) ?_
  refine x_iadd C D_L_law_18.1 ?_
  first
  | refine x_eqi _ (nI_add _ _) ?_
  | skip
  refine x_sld C hXs hbl hbA _ rfl (by omega) hL D_L_law_18.2.1 ?_
  refine x_aload_n C D_L_law_18.2.2.1 rfl rfl (by first | exact Or.inr ⟨_, rfl⟩ | exact va_rf_or _ | exact Or.inl rfl) ?_
  refine x_callW C hX (y := yL_weight) (c_L_weightN l G ow x o n m c al sp tu pt pc ps pa r d u g w (xs (i + 1)) hlt hS ⟨hO.1, hO.2.1⟩ hno) k_770 k_771 k_59 kw_weight hd_L_weight ⟨(Nat.le_of_ble_eq_true rfl), (Nat.le_of_ble_eq_true rfl)⟩ rfl (by first | exact Nat.le_of_ble_eq_true rfl | simp [x_crf, Value.category]) rfl rfl D_L_law_18.2.2.2.1 ⟨Nat.le_trans (Nat.add_le_add_left (Nat.le_of_ble_eq_true rfl : _ ≤ 20) _) (by omega), Nat.le_trans (Nat.add_le_add_left (Nat.le_of_ble_eq_true rfl : _ ≤ 400) _) (by omega)⟩ (fun r_482 S_482 h_482 => ?_)
  refine x_widen (k' := k0 + 20) (n' := n0 + 400) (Nat.add_le_add_left (Nat.le_of_ble_eq_true rfl) _) (Nat.add_le_add_left (Nat.le_of_ble_eq_true rfl) _) ?_
  obtain ⟨rfl, ow1, hF1, hS1⟩ := h_482
  obtain ⟨K1, N1, I1, Q1, J1⟩ := S_482
  have hM1 := hM.agree hF1
  have hO1 := hF1.o hO
  have hm1 : K1 mm = 9 := hM1.1.1
  have m1d : I1 mm 1 = d := hM1.2.2.2.2.1
  have m1r : I1 mm 2 = r := hM1.2.2.2.2.2.1
  have m1u : I1 mm 3 = u := hM1.2.2.2.2.2.2.1
  have m1g : I1 mm 4 = g := hM1.2.2.2.2.2.2.2.1
  have m1w : I1 mm 11 = w := hM1.2.2.2.2.2.2.2.2
  refine x_istore C (lv' := [_, _, _, _, _, _, _, _, _]) D_L_law_18.2.2.2.2.1 (Nat.le_of_ble_eq_true rfl) (by first | rfl | exact x_ok_q rfl) rfl ?_
  refine x_aload_n C D_L_law_18.2.2.2.2.2.1 rfl rfl (by first | exact Or.inr ⟨_, rfl⟩ | exact va_rf_or _ | exact Or.inl rfl) ?_
  refine x_aload_n C D_L_law_18.2.2.2.2.2.2.1 rfl rfl (by first | exact Or.inr ⟨_, rfl⟩ | exact va_rf_or _ | exact Or.inl rfl) ?_
  refine x_iload C D_L_law_18.2.2.2.2.2.2.2.1 rfl ?_
  refine x_iconst C (v := nI 1) D_L_law_18.2.2.2.2.2.2.2.2.1 (by decide +kernel) ?_
  refine x_iadd C D_L_law_18.2.2.2.2.2.2.2.2.2.1 ?_
  first
  | refine x_eqi _ (nI_add _ _) ?_
  | skip
  refine x_sld C hXs hbl hbA _ rfl (by omega) hL D_L_law_18.2.2.2.2.2.2.2.2.2.2.1 ?_
  refine x_callVi C (y := yX9_weight) (c_X9_weightN l G mm n ar c sp tu pt al (xs (i + 1)) hM1.1 hM1.2.1 (KV_none hM1.2.1 hno) hs30) (ci := 8) hm1 (by decide) rfl rfl k_1097 k_1098 k_1099 k_67 k_1100 hd_X9_weight ⟨(Nat.le_of_ble_eq_true rfl), (Nat.le_of_ble_eq_true rfl)⟩ rfl (by first | exact Nat.le_of_ble_eq_true rfl | simp [x_crf, Value.category]) rfl rfl D_L_law_18.2.2.2.2.2.2.2.2.2.2.2 ⟨Nat.le_trans (Nat.add_le_add_left (Nat.le_of_ble_eq_true rfl : _ ≤ 20) _) (by omega), Nat.le_trans (Nat.add_le_add_left (Nat.le_of_ble_eq_true rfl : _ ≤ 400) _) (by omega)⟩ (fun r_494 S_494 h_494 => ?_)
  refine x_widen (k' := k0 + 20 + 20) (n' := n0 + 400 + 400) (Nat.add_le_add_left (Nat.le_of_ble_eq_true rfl) _) (Nat.add_le_add_left (Nat.le_of_ble_eq_true rfl) _) ?_
  obtain ⟨rfl, rfl⟩ := h_494
  refine x_istore C (lv' := [_, _, _, _, _, _, _, _, _]) D_L_law_19.1 (Nat.le_of_ble_eq_true rfl) (by first | rfl | exact x_ok_q rfl) rfl ?_
  refine x_aload_n C D_L_law_19.2.1 rfl rfl (by first | exact Or.inr ⟨_, rfl⟩ | exact va_rf_or _ | exact Or.inl rfl) ?_
  refine x_callVi C (y := yX9_thrown) (c_X9_thrown l G mm hm1) (ci := 8) hm1 (by decide) rfl rfl k_962 k_963 k_964 k_67 k_965 hd_X9_thrown ⟨(Nat.le_of_ble_eq_true rfl), (Nat.le_of_ble_eq_true rfl)⟩ rfl (by first | exact Nat.le_of_ble_eq_true rfl | simp [x_crf, Value.category]) rfl rfl D_L_law_19.2.2.1 ⟨Nat.le_trans (Nat.add_le_add_left (Nat.le_of_ble_eq_true rfl : _ ≤ 20) _) (by omega), Nat.le_trans (Nat.add_le_add_left (Nat.le_of_ble_eq_true rfl : _ ≤ 400) _) (by omega)⟩ (fun r_500 S_500 h_500 => ?_)
  refine x_widen (k' := k0 + 20 + 20 + 20) (n' := n0 + 400 + 400 + 400) (Nat.add_le_add_left (Nat.le_of_ble_eq_true rfl) _) (Nat.add_le_add_left (Nat.le_of_ble_eq_true rfl) _) ?_
  obtain ⟨rfl, rfl⟩ := h_500
  refine x_eqi _ (show _ = nI 1 from x_u2_s _ _ _ _) ?_
  refine x_iload C D_L_law_19.2.2.2.1 rfl ?_
  refine x_icmp_eq C 510 D_L_law_19.2.2.2.2.1 (by decide) (fun c_505 => ?_) (fun c_505 => ?_)
  · skip
    refine x_iload C D_L_law_19.2.2.2.2.2.2.2.1 rfl ?_
    refine x_if_ne C 527 D_L_law_19.2.2.2.2.2.2.2.2.1 (by decide) (fun c_512 => ?_) (fun c_512 => ?_)
    · skip
      refine x_goto C 1254 D_L_law_20.2.2.2.2.2.2.1 (by decide) ?_
      exact x_drop9 (x_widen (by omega) (by omega) (kk _ _ (INV.q hS1 hM1 hO1 hB _)))
    · skip
      exact absurd c_512 (by decide)
      --end
  · skip
    exact absurd rfl c_505
    --end
theorem hd_L_partOf : yL_partOf.cls ≠ "java/lang/invoke/MethodHandle" ∧ yL_partOf.cls ≠ "java/lang/invoke/VarHandle" ∧ (parseMethodDescriptor yL_partOf.desc).map (fun d => d.parameters.length) = some 3 := by decide +kernel
theorem hd_X9_partOf : yX9_partOf.cls ≠ "java/lang/invoke/MethodHandle" ∧ yX9_partOf.cls ≠ "java/lang/invoke/VarHandle" ∧ (parseMethodDescriptor yX9_partOf.desc).map (fun d => d.parameters.length) = some 1 := by decide +kernel
set_option maxHeartbeats 4000000 in
set_option maxRecDepth 100000 in
theorem lc_partOfY {p : Program} {l : Launch} {ee : Env} {s : State} {mi : MethodId} {args : Array Value} {below : List Frame} {meth : Method} {cd : Code} {G : xG} {Z : State → Prop} {rt : Option FieldType} {k0 n0 bs L i x mm o : Nat} {xs : Nat → Int32} {K N : Nat → Nat} {I : Nat → Nat → Int32} {Q : Nat → Nat → Option Nat} {J : Nat → Nat → Int64} {ow : xO} {n : Nat} {c : Nat → Nat} {al : Nat → Bool} {sp tu pt : Nat → Nat} {m : Nat} {pc : Nat → Nat} {pa : Nat → Bool} {ps : Nat → Nat} {r d u g w : Int32} {ar : Nat → Nat} (C : XC p s mi args meth cd code 9 RL rt G) (hX : gX G s s.heap) (hlt : l.stackTraces = false) (hXs : va_X bs L xs s s.heap) (hbl : bs < s.heap.size) (hbA : ¬ gA G bs) (hi : i + 5 ≤ L) (hL : L ≤ 2560) (hk0 : k0 + 100 ≤ room_1.cells) (hn0 : n0 + 2000 ≤ room_1.slots) (hS : SY ow (K, N, I, Q, J) x n c al sp tu pt m pc pa ps r d u g w) (hM : KM ow (K, N, I, Q, J) mm ar n c al sp tu pt m pc pa ps r d u g w) (hO : K o = 24 ∧ N o = 1 ∧ ow o = 10) (hB : BNm n al tu m pa) (k : Nat) (hk : k < n) (y1 : xs (i + 1) = cv1 (c k)) (kk : ∀ (ow1 : xO) (S1 : xS), INV ow1 S1 x mm o → XW p l ee room_1 s mi args below meth cd G Z (k0 + 100) (n0 + 2000) S1 1254 [some (.ref bs), some (.ref x), some (.ref mm), some (.ref o), some (.int (nI i)), none, none, none, none] []) : XW p l ee room_1 s mi args below meth cd G Z k0 n0 (K, N, I, Q, J) 725 [some (.ref bs), some (.ref x), some (.ref mm), some (.ref o), some (.int (nI i)), none, none, none, none] [] := by
  obtain ⟨hKB, hPB, hUP, hPI, hn2, hcb, hm2, hsb, hx⟩ := hS.kb
  have hx : K x = 8 := hx
  have hmm : K mm = 9 := hM.1.1
  have ht30 : ∀ i, i < n → tu i < 2 ^ 30 := fun i hi => Nat.lt_trans (hsb i hi).2 (by decide)
  have hs30 : ∀ i, i < n → sp i < 2 ^ 30 := fun i hi => Nat.lt_trans (hsb i hi).1 (by decide)
  have hp30 : ∀ i, i < m → ps i < 2 ^ 30 := fun i hi => Nat.lt_trans (hPB i hi).2.2 (by decide)
  refine x_aload_n C D_L_law_29.2.2.2.2.2.2.2.2.2.2.1 rfl rfl (by first | exact Or.inr ⟨_, rfl⟩ | exact va_rf_or _ | exact Or.inl rfl) ?_
  refine x_aload_n C D_L_law_29.2.2.2.2.2.2.2.2.2.2.2 rfl rfl (by first | exact Or.inr ⟨_, rfl⟩ | exact va_rf_or _ | exact Or.inl rfl) ?_
  refine x_iload C D_L_law_30.1 rfl ?_
  refine x_iconst C (v := nI 1) D_L_law_30.2.1 (by decide +kernel) ?_
  refine x_iadd C D_L_law_30.2.2.1 ?_
  first
  | refine x_eqi _ (nI_add _ _) ?_
  | skip
  refine x_sld C hXs hbl hbA _ rfl (by omega) hL D_L_law_30.2.2.2.1 ?_
  refine x_eqi _ y1 ?_
  refine x_aload_n C D_L_law_30.2.2.2.2.1 rfl rfl (by first | exact Or.inr ⟨_, rfl⟩ | exact va_rf_or _ | exact Or.inl rfl) ?_
  refine x_callW C hX (y := yL_partOf) (c_L_partOfY l G ow x o n m c al sp tu pt pc ps pa r d u g w k hlt hS ⟨hO.1, hO.2.1⟩ hk) k_805 k_806 k_59 kw_partOf hd_L_partOf ⟨(Nat.le_of_ble_eq_true rfl), (Nat.le_of_ble_eq_true rfl)⟩ rfl (by first | exact Nat.le_of_ble_eq_true rfl | simp [x_crf, Value.category]) rfl rfl D_L_law_30.2.2.2.2.2.1 ⟨Nat.le_trans (Nat.add_le_add_left (Nat.le_of_ble_eq_true rfl : _ ≤ 20) _) (by omega), Nat.le_trans (Nat.add_le_add_left (Nat.le_of_ble_eq_true rfl : _ ≤ 400) _) (by omega)⟩ (fun r_733 S_733 h_733 => ?_)
  refine x_widen (k' := k0 + 20) (n' := n0 + 400) (Nat.add_le_add_left (Nat.le_of_ble_eq_true rfl) _) (Nat.add_le_add_left (Nat.le_of_ble_eq_true rfl) _) ?_
  obtain ⟨rfl, S0, J2, rfl, eJ2, ow1, hF1, hS1⟩ := h_733
  obtain ⟨K1, N1, I1, Q1, J1⟩ := S0
  have hM1 := (hM.agree hF1).J (J1 := J2)
  have hS1 := hS1.J (J1 := J2)
  have hO1 := hF1.o hO
  have hm1 : K1 mm = 9 := hM1.1.1
  have ko1 : K1 o = 24 := hO1.1
  have no1 : N1 o = 1 := hO1.2.1
  have m1d : I1 mm 1 = d := hM1.2.2.2.2.1
  have m1r : I1 mm 2 = r := hM1.2.2.2.2.2.1
  have m1u : I1 mm 3 = u := hM1.2.2.2.2.2.2.1
  have m1g : I1 mm 4 = g := hM1.2.2.2.2.2.2.2.1
  have m1w : I1 mm 11 = w := hM1.2.2.2.2.2.2.2.2
  refine x_istore C (lv' := [_, _, _, _, _, _, _, _, _]) D_L_law_30.2.2.2.2.2.2.1 (Nat.le_of_ble_eq_true rfl) (by first | rfl | exact x_ok_q rfl) rfl ?_
  refine x_aload_n C D_L_law_30.2.2.2.2.2.2.2.1 rfl rfl (by first | exact Or.inr ⟨_, rfl⟩ | exact va_rf_or _ | exact Or.inl rfl) ?_
  refine x_aload_n C D_L_law_30.2.2.2.2.2.2.2.2.1 rfl rfl (by first | exact Or.inr ⟨_, rfl⟩ | exact va_rf_or _ | exact Or.inl rfl) ?_
  refine x_iload C D_L_law_30.2.2.2.2.2.2.2.2.2.1 rfl ?_
  refine x_iconst C (v := nI 1) D_L_law_30.2.2.2.2.2.2.2.2.2.2.1 (by decide +kernel) ?_
  refine x_iadd C D_L_law_30.2.2.2.2.2.2.2.2.2.2.2 ?_
  first
  | refine x_eqi _ (nI_add _ _) ?_
  | skip
  refine x_sld C hXs hbl hbA _ rfl (by omega) hL D_L_law_31.1 ?_
  refine x_eqi _ y1 ?_
  refine x_callVi C (y := yX9_partOf) (c_X9_partOfY l G mm n ar c sp tu pt al (cv1 (c k)) k hM1.1 hM1.2.1 (KV_some hM1.2.1 hUP hcb hk) ) (ci := 8) hm1 (by decide) rfl rfl k_1129 k_1130 k_1131 k_67 k_1132 hd_X9_partOf ⟨(Nat.le_of_ble_eq_true rfl), (Nat.le_of_ble_eq_true rfl)⟩ rfl (by first | exact Nat.le_of_ble_eq_true rfl | simp [x_crf, Value.category]) rfl rfl D_L_law_31.2.1 ⟨Nat.le_trans (Nat.add_le_add_left (Nat.le_of_ble_eq_true rfl : _ ≤ 20) _) (by omega), Nat.le_trans (Nat.add_le_add_left (Nat.le_of_ble_eq_true rfl : _ ≤ 400) _) (by omega)⟩ (fun r_745 S_745 h_745 => ?_)
  refine x_widen (k' := k0 + 20 + 20) (n' := n0 + 400 + 400) (Nat.add_le_add_left (Nat.le_of_ble_eq_true rfl) _) (Nat.add_le_add_left (Nat.le_of_ble_eq_true rfl) _) ?_
  obtain ⟨rfl, rfl⟩ := h_745
  refine x_istore C (lv' := [_, _, _, _, _, _, _, _, _]) D_L_law_31.2.2.1 (Nat.le_of_ble_eq_true rfl) (by first | rfl | exact x_ok_q rfl) rfl ?_
  refine x_aload_n C D_L_law_31.2.2.2.1 rfl rfl (by first | exact Or.inr ⟨_, rfl⟩ | exact va_rf_or _ | exact Or.inl rfl) ?_
  refine x_callVi C (y := yX9_thrown) (c_X9_thrown l G mm hm1) (ci := 8) hm1 (by decide) rfl rfl k_962 k_963 k_964 k_67 k_965 hd_X9_thrown ⟨(Nat.le_of_ble_eq_true rfl), (Nat.le_of_ble_eq_true rfl)⟩ rfl (by first | exact Nat.le_of_ble_eq_true rfl | simp [x_crf, Value.category]) rfl rfl D_L_law_31.2.2.2.2.1 ⟨Nat.le_trans (Nat.add_le_add_left (Nat.le_of_ble_eq_true rfl : _ ≤ 20) _) (by omega), Nat.le_trans (Nat.add_le_add_left (Nat.le_of_ble_eq_true rfl : _ ≤ 400) _) (by omega)⟩ (fun r_751 S_751 h_751 => ?_)
  refine x_widen (k' := k0 + 20 + 20 + 20) (n' := n0 + 400 + 400 + 400) (Nat.add_le_add_left (Nat.le_of_ble_eq_true rfl) _) (Nat.add_le_add_left (Nat.le_of_ble_eq_true rfl) _) ?_
  obtain ⟨rfl, rfl⟩ := h_751
  refine x_eqi _ (show _ = nI 0 from x_u2_s _ _ _ _) ?_
  refine x_iload C D_L_law_31.2.2.2.2.2.1 rfl ?_
  refine x_icmp_eq C 761 D_L_law_31.2.2.2.2.2.2.1 (by decide) (fun c_756 => ?_) (fun c_756 => ?_)
  · skip
    refine x_iload C D_L_law_31.2.2.2.2.2.2.2.2.2.1 rfl ?_
    refine x_if_ne C 778 D_L_law_31.2.2.2.2.2.2.2.2.2.2.1 (by decide) (fun c_763 => ?_) (fun c_763 => ?_)
    · skip
      exact absurd rfl c_763
      --end
    · skip
      refine x_aload_n C D_L_law_31.2.2.2.2.2.2.2.2.2.2.2 rfl rfl (by first | exact Or.inr ⟨_, rfl⟩ | exact va_rf_or _ | exact Or.inl rfl) ?_
      refine x_iconst C (v := nI 0) D_L_law_32.1 (by decide +kernel) ?_
      refine x_lald C 0 ko1 rfl (by omega) (by omega) D_L_law_32.2.1 ?_
      refine x_eql _ (show J2 o 0 = _ by rw [eJ2, x_u2_s]) ?_
      refine x_iload C D_L_law_32.2.2.1 rfl ?_
      refine x_i2l C D_L_law_32.2.2.2.1 ?_
      refine x_lcmp C D_L_law_32.2.2.2.2.1 ?_
      refine x_eqi _ (lg_self _) ?_
      refine x_if_eq C 778 D_L_law_32.2.2.2.2.2.1 (by decide) (fun c_773 => ?_) (fun c_773 => ?_)
      · skip
        refine x_goto C 1254 D_L_law_32.2.2.2.2.2.2.2.2.1 (by decide) ?_
        exact x_drop9 (x_widen (by omega) (by omega) (kk _ _ (INV.q hS1 hM1 hO1 hB _)))
      · skip
        exact absurd rfl c_773
        --end
  · skip
    exact absurd rfl c_756
    --end
set_option maxHeartbeats 4000000 in
set_option maxRecDepth 100000 in
theorem lc_partOfN {p : Program} {l : Launch} {ee : Env} {s : State} {mi : MethodId} {args : Array Value} {below : List Frame} {meth : Method} {cd : Code} {G : xG} {Z : State → Prop} {rt : Option FieldType} {k0 n0 bs L i x mm o : Nat} {xs : Nat → Int32} {K N : Nat → Nat} {I : Nat → Nat → Int32} {Q : Nat → Nat → Option Nat} {J : Nat → Nat → Int64} {ow : xO} {n : Nat} {c : Nat → Nat} {al : Nat → Bool} {sp tu pt : Nat → Nat} {m : Nat} {pc : Nat → Nat} {pa : Nat → Bool} {ps : Nat → Nat} {r d u g w : Int32} {ar : Nat → Nat} (C : XC p s mi args meth cd code 9 RL rt G) (hX : gX G s s.heap) (hlt : l.stackTraces = false) (hXs : va_X bs L xs s s.heap) (hbl : bs < s.heap.size) (hbA : ¬ gA G bs) (hi : i + 5 ≤ L) (hL : L ≤ 2560) (hk0 : k0 + 100 ≤ room_1.cells) (hn0 : n0 + 2000 ≤ room_1.slots) (hS : SY ow (K, N, I, Q, J) x n c al sp tu pt m pc pa ps r d u g w) (hM : KM ow (K, N, I, Q, J) mm ar n c al sp tu pt m pc pa ps r d u g w) (hO : K o = 24 ∧ N o = 1 ∧ ow o = 10) (hB : BNm n al tu m pa) (hno : ∀ j, j < n → ¬ cv1 (c j) = xs (i + 1)) (kk : ∀ (ow1 : xO) (S1 : xS), INV ow1 S1 x mm o → XW p l ee room_1 s mi args below meth cd G Z (k0 + 100) (n0 + 2000) S1 1254 [some (.ref bs), some (.ref x), some (.ref mm), some (.ref o), some (.int (nI i)), none, none, none, none] []) : XW p l ee room_1 s mi args below meth cd G Z k0 n0 (K, N, I, Q, J) 725 [some (.ref bs), some (.ref x), some (.ref mm), some (.ref o), some (.int (nI i)), none, none, none, none] [] := by
  obtain ⟨hKB, hPB, hUP, hPI, hn2, hcb, hm2, hsb, hx⟩ := hS.kb
  have hx : K x = 8 := hx
  have hmm : K mm = 9 := hM.1.1
  have ht30 : ∀ i, i < n → tu i < 2 ^ 30 := fun i hi => Nat.lt_trans (hsb i hi).2 (by decide)
  have hs30 : ∀ i, i < n → sp i < 2 ^ 30 := fun i hi => Nat.lt_trans (hsb i hi).1 (by decide)
  have hp30 : ∀ i, i < m → ps i < 2 ^ 30 := fun i hi => Nat.lt_trans (hPB i hi).2.2 (by decide)
  refine x_aload_n C D_L_law_29.2.2.2.2.2.2.2.2.2.2.1 rfl rfl (by first | exact Or.inr ⟨_, rfl⟩ | exact va_rf_or _ | exact Or.inl rfl) ?_
  refine x_aload_n C D_L_law_29.2.2.2.2.2.2.2.2.2.2.2 rfl rfl (by first | exact Or.inr ⟨_, rfl⟩ | exact va_rf_or _ | exact Or.inl rfl) ?_
  refine x_iload C D_L_law_30.1 rfl ?_
  refine x_iconst C (v := nI 1) D_L_law_30.2.1 (by decide +kernel) ?_
  refine x_iadd C D_L_law_30.2.2.1 ?_
  first
  | refine x_eqi _ (nI_add _ _) ?_
  | skip
  refine x_sld C hXs hbl hbA _ rfl (by omega) hL D_L_law_30.2.2.2.1 ?_
  refine x_aload_n C D_L_law_30.2.2.2.2.1 rfl rfl (by first | exact Or.inr ⟨_, rfl⟩ | exact va_rf_or _ | exact Or.inl rfl) ?_
  refine x_callW C hX (y := yL_partOf) (c_L_partOfN l G ow x o n m c al sp tu pt pc ps pa r d u g w (xs (i + 1)) hlt hS ⟨hO.1, hO.2.1⟩ hno) k_805 k_806 k_59 kw_partOf hd_L_partOf ⟨(Nat.le_of_ble_eq_true rfl), (Nat.le_of_ble_eq_true rfl)⟩ rfl (by first | exact Nat.le_of_ble_eq_true rfl | simp [x_crf, Value.category]) rfl rfl D_L_law_30.2.2.2.2.2.1 ⟨Nat.le_trans (Nat.add_le_add_left (Nat.le_of_ble_eq_true rfl : _ ≤ 20) _) (by omega), Nat.le_trans (Nat.add_le_add_left (Nat.le_of_ble_eq_true rfl : _ ≤ 400) _) (by omega)⟩ (fun r_733 S_733 h_733 => ?_)
  refine x_widen (k' := k0 + 20) (n' := n0 + 400) (Nat.add_le_add_left (Nat.le_of_ble_eq_true rfl) _) (Nat.add_le_add_left (Nat.le_of_ble_eq_true rfl) _) ?_
  obtain ⟨rfl, ow1, hF1, hS1⟩ := h_733
  obtain ⟨K1, N1, I1, Q1, J1⟩ := S_733
  have hM1 := hM.agree hF1
  have hO1 := hF1.o hO
  have hm1 : K1 mm = 9 := hM1.1.1
  have m1d : I1 mm 1 = d := hM1.2.2.2.2.1
  have m1r : I1 mm 2 = r := hM1.2.2.2.2.2.1
  have m1u : I1 mm 3 = u := hM1.2.2.2.2.2.2.1
  have m1g : I1 mm 4 = g := hM1.2.2.2.2.2.2.2.1
  have m1w : I1 mm 11 = w := hM1.2.2.2.2.2.2.2.2
  refine x_istore C (lv' := [_, _, _, _, _, _, _, _, _]) D_L_law_30.2.2.2.2.2.2.1 (Nat.le_of_ble_eq_true rfl) (by first | rfl | exact x_ok_q rfl) rfl ?_
  refine x_aload_n C D_L_law_30.2.2.2.2.2.2.2.1 rfl rfl (by first | exact Or.inr ⟨_, rfl⟩ | exact va_rf_or _ | exact Or.inl rfl) ?_
  refine x_aload_n C D_L_law_30.2.2.2.2.2.2.2.2.1 rfl rfl (by first | exact Or.inr ⟨_, rfl⟩ | exact va_rf_or _ | exact Or.inl rfl) ?_
  refine x_iload C D_L_law_30.2.2.2.2.2.2.2.2.2.1 rfl ?_
  refine x_iconst C (v := nI 1) D_L_law_30.2.2.2.2.2.2.2.2.2.2.1 (by decide +kernel) ?_
  refine x_iadd C D_L_law_30.2.2.2.2.2.2.2.2.2.2.2 ?_
  first
  | refine x_eqi _ (nI_add _ _) ?_
  | skip
  refine x_sld C hXs hbl hbA _ rfl (by omega) hL D_L_law_31.1 ?_
  refine x_callVi C (y := yX9_partOf) (c_X9_partOfN l G mm n ar c sp tu pt al (xs (i + 1)) hM1.1 hM1.2.1 (KV_none hM1.2.1 hno) ) (ci := 8) hm1 (by decide) rfl rfl k_1129 k_1130 k_1131 k_67 k_1132 hd_X9_partOf ⟨(Nat.le_of_ble_eq_true rfl), (Nat.le_of_ble_eq_true rfl)⟩ rfl (by first | exact Nat.le_of_ble_eq_true rfl | simp [x_crf, Value.category]) rfl rfl D_L_law_31.2.1 ⟨Nat.le_trans (Nat.add_le_add_left (Nat.le_of_ble_eq_true rfl : _ ≤ 20) _) (by omega), Nat.le_trans (Nat.add_le_add_left (Nat.le_of_ble_eq_true rfl : _ ≤ 400) _) (by omega)⟩ (fun r_745 S_745 h_745 => ?_)
  refine x_widen (k' := k0 + 20 + 20) (n' := n0 + 400 + 400) (Nat.add_le_add_left (Nat.le_of_ble_eq_true rfl) _) (Nat.add_le_add_left (Nat.le_of_ble_eq_true rfl) _) ?_
  obtain ⟨rfl, rfl⟩ := h_745
  refine x_istore C (lv' := [_, _, _, _, _, _, _, _, _]) D_L_law_31.2.2.1 (Nat.le_of_ble_eq_true rfl) (by first | rfl | exact x_ok_q rfl) rfl ?_
  refine x_aload_n C D_L_law_31.2.2.2.1 rfl rfl (by first | exact Or.inr ⟨_, rfl⟩ | exact va_rf_or _ | exact Or.inl rfl) ?_
  refine x_callVi C (y := yX9_thrown) (c_X9_thrown l G mm hm1) (ci := 8) hm1 (by decide) rfl rfl k_962 k_963 k_964 k_67 k_965 hd_X9_thrown ⟨(Nat.le_of_ble_eq_true rfl), (Nat.le_of_ble_eq_true rfl)⟩ rfl (by first | exact Nat.le_of_ble_eq_true rfl | simp [x_crf, Value.category]) rfl rfl D_L_law_31.2.2.2.2.1 ⟨Nat.le_trans (Nat.add_le_add_left (Nat.le_of_ble_eq_true rfl : _ ≤ 20) _) (by omega), Nat.le_trans (Nat.add_le_add_left (Nat.le_of_ble_eq_true rfl : _ ≤ 400) _) (by omega)⟩ (fun r_751 S_751 h_751 => ?_)
  refine x_widen (k' := k0 + 20 + 20 + 20) (n' := n0 + 400 + 400 + 400) (Nat.add_le_add_left (Nat.le_of_ble_eq_true rfl) _) (Nat.add_le_add_left (Nat.le_of_ble_eq_true rfl) _) ?_
  obtain ⟨rfl, rfl⟩ := h_751
  refine x_eqi _ (show _ = nI 1 from x_u2_s _ _ _ _) ?_
  refine x_iload C D_L_law_31.2.2.2.2.2.1 rfl ?_
  refine x_icmp_eq C 761 D_L_law_31.2.2.2.2.2.2.1 (by decide) (fun c_756 => ?_) (fun c_756 => ?_)
  · skip
    refine x_iload C D_L_law_31.2.2.2.2.2.2.2.2.2.1 rfl ?_
    refine x_if_ne C 778 D_L_law_31.2.2.2.2.2.2.2.2.2.2.1 (by decide) (fun c_763 => ?_) (fun c_763 => ?_)
    · skip
      refine x_goto C 1254 D_L_law_32.2.2.2.2.2.2.2.2.1 (by decide) ?_
      exact x_drop9 (x_widen (by omega) (by omega) (kk _ _ (INV.q hS1 hM1 hO1 hB _)))
    · skip
      exact absurd c_763 (by decide)
      --end
  · skip
    exact absurd rfl c_756
    --end
theorem hd_L_depthInTurning : yL_depthInTurning.cls ≠ "java/lang/invoke/MethodHandle" ∧ yL_depthInTurning.cls ≠ "java/lang/invoke/VarHandle" ∧ (parseMethodDescriptor yL_depthInTurning.desc).map (fun d => d.parameters.length) = some 3 := by decide +kernel
theorem hd_X9_depthInTurning : yX9_depthInTurning.cls ≠ "java/lang/invoke/MethodHandle" ∧ yX9_depthInTurning.cls ≠ "java/lang/invoke/VarHandle" ∧ (parseMethodDescriptor yX9_depthInTurning.desc).map (fun d => d.parameters.length) = some 1 := by decide +kernel
set_option maxHeartbeats 4000000 in
set_option maxRecDepth 100000 in
theorem lc_depthInTurningY {p : Program} {l : Launch} {ee : Env} {s : State} {mi : MethodId} {args : Array Value} {below : List Frame} {meth : Method} {cd : Code} {G : xG} {Z : State → Prop} {rt : Option FieldType} {k0 n0 bs L i x mm o : Nat} {xs : Nat → Int32} {K N : Nat → Nat} {I : Nat → Nat → Int32} {Q : Nat → Nat → Option Nat} {J : Nat → Nat → Int64} {ow : xO} {n : Nat} {c : Nat → Nat} {al : Nat → Bool} {sp tu pt : Nat → Nat} {m : Nat} {pc : Nat → Nat} {pa : Nat → Bool} {ps : Nat → Nat} {r d u g w : Int32} {ar : Nat → Nat} (C : XC p s mi args meth cd code 9 RL rt G) (hX : gX G s s.heap) (hlt : l.stackTraces = false) (hXs : va_X bs L xs s s.heap) (hbl : bs < s.heap.size) (hbA : ¬ gA G bs) (hi : i + 5 ≤ L) (hL : L ≤ 2560) (hk0 : k0 + 100 ≤ room_1.cells) (hn0 : n0 + 2000 ≤ room_1.slots) (hS : SY ow (K, N, I, Q, J) x n c al sp tu pt m pc pa ps r d u g w) (hM : KM ow (K, N, I, Q, J) mm ar n c al sp tu pt m pc pa ps r d u g w) (hO : K o = 24 ∧ N o = 1 ∧ ow o = 10) (hB : BNm n al tu m pa) (k : Nat) (hk : k < n) (y1 : xs (i + 1) = cv1 (c k)) (hal : al k = true) (kk : ∀ (ow1 : xO) (S1 : xS), INV ow1 S1 x mm o → XW p l ee room_1 s mi args below meth cd G Z (k0 + 100) (n0 + 2000) S1 1254 [some (.ref bs), some (.ref x), some (.ref mm), some (.ref o), some (.int (nI i)), none, none, none, none] []) : XW p l ee room_1 s mi args below meth cd G Z k0 n0 (K, N, I, Q, J) 599 [some (.ref bs), some (.ref x), some (.ref mm), some (.ref o), some (.int (nI i)), none, none, none, none] [] := by
  obtain ⟨hKB, hPB, hUP, hPI, hn2, hcb, hm2, hsb, hx⟩ := hS.kb
  have hx : K x = 8 := hx
  have hmm : K mm = 9 := hM.1.1
  have ht30 : ∀ i, i < n → tu i < 2 ^ 30 := fun i hi => Nat.lt_trans (hsb i hi).2 (by decide)
  have hs30 : ∀ i, i < n → sp i < 2 ^ 30 := fun i hi => Nat.lt_trans (hsb i hi).1 (by decide)
  have hp30 : ∀ i, i < m → ps i < 2 ^ 30 := fun i hi => Nat.lt_trans (hPB i hi).2.2 (by decide)
  refine x_aload_n C D_L_law_23.2.2.2.2.2.2.2.2.1 rfl rfl (by first | exact Or.inr ⟨_, rfl⟩ | exact va_rf_or _ | exact Or.inl rfl) ?_
  refine x_aload_n C D_L_law_23.2.2.2.2.2.2.2.2.2.1 rfl rfl (by first | exact Or.inr ⟨_, rfl⟩ | exact va_rf_or _ | exact Or.inl rfl) ?_
  refine x_iload C D_L_law_23.2.2.2.2.2.2.2.2.2.2.1 rfl ?_
  refine x_iconst C (v := nI 1) D_L_law_23.2.2.2.2.2.2.2.2.2.2.2 (by decide +kernel) ?_
  refine x_iadd C D_L_law_24.1 ?_
  first
  | refine x_eqi _ (nI_add _ _) ?_
  | skip
  refine x_sld C hXs hbl hbA _ rfl (by omega) hL D_L_law_24.2.1 ?_
  refine x_eqi _ y1 ?_
  refine x_aload_n C D_L_law_24.2.2.1 rfl rfl (by first | exact Or.inr ⟨_, rfl⟩ | exact va_rf_or _ | exact Or.inl rfl) ?_
  refine x_callW C hX (y := yL_depthInTurning) (c_L_depthInTurningY l G ow x o n m c al sp tu pt pc ps pa r d u g w k hlt hS ⟨hO.1, hO.2.1⟩ hk ((hB.2.2.1 k hk).mp hal)) k_781 k_782 k_59 kw_depthInTurning hd_L_depthInTurning ⟨(Nat.le_of_ble_eq_true rfl), (Nat.le_of_ble_eq_true rfl)⟩ rfl (by first | exact Nat.le_of_ble_eq_true rfl | simp [x_crf, Value.category]) rfl rfl D_L_law_24.2.2.2.1 ⟨Nat.le_trans (Nat.add_le_add_left (Nat.le_of_ble_eq_true rfl : _ ≤ 20) _) (by omega), Nat.le_trans (Nat.add_le_add_left (Nat.le_of_ble_eq_true rfl : _ ≤ 400) _) (by omega)⟩ (fun r_607 S_607 h_607 => ?_)
  refine x_widen (k' := k0 + 20) (n' := n0 + 400) (Nat.add_le_add_left (Nat.le_of_ble_eq_true rfl) _) (Nat.add_le_add_left (Nat.le_of_ble_eq_true rfl) _) ?_
  obtain ⟨rfl, S0, J2, rfl, eJ2, ow1, hF1, hS1⟩ := h_607
  obtain ⟨K1, N1, I1, Q1, J1⟩ := S0
  have hM1 := (hM.agree hF1).J (J1 := J2)
  have hS1 := hS1.J (J1 := J2)
  have hO1 := hF1.o hO
  have hm1 : K1 mm = 9 := hM1.1.1
  have ko1 : K1 o = 24 := hO1.1
  have no1 : N1 o = 1 := hO1.2.1
  have m1d : I1 mm 1 = d := hM1.2.2.2.2.1
  have m1r : I1 mm 2 = r := hM1.2.2.2.2.2.1
  have m1u : I1 mm 3 = u := hM1.2.2.2.2.2.2.1
  have m1g : I1 mm 4 = g := hM1.2.2.2.2.2.2.2.1
  have m1w : I1 mm 11 = w := hM1.2.2.2.2.2.2.2.2
  refine x_istore C (lv' := [_, _, _, _, _, _, _, _, _]) D_L_law_24.2.2.2.2.1 (Nat.le_of_ble_eq_true rfl) (by first | rfl | exact x_ok_q rfl) rfl ?_
  refine x_aload_n C D_L_law_24.2.2.2.2.2.1 rfl rfl (by first | exact Or.inr ⟨_, rfl⟩ | exact va_rf_or _ | exact Or.inl rfl) ?_
  refine x_aload_n C D_L_law_24.2.2.2.2.2.2.1 rfl rfl (by first | exact Or.inr ⟨_, rfl⟩ | exact va_rf_or _ | exact Or.inl rfl) ?_
  refine x_iload C D_L_law_24.2.2.2.2.2.2.2.1 rfl ?_
  refine x_iconst C (v := nI 1) D_L_law_24.2.2.2.2.2.2.2.2.1 (by decide +kernel) ?_
  refine x_iadd C D_L_law_24.2.2.2.2.2.2.2.2.2.1 ?_
  first
  | refine x_eqi _ (nI_add _ _) ?_
  | skip
  refine x_sld C hXs hbl hbA _ rfl (by omega) hL D_L_law_24.2.2.2.2.2.2.2.2.2.2.1 ?_
  refine x_eqi _ y1 ?_
  refine x_callVi C (y := yX9_depthInTurning) (c_X9_depthInTurningY l G mm n ar c sp tu pt al (cv1 (c k)) k hM1.1 hM1.2.1 (KV_some hM1.2.1 hUP hcb hk) hal ht30) (ci := 8) hm1 (by decide) rfl rfl k_1113 k_1114 k_1115 k_67 k_1116 hd_X9_depthInTurning ⟨(Nat.le_of_ble_eq_true rfl), (Nat.le_of_ble_eq_true rfl)⟩ rfl (by first | exact Nat.le_of_ble_eq_true rfl | simp [x_crf, Value.category]) rfl rfl D_L_law_24.2.2.2.2.2.2.2.2.2.2.2 ⟨Nat.le_trans (Nat.add_le_add_left (Nat.le_of_ble_eq_true rfl : _ ≤ 20) _) (by omega), Nat.le_trans (Nat.add_le_add_left (Nat.le_of_ble_eq_true rfl : _ ≤ 400) _) (by omega)⟩ (fun r_619 S_619 h_619 => ?_)
  refine x_widen (k' := k0 + 20 + 20) (n' := n0 + 400 + 400) (Nat.add_le_add_left (Nat.le_of_ble_eq_true rfl) _) (Nat.add_le_add_left (Nat.le_of_ble_eq_true rfl) _) ?_
  obtain ⟨rfl, rfl⟩ := h_619
  refine x_istore C (lv' := [_, _, _, _, _, _, _, _, _]) D_L_law_25.1 (Nat.le_of_ble_eq_true rfl) (by first | rfl | exact x_ok_q rfl) rfl ?_
  refine x_aload_n C D_L_law_25.2.1 rfl rfl (by first | exact Or.inr ⟨_, rfl⟩ | exact va_rf_or _ | exact Or.inl rfl) ?_
  refine x_callVi C (y := yX9_thrown) (c_X9_thrown l G mm hm1) (ci := 8) hm1 (by decide) rfl rfl k_962 k_963 k_964 k_67 k_965 hd_X9_thrown ⟨(Nat.le_of_ble_eq_true rfl), (Nat.le_of_ble_eq_true rfl)⟩ rfl (by first | exact Nat.le_of_ble_eq_true rfl | simp [x_crf, Value.category]) rfl rfl D_L_law_25.2.2.1 ⟨Nat.le_trans (Nat.add_le_add_left (Nat.le_of_ble_eq_true rfl : _ ≤ 20) _) (by omega), Nat.le_trans (Nat.add_le_add_left (Nat.le_of_ble_eq_true rfl : _ ≤ 400) _) (by omega)⟩ (fun r_625 S_625 h_625 => ?_)
  refine x_widen (k' := k0 + 20 + 20 + 20) (n' := n0 + 400 + 400 + 400) (Nat.add_le_add_left (Nat.le_of_ble_eq_true rfl) _) (Nat.add_le_add_left (Nat.le_of_ble_eq_true rfl) _) ?_
  obtain ⟨rfl, rfl⟩ := h_625
  refine x_eqi _ (show _ = nI 0 from x_u2_s _ _ _ _) ?_
  refine x_iload C D_L_law_25.2.2.2.1 rfl ?_
  refine x_icmp_eq C 635 D_L_law_25.2.2.2.2.1 (by decide) (fun c_630 => ?_) (fun c_630 => ?_)
  · skip
    refine x_iload C D_L_law_25.2.2.2.2.2.2.2.1 rfl ?_
    refine x_if_ne C 652 D_L_law_25.2.2.2.2.2.2.2.2.1 (by decide) (fun c_637 => ?_) (fun c_637 => ?_)
    · skip
      exact absurd rfl c_637
      --end
    · skip
      refine x_aload_n C D_L_law_25.2.2.2.2.2.2.2.2.2.1 rfl rfl (by first | exact Or.inr ⟨_, rfl⟩ | exact va_rf_or _ | exact Or.inl rfl) ?_
      refine x_iconst C (v := nI 0) D_L_law_25.2.2.2.2.2.2.2.2.2.2.1 (by decide +kernel) ?_
      refine x_lald C 0 ko1 rfl (by omega) (by omega) D_L_law_25.2.2.2.2.2.2.2.2.2.2.2 ?_
      refine x_eql _ (show J2 o 0 = _ by rw [eJ2, x_u2_s]) ?_
      refine x_iload C D_L_law_26.1 rfl ?_
      refine x_i2l C D_L_law_26.2.1 ?_
      refine x_lcmp C D_L_law_26.2.2.1 ?_
      refine x_eqi _ (lg_self _) ?_
      refine x_if_eq C 652 D_L_law_26.2.2.2.1 (by decide) (fun c_647 => ?_) (fun c_647 => ?_)
      · skip
        refine x_goto C 1254 D_L_law_26.2.2.2.2.2.2.1 (by decide) ?_
        exact x_drop9 (x_widen (by omega) (by omega) (kk _ _ (INV.q hS1 hM1 hO1 hB _)))
      · skip
        exact absurd rfl c_647
        --end
  · skip
    exact absurd rfl c_630
    --end
set_option maxHeartbeats 4000000 in
set_option maxRecDepth 100000 in
theorem lc_depthInTurningG {p : Program} {l : Launch} {ee : Env} {s : State} {mi : MethodId} {args : Array Value} {below : List Frame} {meth : Method} {cd : Code} {G : xG} {Z : State → Prop} {rt : Option FieldType} {k0 n0 bs L i x mm o : Nat} {xs : Nat → Int32} {K N : Nat → Nat} {I : Nat → Nat → Int32} {Q : Nat → Nat → Option Nat} {J : Nat → Nat → Int64} {ow : xO} {n : Nat} {c : Nat → Nat} {al : Nat → Bool} {sp tu pt : Nat → Nat} {m : Nat} {pc : Nat → Nat} {pa : Nat → Bool} {ps : Nat → Nat} {r d u g w : Int32} {ar : Nat → Nat} (C : XC p s mi args meth cd code 9 RL rt G) (hX : gX G s s.heap) (hlt : l.stackTraces = false) (hXs : va_X bs L xs s s.heap) (hbl : bs < s.heap.size) (hbA : ¬ gA G bs) (hi : i + 5 ≤ L) (hL : L ≤ 2560) (hk0 : k0 + 100 ≤ room_1.cells) (hn0 : n0 + 2000 ≤ room_1.slots) (hS : SY ow (K, N, I, Q, J) x n c al sp tu pt m pc pa ps r d u g w) (hM : KM ow (K, N, I, Q, J) mm ar n c al sp tu pt m pc pa ps r d u g w) (hO : K o = 24 ∧ N o = 1 ∧ ow o = 10) (hB : BNm n al tu m pa) (k : Nat) (hk : k < n) (y1 : xs (i + 1) = cv1 (c k)) (hal : al k = false) (kk : ∀ (ow1 : xO) (S1 : xS), INV ow1 S1 x mm o → XW p l ee room_1 s mi args below meth cd G Z (k0 + 100) (n0 + 2000) S1 1254 [some (.ref bs), some (.ref x), some (.ref mm), some (.ref o), some (.int (nI i)), none, none, none, none] []) : XW p l ee room_1 s mi args below meth cd G Z k0 n0 (K, N, I, Q, J) 599 [some (.ref bs), some (.ref x), some (.ref mm), some (.ref o), some (.int (nI i)), none, none, none, none] [] := by
  obtain ⟨hKB, hPB, hUP, hPI, hn2, hcb, hm2, hsb, hx⟩ := hS.kb
  have hx : K x = 8 := hx
  have hmm : K mm = 9 := hM.1.1
  have ht30 : ∀ i, i < n → tu i < 2 ^ 30 := fun i hi => Nat.lt_trans (hsb i hi).2 (by decide)
  have hs30 : ∀ i, i < n → sp i < 2 ^ 30 := fun i hi => Nat.lt_trans (hsb i hi).1 (by decide)
  have hp30 : ∀ i, i < m → ps i < 2 ^ 30 := fun i hi => Nat.lt_trans (hPB i hi).2.2 (by decide)
  have hnt : ∀ j, j < n → 0 < tu j → ¬ cv1 (c j) = cv1 (c k) := fun j hj hp e => by
    obtain rfl := UP_inj hUP hj hk ((cv1_eq (hcb j hj) (hcb k hk)).mp e)
    have := (hB.2.2.1 _ hj).mpr hp
    rw [hal] at this
    cases this
  refine x_aload_n C D_L_law_23.2.2.2.2.2.2.2.2.1 rfl rfl (by first | exact Or.inr ⟨_, rfl⟩ | exact va_rf_or _ | exact Or.inl rfl) ?_
  refine x_aload_n C D_L_law_23.2.2.2.2.2.2.2.2.2.1 rfl rfl (by first | exact Or.inr ⟨_, rfl⟩ | exact va_rf_or _ | exact Or.inl rfl) ?_
  refine x_iload C D_L_law_23.2.2.2.2.2.2.2.2.2.2.1 rfl ?_
  refine x_iconst C (v := nI 1) D_L_law_23.2.2.2.2.2.2.2.2.2.2.2 (by decide +kernel) ?_
  refine x_iadd C D_L_law_24.1 ?_
  first
  | refine x_eqi _ (nI_add _ _) ?_
  | skip
  refine x_sld C hXs hbl hbA _ rfl (by omega) hL D_L_law_24.2.1 ?_
  refine x_eqi _ y1 ?_
  refine x_aload_n C D_L_law_24.2.2.1 rfl rfl (by first | exact Or.inr ⟨_, rfl⟩ | exact va_rf_or _ | exact Or.inl rfl) ?_
  refine x_callW C hX (y := yL_depthInTurning) (c_L_depthInTurningN l G ow x o n m c al sp tu pt pc ps pa r d u g w (cv1 (c k)) hlt hS ⟨hO.1, hO.2.1⟩ hnt) k_781 k_782 k_59 kw_depthInTurning hd_L_depthInTurning ⟨(Nat.le_of_ble_eq_true rfl), (Nat.le_of_ble_eq_true rfl)⟩ rfl (by first | exact Nat.le_of_ble_eq_true rfl | simp [x_crf, Value.category]) rfl rfl D_L_law_24.2.2.2.1 ⟨Nat.le_trans (Nat.add_le_add_left (Nat.le_of_ble_eq_true rfl : _ ≤ 20) _) (by omega), Nat.le_trans (Nat.add_le_add_left (Nat.le_of_ble_eq_true rfl : _ ≤ 400) _) (by omega)⟩ (fun r_607 S_607 h_607 => ?_)
  refine x_widen (k' := k0 + 20) (n' := n0 + 400) (Nat.add_le_add_left (Nat.le_of_ble_eq_true rfl) _) (Nat.add_le_add_left (Nat.le_of_ble_eq_true rfl) _) ?_
  obtain ⟨rfl, ow1, hF1, hS1⟩ := h_607
  obtain ⟨K1, N1, I1, Q1, J1⟩ := S_607
  have hM1 := hM.agree hF1
  have hO1 := hF1.o hO
  have hm1 : K1 mm = 9 := hM1.1.1
  have m1d : I1 mm 1 = d := hM1.2.2.2.2.1
  have m1r : I1 mm 2 = r := hM1.2.2.2.2.2.1
  have m1u : I1 mm 3 = u := hM1.2.2.2.2.2.2.1
  have m1g : I1 mm 4 = g := hM1.2.2.2.2.2.2.2.1
  have m1w : I1 mm 11 = w := hM1.2.2.2.2.2.2.2.2
  refine x_istore C (lv' := [_, _, _, _, _, _, _, _, _]) D_L_law_24.2.2.2.2.1 (Nat.le_of_ble_eq_true rfl) (by first | rfl | exact x_ok_q rfl) rfl ?_
  refine x_aload_n C D_L_law_24.2.2.2.2.2.1 rfl rfl (by first | exact Or.inr ⟨_, rfl⟩ | exact va_rf_or _ | exact Or.inl rfl) ?_
  refine x_aload_n C D_L_law_24.2.2.2.2.2.2.1 rfl rfl (by first | exact Or.inr ⟨_, rfl⟩ | exact va_rf_or _ | exact Or.inl rfl) ?_
  refine x_iload C D_L_law_24.2.2.2.2.2.2.2.1 rfl ?_
  refine x_iconst C (v := nI 1) D_L_law_24.2.2.2.2.2.2.2.2.1 (by decide +kernel) ?_
  refine x_iadd C D_L_law_24.2.2.2.2.2.2.2.2.2.1 ?_
  first
  | refine x_eqi _ (nI_add _ _) ?_
  | skip
  refine x_sld C hXs hbl hbA _ rfl (by omega) hL D_L_law_24.2.2.2.2.2.2.2.2.2.2.1 ?_
  refine x_eqi _ y1 ?_
  refine x_callVi C (y := yX9_depthInTurning) (c_X9_depthInTurningG l G mm n ar c sp tu pt al (cv1 (c k)) k hM1.1 hM1.2.1 (KV_some hM1.2.1 hUP hcb hk) hal ht30) (ci := 8) hm1 (by decide) rfl rfl k_1113 k_1114 k_1115 k_67 k_1116 hd_X9_depthInTurning ⟨(Nat.le_of_ble_eq_true rfl), (Nat.le_of_ble_eq_true rfl)⟩ rfl (by first | exact Nat.le_of_ble_eq_true rfl | simp [x_crf, Value.category]) rfl rfl D_L_law_24.2.2.2.2.2.2.2.2.2.2.2 ⟨Nat.le_trans (Nat.add_le_add_left (Nat.le_of_ble_eq_true rfl : _ ≤ 20) _) (by omega), Nat.le_trans (Nat.add_le_add_left (Nat.le_of_ble_eq_true rfl : _ ≤ 400) _) (by omega)⟩ (fun r_619 S_619 h_619 => ?_)
  refine x_widen (k' := k0 + 20 + 20) (n' := n0 + 400 + 400) (Nat.add_le_add_left (Nat.le_of_ble_eq_true rfl) _) (Nat.add_le_add_left (Nat.le_of_ble_eq_true rfl) _) ?_
  obtain ⟨rfl, rfl⟩ := h_619
  refine x_istore C (lv' := [_, _, _, _, _, _, _, _, _]) D_L_law_25.1 (Nat.le_of_ble_eq_true rfl) (by first | rfl | exact x_ok_q rfl) rfl ?_
  refine x_aload_n C D_L_law_25.2.1 rfl rfl (by first | exact Or.inr ⟨_, rfl⟩ | exact va_rf_or _ | exact Or.inl rfl) ?_
  refine x_callVi C (y := yX9_thrown) (c_X9_thrown l G mm hm1) (ci := 8) hm1 (by decide) rfl rfl k_962 k_963 k_964 k_67 k_965 hd_X9_thrown ⟨(Nat.le_of_ble_eq_true rfl), (Nat.le_of_ble_eq_true rfl)⟩ rfl (by first | exact Nat.le_of_ble_eq_true rfl | simp [x_crf, Value.category]) rfl rfl D_L_law_25.2.2.1 ⟨Nat.le_trans (Nat.add_le_add_left (Nat.le_of_ble_eq_true rfl : _ ≤ 20) _) (by omega), Nat.le_trans (Nat.add_le_add_left (Nat.le_of_ble_eq_true rfl : _ ≤ 400) _) (by omega)⟩ (fun r_625 S_625 h_625 => ?_)
  refine x_widen (k' := k0 + 20 + 20 + 20) (n' := n0 + 400 + 400 + 400) (Nat.add_le_add_left (Nat.le_of_ble_eq_true rfl) _) (Nat.add_le_add_left (Nat.le_of_ble_eq_true rfl) _) ?_
  obtain ⟨rfl, rfl⟩ := h_625
  refine x_eqi _ (show _ = nI 1 from x_u2_s _ _ _ _) ?_
  refine x_iload C D_L_law_25.2.2.2.1 rfl ?_
  refine x_icmp_eq C 635 D_L_law_25.2.2.2.2.1 (by decide) (fun c_630 => ?_) (fun c_630 => ?_)
  · skip
    refine x_iload C D_L_law_25.2.2.2.2.2.2.2.1 rfl ?_
    refine x_if_ne C 652 D_L_law_25.2.2.2.2.2.2.2.2.1 (by decide) (fun c_637 => ?_) (fun c_637 => ?_)
    · skip
      refine x_goto C 1254 D_L_law_26.2.2.2.2.2.2.1 (by decide) ?_
      exact x_drop9 (x_widen (by omega) (by omega) (kk _ _ (INV.q hS1 hM1 hO1 hB _)))
    · skip
      exact absurd c_637 (by decide)
      --end
  · skip
    exact absurd rfl c_630
    --end
set_option maxHeartbeats 4000000 in
set_option maxRecDepth 100000 in
theorem lc_depthInTurningN {p : Program} {l : Launch} {ee : Env} {s : State} {mi : MethodId} {args : Array Value} {below : List Frame} {meth : Method} {cd : Code} {G : xG} {Z : State → Prop} {rt : Option FieldType} {k0 n0 bs L i x mm o : Nat} {xs : Nat → Int32} {K N : Nat → Nat} {I : Nat → Nat → Int32} {Q : Nat → Nat → Option Nat} {J : Nat → Nat → Int64} {ow : xO} {n : Nat} {c : Nat → Nat} {al : Nat → Bool} {sp tu pt : Nat → Nat} {m : Nat} {pc : Nat → Nat} {pa : Nat → Bool} {ps : Nat → Nat} {r d u g w : Int32} {ar : Nat → Nat} (C : XC p s mi args meth cd code 9 RL rt G) (hX : gX G s s.heap) (hlt : l.stackTraces = false) (hXs : va_X bs L xs s s.heap) (hbl : bs < s.heap.size) (hbA : ¬ gA G bs) (hi : i + 5 ≤ L) (hL : L ≤ 2560) (hk0 : k0 + 100 ≤ room_1.cells) (hn0 : n0 + 2000 ≤ room_1.slots) (hS : SY ow (K, N, I, Q, J) x n c al sp tu pt m pc pa ps r d u g w) (hM : KM ow (K, N, I, Q, J) mm ar n c al sp tu pt m pc pa ps r d u g w) (hO : K o = 24 ∧ N o = 1 ∧ ow o = 10) (hB : BNm n al tu m pa) (hno : ∀ j, j < n → ¬ cv1 (c j) = xs (i + 1)) (kk : ∀ (ow1 : xO) (S1 : xS), INV ow1 S1 x mm o → XW p l ee room_1 s mi args below meth cd G Z (k0 + 100) (n0 + 2000) S1 1254 [some (.ref bs), some (.ref x), some (.ref mm), some (.ref o), some (.int (nI i)), none, none, none, none] []) : XW p l ee room_1 s mi args below meth cd G Z k0 n0 (K, N, I, Q, J) 599 [some (.ref bs), some (.ref x), some (.ref mm), some (.ref o), some (.int (nI i)), none, none, none, none] [] := by
  obtain ⟨hKB, hPB, hUP, hPI, hn2, hcb, hm2, hsb, hx⟩ := hS.kb
  have hx : K x = 8 := hx
  have hmm : K mm = 9 := hM.1.1
  have ht30 : ∀ i, i < n → tu i < 2 ^ 30 := fun i hi => Nat.lt_trans (hsb i hi).2 (by decide)
  have hs30 : ∀ i, i < n → sp i < 2 ^ 30 := fun i hi => Nat.lt_trans (hsb i hi).1 (by decide)
  have hp30 : ∀ i, i < m → ps i < 2 ^ 30 := fun i hi => Nat.lt_trans (hPB i hi).2.2 (by decide)
  refine x_aload_n C D_L_law_23.2.2.2.2.2.2.2.2.1 rfl rfl (by first | exact Or.inr ⟨_, rfl⟩ | exact va_rf_or _ | exact Or.inl rfl) ?_
  refine x_aload_n C D_L_law_23.2.2.2.2.2.2.2.2.2.1 rfl rfl (by first | exact Or.inr ⟨_, rfl⟩ | exact va_rf_or _ | exact Or.inl rfl) ?_
  refine x_iload C D_L_law_23.2.2.2.2.2.2.2.2.2.2.1 rfl ?_
  refine x_iconst C (v := nI 1) D_L_law_23.2.2.2.2.2.2.2.2.2.2.2 (by decide +kernel) ?_
  refine x_iadd C D_L_law_24.1 ?_
  first
  | refine x_eqi _ (nI_add _ _) ?_
  | skip
  refine x_sld C hXs hbl hbA _ rfl (by omega) hL D_L_law_24.2.1 ?_
  refine x_aload_n C D_L_law_24.2.2.1 rfl rfl (by first | exact Or.inr ⟨_, rfl⟩ | exact va_rf_or _ | exact Or.inl rfl) ?_
  refine x_callW C hX (y := yL_depthInTurning) (c_L_depthInTurningN l G ow x o n m c al sp tu pt pc ps pa r d u g w (xs (i + 1)) hlt hS ⟨hO.1, hO.2.1⟩ (fun j hj _ => hno j hj)) k_781 k_782 k_59 kw_depthInTurning hd_L_depthInTurning ⟨(Nat.le_of_ble_eq_true rfl), (Nat.le_of_ble_eq_true rfl)⟩ rfl (by first | exact Nat.le_of_ble_eq_true rfl | simp [x_crf, Value.category]) rfl rfl D_L_law_24.2.2.2.1 ⟨Nat.le_trans (Nat.add_le_add_left (Nat.le_of_ble_eq_true rfl : _ ≤ 20) _) (by omega), Nat.le_trans (Nat.add_le_add_left (Nat.le_of_ble_eq_true rfl : _ ≤ 400) _) (by omega)⟩ (fun r_607 S_607 h_607 => ?_)
  refine x_widen (k' := k0 + 20) (n' := n0 + 400) (Nat.add_le_add_left (Nat.le_of_ble_eq_true rfl) _) (Nat.add_le_add_left (Nat.le_of_ble_eq_true rfl) _) ?_
  obtain ⟨rfl, ow1, hF1, hS1⟩ := h_607
  obtain ⟨K1, N1, I1, Q1, J1⟩ := S_607
  have hM1 := hM.agree hF1
  have hO1 := hF1.o hO
  have hm1 : K1 mm = 9 := hM1.1.1
  have m1d : I1 mm 1 = d := hM1.2.2.2.2.1
  have m1r : I1 mm 2 = r := hM1.2.2.2.2.2.1
  have m1u : I1 mm 3 = u := hM1.2.2.2.2.2.2.1
  have m1g : I1 mm 4 = g := hM1.2.2.2.2.2.2.2.1
  have m1w : I1 mm 11 = w := hM1.2.2.2.2.2.2.2.2
  refine x_istore C (lv' := [_, _, _, _, _, _, _, _, _]) D_L_law_24.2.2.2.2.1 (Nat.le_of_ble_eq_true rfl) (by first | rfl | exact x_ok_q rfl) rfl ?_
  refine x_aload_n C D_L_law_24.2.2.2.2.2.1 rfl rfl (by first | exact Or.inr ⟨_, rfl⟩ | exact va_rf_or _ | exact Or.inl rfl) ?_
  refine x_aload_n C D_L_law_24.2.2.2.2.2.2.1 rfl rfl (by first | exact Or.inr ⟨_, rfl⟩ | exact va_rf_or _ | exact Or.inl rfl) ?_
  refine x_iload C D_L_law_24.2.2.2.2.2.2.2.1 rfl ?_
  refine x_iconst C (v := nI 1) D_L_law_24.2.2.2.2.2.2.2.2.1 (by decide +kernel) ?_
  refine x_iadd C D_L_law_24.2.2.2.2.2.2.2.2.2.1 ?_
  first
  | refine x_eqi _ (nI_add _ _) ?_
  | skip
  refine x_sld C hXs hbl hbA _ rfl (by omega) hL D_L_law_24.2.2.2.2.2.2.2.2.2.2.1 ?_
  refine x_callVi C (y := yX9_depthInTurning) (c_X9_depthInTurningN l G mm n ar c sp tu pt al (xs (i + 1)) hM1.1 hM1.2.1 (KV_none hM1.2.1 hno) ht30) (ci := 8) hm1 (by decide) rfl rfl k_1113 k_1114 k_1115 k_67 k_1116 hd_X9_depthInTurning ⟨(Nat.le_of_ble_eq_true rfl), (Nat.le_of_ble_eq_true rfl)⟩ rfl (by first | exact Nat.le_of_ble_eq_true rfl | simp [x_crf, Value.category]) rfl rfl D_L_law_24.2.2.2.2.2.2.2.2.2.2.2 ⟨Nat.le_trans (Nat.add_le_add_left (Nat.le_of_ble_eq_true rfl : _ ≤ 20) _) (by omega), Nat.le_trans (Nat.add_le_add_left (Nat.le_of_ble_eq_true rfl : _ ≤ 400) _) (by omega)⟩ (fun r_619 S_619 h_619 => ?_)
  refine x_widen (k' := k0 + 20 + 20) (n' := n0 + 400 + 400) (Nat.add_le_add_left (Nat.le_of_ble_eq_true rfl) _) (Nat.add_le_add_left (Nat.le_of_ble_eq_true rfl) _) ?_
  obtain ⟨rfl, rfl⟩ := h_619
  refine x_istore C (lv' := [_, _, _, _, _, _, _, _, _]) D_L_law_25.1 (Nat.le_of_ble_eq_true rfl) (by first | rfl | exact x_ok_q rfl) rfl ?_
  refine x_aload_n C D_L_law_25.2.1 rfl rfl (by first | exact Or.inr ⟨_, rfl⟩ | exact va_rf_or _ | exact Or.inl rfl) ?_
  refine x_callVi C (y := yX9_thrown) (c_X9_thrown l G mm hm1) (ci := 8) hm1 (by decide) rfl rfl k_962 k_963 k_964 k_67 k_965 hd_X9_thrown ⟨(Nat.le_of_ble_eq_true rfl), (Nat.le_of_ble_eq_true rfl)⟩ rfl (by first | exact Nat.le_of_ble_eq_true rfl | simp [x_crf, Value.category]) rfl rfl D_L_law_25.2.2.1 ⟨Nat.le_trans (Nat.add_le_add_left (Nat.le_of_ble_eq_true rfl : _ ≤ 20) _) (by omega), Nat.le_trans (Nat.add_le_add_left (Nat.le_of_ble_eq_true rfl : _ ≤ 400) _) (by omega)⟩ (fun r_625 S_625 h_625 => ?_)
  refine x_widen (k' := k0 + 20 + 20 + 20) (n' := n0 + 400 + 400 + 400) (Nat.add_le_add_left (Nat.le_of_ble_eq_true rfl) _) (Nat.add_le_add_left (Nat.le_of_ble_eq_true rfl) _) ?_
  obtain ⟨rfl, rfl⟩ := h_625
  refine x_eqi _ (show _ = nI 1 from x_u2_s _ _ _ _) ?_
  refine x_iload C D_L_law_25.2.2.2.1 rfl ?_
  refine x_icmp_eq C 635 D_L_law_25.2.2.2.2.1 (by decide) (fun c_630 => ?_) (fun c_630 => ?_)
  · skip
    refine x_iload C D_L_law_25.2.2.2.2.2.2.2.1 rfl ?_
    refine x_if_ne C 652 D_L_law_25.2.2.2.2.2.2.2.2.1 (by decide) (fun c_637 => ?_) (fun c_637 => ?_)
    · skip
      refine x_goto C 1254 D_L_law_26.2.2.2.2.2.2.1 (by decide) ?_
      exact x_drop9 (x_widen (by omega) (by omega) (kk _ _ (INV.q hS1 hM1 hO1 hB _)))
    · skip
      exact absurd c_637 (by decide)
      --end
  · skip
    exact absurd rfl c_630
    --end
theorem hd_L_turningRoot : yL_turningRoot.cls ≠ "java/lang/invoke/MethodHandle" ∧ yL_turningRoot.cls ≠ "java/lang/invoke/VarHandle" ∧ (parseMethodDescriptor yL_turningRoot.desc).map (fun d => d.parameters.length) = some 2 := by decide +kernel
theorem hd_X9_turningRoot : yX9_turningRoot.cls ≠ "java/lang/invoke/MethodHandle" ∧ yX9_turningRoot.cls ≠ "java/lang/invoke/VarHandle" ∧ (parseMethodDescriptor yX9_turningRoot.desc).map (fun d => d.parameters.length) = some 0 := by decide +kernel
set_option maxHeartbeats 4000000 in
set_option maxRecDepth 100000 in
theorem lc_turningRootY {p : Program} {l : Launch} {ee : Env} {s : State} {mi : MethodId} {args : Array Value} {below : List Frame} {meth : Method} {cd : Code} {G : xG} {Z : State → Prop} {rt : Option FieldType} {k0 n0 bs L i x mm o : Nat} {xs : Nat → Int32} {K N : Nat → Nat} {I : Nat → Nat → Int32} {Q : Nat → Nat → Option Nat} {J : Nat → Nat → Int64} {ow : xO} {n : Nat} {c : Nat → Nat} {al : Nat → Bool} {sp tu pt : Nat → Nat} {m : Nat} {pc : Nat → Nat} {pa : Nat → Bool} {ps : Nat → Nat} {r d u g w : Int32} {ar : Nat → Nat} (C : XC p s mi args meth cd code 9 RL rt G) (hX : gX G s s.heap) (hlt : l.stackTraces = false) (hXs : va_X bs L xs s s.heap) (hbl : bs < s.heap.size) (hbA : ¬ gA G bs) (hi : i + 5 ≤ L) (hL : L ≤ 2560) (hk0 : k0 + 100 ≤ room_1.cells) (hn0 : n0 + 2000 ≤ room_1.slots) (hS : SY ow (K, N, I, Q, J) x n c al sp tu pt m pc pa ps r d u g w) (hM : KM ow (K, N, I, Q, J) mm ar n c al sp tu pt m pc pa ps r d u g w) (hO : K o = 24 ∧ N o = 1 ∧ ow o = 10) (hB : BNm n al tu m pa) (k : Nat) (hlr : lastF (fun i => decide (tu i = 1)) n = some k) (kk : ∀ (ow1 : xO) (S1 : xS), INV ow1 S1 x mm o → XW p l ee room_1 s mi args below meth cd G Z (k0 + 100) (n0 + 2000) S1 1254 [some (.ref bs), some (.ref x), some (.ref mm), some (.ref o), some (.int (nI i)), none, none, none, none] []) : XW p l ee room_1 s mi args below meth cd G Z k0 n0 (K, N, I, Q, J) 655 [some (.ref bs), some (.ref x), some (.ref mm), some (.ref o), some (.int (nI i)), none, none, none, none] [] := by
  obtain ⟨hKB, hPB, hUP, hPI, hn2, hcb, hm2, hsb, hx⟩ := hS.kb
  have hx : K x = 8 := hx
  have hmm : K mm = 9 := hM.1.1
  have ht30 : ∀ i, i < n → tu i < 2 ^ 30 := fun i hi => Nat.lt_trans (hsb i hi).2 (by decide)
  have hs30 : ∀ i, i < n → sp i < 2 ^ 30 := fun i hi => Nat.lt_trans (hsb i hi).1 (by decide)
  have hp30 : ∀ i, i < m → ps i < 2 ^ 30 := fun i hi => Nat.lt_trans (hPB i hi).2.2 (by decide)
  refine x_aload_n C D_L_law_26.2.2.2.2.2.2.2.1 rfl rfl (by first | exact Or.inr ⟨_, rfl⟩ | exact va_rf_or _ | exact Or.inl rfl) ?_
  refine x_aload_n C D_L_law_26.2.2.2.2.2.2.2.2.1 rfl rfl (by first | exact Or.inr ⟨_, rfl⟩ | exact va_rf_or _ | exact Or.inl rfl) ?_
  refine x_callW C hX (y := yL_turningRoot) (c_L_turningRootY l G ow x o n m c al sp tu pt pc ps pa r d u g w k hlt hS ⟨hO.1, hO.2.1⟩ hlr) k_793 k_794 k_59 kw_turningRoot hd_L_turningRoot ⟨(Nat.le_of_ble_eq_true rfl), (Nat.le_of_ble_eq_true rfl)⟩ rfl (by first | exact Nat.le_of_ble_eq_true rfl | simp [x_crf, Value.category]) rfl rfl D_L_law_26.2.2.2.2.2.2.2.2.2.1 ⟨Nat.le_trans (Nat.add_le_add_left (Nat.le_of_ble_eq_true rfl : _ ≤ 20) _) (by omega), Nat.le_trans (Nat.add_le_add_left (Nat.le_of_ble_eq_true rfl : _ ≤ 400) _) (by omega)⟩ (fun r_657 S_657 h_657 => ?_)
  refine x_widen (k' := k0 + 20) (n' := n0 + 400) (Nat.add_le_add_left (Nat.le_of_ble_eq_true rfl) _) (Nat.add_le_add_left (Nat.le_of_ble_eq_true rfl) _) ?_
  obtain ⟨rfl, S0, J2, rfl, eJ2, ow1, hF1, hS1⟩ := h_657
  obtain ⟨K1, N1, I1, Q1, J1⟩ := S0
  have hM1 := (hM.agree hF1).J (J1 := J2)
  have hS1 := hS1.J (J1 := J2)
  have hO1 := hF1.o hO
  have hm1 : K1 mm = 9 := hM1.1.1
  have ko1 : K1 o = 24 := hO1.1
  have no1 : N1 o = 1 := hO1.2.1
  have m1d : I1 mm 1 = d := hM1.2.2.2.2.1
  have m1r : I1 mm 2 = r := hM1.2.2.2.2.2.1
  have m1u : I1 mm 3 = u := hM1.2.2.2.2.2.2.1
  have m1g : I1 mm 4 = g := hM1.2.2.2.2.2.2.2.1
  have m1w : I1 mm 11 = w := hM1.2.2.2.2.2.2.2.2
  refine x_istore C (lv' := [_, _, _, _, _, _, _, _, _]) D_L_law_26.2.2.2.2.2.2.2.2.2.2.1 (Nat.le_of_ble_eq_true rfl) (by first | rfl | exact x_ok_q rfl) rfl ?_
  refine x_aload_n C D_L_law_26.2.2.2.2.2.2.2.2.2.2.2 rfl rfl (by first | exact Or.inr ⟨_, rfl⟩ | exact va_rf_or _ | exact Or.inl rfl) ?_
  refine x_callVi C (y := yX9_turningRoot) (c_X9_turningRootY l G mm n ar c sp tu pt al k hM1.1 hM1.2.1 hlr ht30) (ci := 8) hm1 (by decide) rfl rfl k_1117 k_1118 k_1119 k_67 k_1120 hd_X9_turningRoot ⟨(Nat.le_of_ble_eq_true rfl), (Nat.le_of_ble_eq_true rfl)⟩ rfl (by first | exact Nat.le_of_ble_eq_true rfl | simp [x_crf, Value.category]) rfl rfl D_L_law_27.1 ⟨Nat.le_trans (Nat.add_le_add_left (Nat.le_of_ble_eq_true rfl : _ ≤ 20) _) (by omega), Nat.le_trans (Nat.add_le_add_left (Nat.le_of_ble_eq_true rfl : _ ≤ 400) _) (by omega)⟩ (fun r_663 S_663 h_663 => ?_)
  refine x_widen (k' := k0 + 20 + 20) (n' := n0 + 400 + 400) (Nat.add_le_add_left (Nat.le_of_ble_eq_true rfl) _) (Nat.add_le_add_left (Nat.le_of_ble_eq_true rfl) _) ?_
  obtain ⟨rfl, rfl⟩ := h_663
  refine x_istore C (lv' := [_, _, _, _, _, _, _, _, _]) D_L_law_27.2.1 (Nat.le_of_ble_eq_true rfl) (by first | rfl | exact x_ok_q rfl) rfl ?_
  refine x_aload_n C D_L_law_27.2.2.1 rfl rfl (by first | exact Or.inr ⟨_, rfl⟩ | exact va_rf_or _ | exact Or.inl rfl) ?_
  refine x_callVi C (y := yX9_thrown) (c_X9_thrown l G mm hm1) (ci := 8) hm1 (by decide) rfl rfl k_962 k_963 k_964 k_67 k_965 hd_X9_thrown ⟨(Nat.le_of_ble_eq_true rfl), (Nat.le_of_ble_eq_true rfl)⟩ rfl (by first | exact Nat.le_of_ble_eq_true rfl | simp [x_crf, Value.category]) rfl rfl D_L_law_27.2.2.2.1 ⟨Nat.le_trans (Nat.add_le_add_left (Nat.le_of_ble_eq_true rfl : _ ≤ 20) _) (by omega), Nat.le_trans (Nat.add_le_add_left (Nat.le_of_ble_eq_true rfl : _ ≤ 400) _) (by omega)⟩ (fun r_669 S_669 h_669 => ?_)
  refine x_widen (k' := k0 + 20 + 20 + 20) (n' := n0 + 400 + 400 + 400) (Nat.add_le_add_left (Nat.le_of_ble_eq_true rfl) _) (Nat.add_le_add_left (Nat.le_of_ble_eq_true rfl) _) ?_
  obtain ⟨rfl, rfl⟩ := h_669
  refine x_eqi _ (show _ = nI 0 from x_u2_s _ _ _ _) ?_
  refine x_iload C D_L_law_27.2.2.2.2.1 rfl ?_
  refine x_icmp_eq C 679 D_L_law_27.2.2.2.2.2.1 (by decide) (fun c_674 => ?_) (fun c_674 => ?_)
  · skip
    refine x_iload C D_L_law_27.2.2.2.2.2.2.2.2.1 rfl ?_
    refine x_if_ne C 696 D_L_law_27.2.2.2.2.2.2.2.2.2.1 (by decide) (fun c_681 => ?_) (fun c_681 => ?_)
    · skip
      exact absurd rfl c_681
      --end
    · skip
      refine x_aload_n C D_L_law_27.2.2.2.2.2.2.2.2.2.2.1 rfl rfl (by first | exact Or.inr ⟨_, rfl⟩ | exact va_rf_or _ | exact Or.inl rfl) ?_
      refine x_iconst C (v := nI 0) D_L_law_27.2.2.2.2.2.2.2.2.2.2.2 (by decide +kernel) ?_
      refine x_lald C 0 ko1 rfl (by omega) (by omega) D_L_law_28.1 ?_
      refine x_eql _ (show J2 o 0 = _ by rw [eJ2, x_u2_s]) ?_
      refine x_iload C D_L_law_28.2.1 rfl ?_
      refine x_i2l C D_L_law_28.2.2.1 ?_
      refine x_lcmp C D_L_law_28.2.2.2.1 ?_
      refine x_eqi _ (lg_self _) ?_
      refine x_if_eq C 696 D_L_law_28.2.2.2.2.1 (by decide) (fun c_691 => ?_) (fun c_691 => ?_)
      · skip
        refine x_goto C 1254 D_L_law_28.2.2.2.2.2.2.2.1 (by decide) ?_
        exact x_drop9 (x_widen (by omega) (by omega) (kk _ _ (INV.q hS1 hM1 hO1 hB _)))
      · skip
        exact absurd rfl c_691
        --end
  · skip
    exact absurd rfl c_674
    --end
set_option maxHeartbeats 4000000 in
set_option maxRecDepth 100000 in
theorem lc_turningRootN {p : Program} {l : Launch} {ee : Env} {s : State} {mi : MethodId} {args : Array Value} {below : List Frame} {meth : Method} {cd : Code} {G : xG} {Z : State → Prop} {rt : Option FieldType} {k0 n0 bs L i x mm o : Nat} {xs : Nat → Int32} {K N : Nat → Nat} {I : Nat → Nat → Int32} {Q : Nat → Nat → Option Nat} {J : Nat → Nat → Int64} {ow : xO} {n : Nat} {c : Nat → Nat} {al : Nat → Bool} {sp tu pt : Nat → Nat} {m : Nat} {pc : Nat → Nat} {pa : Nat → Bool} {ps : Nat → Nat} {r d u g w : Int32} {ar : Nat → Nat} (C : XC p s mi args meth cd code 9 RL rt G) (hX : gX G s s.heap) (hlt : l.stackTraces = false) (hXs : va_X bs L xs s s.heap) (hbl : bs < s.heap.size) (hbA : ¬ gA G bs) (hi : i + 5 ≤ L) (hL : L ≤ 2560) (hk0 : k0 + 100 ≤ room_1.cells) (hn0 : n0 + 2000 ≤ room_1.slots) (hS : SY ow (K, N, I, Q, J) x n c al sp tu pt m pc pa ps r d u g w) (hM : KM ow (K, N, I, Q, J) mm ar n c al sp tu pt m pc pa ps r d u g w) (hO : K o = 24 ∧ N o = 1 ∧ ow o = 10) (hB : BNm n al tu m pa) (hlr : lastF (fun i => decide (tu i = 1)) n = none) (kk : ∀ (ow1 : xO) (S1 : xS), INV ow1 S1 x mm o → XW p l ee room_1 s mi args below meth cd G Z (k0 + 100) (n0 + 2000) S1 1254 [some (.ref bs), some (.ref x), some (.ref mm), some (.ref o), some (.int (nI i)), none, none, none, none] []) : XW p l ee room_1 s mi args below meth cd G Z k0 n0 (K, N, I, Q, J) 655 [some (.ref bs), some (.ref x), some (.ref mm), some (.ref o), some (.int (nI i)), none, none, none, none] [] := by
  obtain ⟨hKB, hPB, hUP, hPI, hn2, hcb, hm2, hsb, hx⟩ := hS.kb
  have hx : K x = 8 := hx
  have hmm : K mm = 9 := hM.1.1
  have ht30 : ∀ i, i < n → tu i < 2 ^ 30 := fun i hi => Nat.lt_trans (hsb i hi).2 (by decide)
  have hs30 : ∀ i, i < n → sp i < 2 ^ 30 := fun i hi => Nat.lt_trans (hsb i hi).1 (by decide)
  have hp30 : ∀ i, i < m → ps i < 2 ^ 30 := fun i hi => Nat.lt_trans (hPB i hi).2.2 (by decide)
  refine x_aload_n C D_L_law_26.2.2.2.2.2.2.2.1 rfl rfl (by first | exact Or.inr ⟨_, rfl⟩ | exact va_rf_or _ | exact Or.inl rfl) ?_
  refine x_aload_n C D_L_law_26.2.2.2.2.2.2.2.2.1 rfl rfl (by first | exact Or.inr ⟨_, rfl⟩ | exact va_rf_or _ | exact Or.inl rfl) ?_
  refine x_callW C hX (y := yL_turningRoot) (c_L_turningRootN l G ow x o n m c al sp tu pt pc ps pa r d u g w  hlt hS ⟨hO.1, hO.2.1⟩ hlr) k_793 k_794 k_59 kw_turningRoot hd_L_turningRoot ⟨(Nat.le_of_ble_eq_true rfl), (Nat.le_of_ble_eq_true rfl)⟩ rfl (by first | exact Nat.le_of_ble_eq_true rfl | simp [x_crf, Value.category]) rfl rfl D_L_law_26.2.2.2.2.2.2.2.2.2.1 ⟨Nat.le_trans (Nat.add_le_add_left (Nat.le_of_ble_eq_true rfl : _ ≤ 20) _) (by omega), Nat.le_trans (Nat.add_le_add_left (Nat.le_of_ble_eq_true rfl : _ ≤ 400) _) (by omega)⟩ (fun r_657 S_657 h_657 => ?_)
  refine x_widen (k' := k0 + 20) (n' := n0 + 400) (Nat.add_le_add_left (Nat.le_of_ble_eq_true rfl) _) (Nat.add_le_add_left (Nat.le_of_ble_eq_true rfl) _) ?_
  obtain ⟨rfl, ow1, hF1, hS1⟩ := h_657
  obtain ⟨K1, N1, I1, Q1, J1⟩ := S_657
  have hM1 := hM.agree hF1
  have hO1 := hF1.o hO
  have hm1 : K1 mm = 9 := hM1.1.1
  have m1d : I1 mm 1 = d := hM1.2.2.2.2.1
  have m1r : I1 mm 2 = r := hM1.2.2.2.2.2.1
  have m1u : I1 mm 3 = u := hM1.2.2.2.2.2.2.1
  have m1g : I1 mm 4 = g := hM1.2.2.2.2.2.2.2.1
  have m1w : I1 mm 11 = w := hM1.2.2.2.2.2.2.2.2
  refine x_istore C (lv' := [_, _, _, _, _, _, _, _, _]) D_L_law_26.2.2.2.2.2.2.2.2.2.2.1 (Nat.le_of_ble_eq_true rfl) (by first | rfl | exact x_ok_q rfl) rfl ?_
  refine x_aload_n C D_L_law_26.2.2.2.2.2.2.2.2.2.2.2 rfl rfl (by first | exact Or.inr ⟨_, rfl⟩ | exact va_rf_or _ | exact Or.inl rfl) ?_
  refine x_callVi C (y := yX9_turningRoot) (c_X9_turningRootN l G mm n ar c sp tu pt al  hM1.1 hM1.2.1 hlr ht30) (ci := 8) hm1 (by decide) rfl rfl k_1117 k_1118 k_1119 k_67 k_1120 hd_X9_turningRoot ⟨(Nat.le_of_ble_eq_true rfl), (Nat.le_of_ble_eq_true rfl)⟩ rfl (by first | exact Nat.le_of_ble_eq_true rfl | simp [x_crf, Value.category]) rfl rfl D_L_law_27.1 ⟨Nat.le_trans (Nat.add_le_add_left (Nat.le_of_ble_eq_true rfl : _ ≤ 20) _) (by omega), Nat.le_trans (Nat.add_le_add_left (Nat.le_of_ble_eq_true rfl : _ ≤ 400) _) (by omega)⟩ (fun r_663 S_663 h_663 => ?_)
  refine x_widen (k' := k0 + 20 + 20) (n' := n0 + 400 + 400) (Nat.add_le_add_left (Nat.le_of_ble_eq_true rfl) _) (Nat.add_le_add_left (Nat.le_of_ble_eq_true rfl) _) ?_
  obtain ⟨rfl, rfl⟩ := h_663
  refine x_istore C (lv' := [_, _, _, _, _, _, _, _, _]) D_L_law_27.2.1 (Nat.le_of_ble_eq_true rfl) (by first | rfl | exact x_ok_q rfl) rfl ?_
  refine x_aload_n C D_L_law_27.2.2.1 rfl rfl (by first | exact Or.inr ⟨_, rfl⟩ | exact va_rf_or _ | exact Or.inl rfl) ?_
  refine x_callVi C (y := yX9_thrown) (c_X9_thrown l G mm hm1) (ci := 8) hm1 (by decide) rfl rfl k_962 k_963 k_964 k_67 k_965 hd_X9_thrown ⟨(Nat.le_of_ble_eq_true rfl), (Nat.le_of_ble_eq_true rfl)⟩ rfl (by first | exact Nat.le_of_ble_eq_true rfl | simp [x_crf, Value.category]) rfl rfl D_L_law_27.2.2.2.1 ⟨Nat.le_trans (Nat.add_le_add_left (Nat.le_of_ble_eq_true rfl : _ ≤ 20) _) (by omega), Nat.le_trans (Nat.add_le_add_left (Nat.le_of_ble_eq_true rfl : _ ≤ 400) _) (by omega)⟩ (fun r_669 S_669 h_669 => ?_)
  refine x_widen (k' := k0 + 20 + 20 + 20) (n' := n0 + 400 + 400 + 400) (Nat.add_le_add_left (Nat.le_of_ble_eq_true rfl) _) (Nat.add_le_add_left (Nat.le_of_ble_eq_true rfl) _) ?_
  obtain ⟨rfl, rfl⟩ := h_669
  refine x_eqi _ (show _ = nI 1 from x_u2_s _ _ _ _) ?_
  refine x_iload C D_L_law_27.2.2.2.2.1 rfl ?_
  refine x_icmp_eq C 679 D_L_law_27.2.2.2.2.2.1 (by decide) (fun c_674 => ?_) (fun c_674 => ?_)
  · skip
    refine x_iload C D_L_law_27.2.2.2.2.2.2.2.2.1 rfl ?_
    refine x_if_ne C 696 D_L_law_27.2.2.2.2.2.2.2.2.2.1 (by decide) (fun c_681 => ?_) (fun c_681 => ?_)
    · skip
      refine x_goto C 1254 D_L_law_28.2.2.2.2.2.2.2.1 (by decide) ?_
      exact x_drop9 (x_widen (by omega) (by omega) (kk _ _ (INV.q hS1 hM1 hO1 hB _)))
    · skip
      exact absurd c_681 (by decide)
      --end
  · skip
    exact absurd rfl c_674
    --end
theorem hd_L_entry : yL_entry.cls ≠ "java/lang/invoke/MethodHandle" ∧ yL_entry.cls ≠ "java/lang/invoke/VarHandle" ∧ (parseMethodDescriptor yL_entry.desc).map (fun d => d.parameters.length) = some 4 := by decide +kernel
theorem hd_X9_entry : yX9_entry.cls ≠ "java/lang/invoke/MethodHandle" ∧ yX9_entry.cls ≠ "java/lang/invoke/VarHandle" ∧ (parseMethodDescriptor yX9_entry.desc).map (fun d => d.parameters.length) = some 2 := by decide +kernel
set_option maxHeartbeats 4000000 in
set_option maxRecDepth 100000 in
theorem lc_entryP {p : Program} {l : Launch} {ee : Env} {s : State} {mi : MethodId} {args : Array Value} {below : List Frame} {meth : Method} {cd : Code} {G : xG} {Z : State → Prop} {rt : Option FieldType} {k0 n0 bs L i x mm o : Nat} {xs : Nat → Int32} {K N : Nat → Nat} {I : Nat → Nat → Int32} {Q : Nat → Nat → Option Nat} {J : Nat → Nat → Int64} {ow : xO} {n : Nat} {c : Nat → Nat} {al : Nat → Bool} {sp tu pt : Nat → Nat} {m : Nat} {pc : Nat → Nat} {pa : Nat → Bool} {ps : Nat → Nat} {r d u g w : Int32} {ar : Nat → Nat} (C : XC p s mi args meth cd code 9 RL rt G) (hX : gX G s s.heap) (hlt : l.stackTraces = false) (hXs : va_X bs L xs s s.heap) (hbl : bs < s.heap.size) (hbA : ¬ gA G bs) (hi : i + 5 ≤ L) (hL : L ≤ 2560) (hk0 : k0 + 100 ≤ room_1.cells) (hn0 : n0 + 2000 ≤ room_1.slots) (hS : SY ow (K, N, I, Q, J) x n c al sp tu pt m pc pa ps r d u g w) (hM : KM ow (K, N, I, Q, J) mm ar n c al sp tu pt m pc pa ps r d u g w) (hO : K o = 24 ∧ N o = 1 ∧ ow o = 10) (hB : BNm n al tu m pa) (hp : cn (fun j => decide (nI (pt j) = xs (i + 1))) n = 0) (kk : ∀ (ow1 : xO) (S1 : xS), INV ow1 S1 x mm o → XW p l ee room_1 s mi args below meth cd G Z (k0 + 100) (n0 + 2000) S1 1254 [some (.ref bs), some (.ref x), some (.ref mm), some (.ref o), some (.int (nI i)), none, none, none, none] []) : XW p l ee room_1 s mi args below meth cd G Z k0 n0 (K, N, I, Q, J) 781 [some (.ref bs), some (.ref x), some (.ref mm), some (.ref o), some (.int (nI i)), none, none, none, none] [] := by
  obtain ⟨hKB, hPB, hUP, hPI, hn2, hcb, hm2, hsb, hx⟩ := hS.kb
  have hx : K x = 8 := hx
  have hmm : K mm = 9 := hM.1.1
  have ht30 : ∀ i, i < n → tu i < 2 ^ 30 := fun i hi => Nat.lt_trans (hsb i hi).2 (by decide)
  have hs30 : ∀ i, i < n → sp i < 2 ^ 30 := fun i hi => Nat.lt_trans (hsb i hi).1 (by decide)
  have hp30 : ∀ i, i < m → ps i < 2 ^ 30 := fun i hi => Nat.lt_trans (hPB i hi).2.2 (by decide)
  have eP : ∀ I1 : Nat → Nat → Int32, KV I1 mm ar n c al sp tu pt → cn (fun j => decide (I1 (ar 9) j = xs (i + 1))) n = cn (fun j => decide (nI (pt j) = xs (i + 1))) n := fun I1 hkv => cn_congr (fun j hj => by rw [hkv.2.2.2.2.2.2 j hj])
  refine x_aload_n C D_L_law_32.2.2.2.2.2.2.2.2.2.1 rfl rfl (by first | exact Or.inr ⟨_, rfl⟩ | exact va_rf_or _ | exact Or.inl rfl) ?_
  refine x_aload_n C D_L_law_32.2.2.2.2.2.2.2.2.2.2.1 rfl rfl (by first | exact Or.inr ⟨_, rfl⟩ | exact va_rf_or _ | exact Or.inl rfl) ?_
  refine x_iload C D_L_law_32.2.2.2.2.2.2.2.2.2.2.2 rfl ?_
  refine x_iconst C (v := nI 1) D_L_law_33.1 (by decide +kernel) ?_
  refine x_iadd C D_L_law_33.2.1 ?_
  first
  | refine x_eqi _ (nI_add _ _) ?_
  | skip
  refine x_sld C hXs hbl hbA _ rfl (by omega) hL D_L_law_33.2.2.1 ?_
  refine x_aload_n C D_L_law_33.2.2.2.1 rfl rfl (by first | exact Or.inr ⟨_, rfl⟩ | exact va_rf_or _ | exact Or.inl rfl) ?_
  refine x_iload C D_L_law_33.2.2.2.2.1 rfl ?_
  refine x_iconst C (v := nI 2) D_L_law_33.2.2.2.2.2.1 (by decide +kernel) ?_
  refine x_iadd C D_L_law_33.2.2.2.2.2.2.1 ?_
  first
  | refine x_eqi _ (nI_add _ _) ?_
  | skip
  refine x_sld C hXs hbl hbA _ rfl (by omega) hL D_L_law_33.2.2.2.2.2.2.2.1 ?_
  refine x_aload_n C D_L_law_33.2.2.2.2.2.2.2.2.1 rfl rfl (by first | exact Or.inr ⟨_, rfl⟩ | exact va_rf_or _ | exact Or.inl rfl) ?_
  refine x_callW C hX (y := yL_entry) (c_L_entryP l G ow x o n m c al sp tu pt pc ps pa r d u g w (xs (i + 1)) (xs (i + 2)) hlt hS ⟨hO.1, hO.2.1⟩ hp) k_814 k_815 k_59 kw_entry hd_L_entry ⟨(Nat.le_of_ble_eq_true rfl), (Nat.le_of_ble_eq_true rfl)⟩ rfl (by first | exact Nat.le_of_ble_eq_true rfl | simp [x_crf, Value.category]) rfl rfl D_L_law_33.2.2.2.2.2.2.2.2.2.1 ⟨Nat.le_trans (Nat.add_le_add_left (Nat.le_of_ble_eq_true rfl : _ ≤ 20) _) (by omega), Nat.le_trans (Nat.add_le_add_left (Nat.le_of_ble_eq_true rfl : _ ≤ 400) _) (by omega)⟩ (fun r_795 S_795 h_795 => ?_)
  refine x_widen (k' := k0 + 20) (n' := n0 + 400) (Nat.add_le_add_left (Nat.le_of_ble_eq_true rfl) _) (Nat.add_le_add_left (Nat.le_of_ble_eq_true rfl) _) ?_
  obtain ⟨rfl, ow1, hF1, hS1⟩ := h_795
  obtain ⟨K1, N1, I1, Q1, J1⟩ := S_795
  have hM1 := hM.agree hF1
  have hO1 := hF1.o hO
  have hm1 : K1 mm = 9 := hM1.1.1
  have m1d : I1 mm 1 = d := hM1.2.2.2.2.1
  have m1r : I1 mm 2 = r := hM1.2.2.2.2.2.1
  have m1u : I1 mm 3 = u := hM1.2.2.2.2.2.2.1
  have m1g : I1 mm 4 = g := hM1.2.2.2.2.2.2.2.1
  have m1w : I1 mm 11 = w := hM1.2.2.2.2.2.2.2.2
  refine x_istore C (lv' := [_, _, _, _, _, _, _, _, _]) D_L_law_33.2.2.2.2.2.2.2.2.2.2.1 (Nat.le_of_ble_eq_true rfl) (by first | rfl | exact x_ok_q rfl) rfl ?_
  refine x_aload_n C D_L_law_33.2.2.2.2.2.2.2.2.2.2.2 rfl rfl (by first | exact Or.inr ⟨_, rfl⟩ | exact va_rf_or _ | exact Or.inl rfl) ?_
  refine x_aload_n C D_L_law_34.1 rfl rfl (by first | exact Or.inr ⟨_, rfl⟩ | exact va_rf_or _ | exact Or.inl rfl) ?_
  refine x_iload C D_L_law_34.2.1 rfl ?_
  refine x_iconst C (v := nI 1) D_L_law_34.2.2.1 (by decide +kernel) ?_
  refine x_iadd C D_L_law_34.2.2.2.1 ?_
  first
  | refine x_eqi _ (nI_add _ _) ?_
  | skip
  refine x_sld C hXs hbl hbA _ rfl (by omega) hL D_L_law_34.2.2.2.2.1 ?_
  refine x_aload_n C D_L_law_34.2.2.2.2.2.1 rfl rfl (by first | exact Or.inr ⟨_, rfl⟩ | exact va_rf_or _ | exact Or.inl rfl) ?_
  refine x_iload C D_L_law_34.2.2.2.2.2.2.1 rfl ?_
  refine x_iconst C (v := nI 2) D_L_law_34.2.2.2.2.2.2.2.1 (by decide +kernel) ?_
  refine x_iadd C D_L_law_34.2.2.2.2.2.2.2.2.1 ?_
  first
  | refine x_eqi _ (nI_add _ _) ?_
  | skip
  refine x_sld C hXs hbl hbA _ rfl (by omega) hL D_L_law_34.2.2.2.2.2.2.2.2.2.1 ?_
  refine x_callVi C (y := yX9_entry) (c_X9_entryN l G mm n ar c sp tu pt al (xs (i + 1)) (xs (i + 2)) hM1.1 hM1.2.1 ((eP _ hM1.2.1).trans hp)) (ci := 8) hm1 (by decide) rfl rfl k_1133 k_1134 k_1135 k_67 k_1136 hd_X9_entry ⟨(Nat.le_of_ble_eq_true rfl), (Nat.le_of_ble_eq_true rfl)⟩ rfl (by first | exact Nat.le_of_ble_eq_true rfl | simp [x_crf, Value.category]) rfl rfl D_L_law_34.2.2.2.2.2.2.2.2.2.2.1 ⟨Nat.le_trans (Nat.add_le_add_left (Nat.le_of_ble_eq_true rfl : _ ≤ 20) _) (by omega), Nat.le_trans (Nat.add_le_add_left (Nat.le_of_ble_eq_true rfl : _ ≤ 400) _) (by omega)⟩ (fun r_813 S_813 h_813 => ?_)
  refine x_widen (k' := k0 + 20 + 20) (n' := n0 + 400 + 400) (Nat.add_le_add_left (Nat.le_of_ble_eq_true rfl) _) (Nat.add_le_add_left (Nat.le_of_ble_eq_true rfl) _) ?_
  obtain ⟨rfl, rfl⟩ := h_813
  refine x_istore C (lv' := [_, _, _, _, _, _, _, _, _]) D_L_law_34.2.2.2.2.2.2.2.2.2.2.2 (Nat.le_of_ble_eq_true rfl) (by first | rfl | exact x_ok_q rfl) rfl ?_
  refine x_aload_n C D_L_law_35.1 rfl rfl (by first | exact Or.inr ⟨_, rfl⟩ | exact va_rf_or _ | exact Or.inl rfl) ?_
  refine x_callVi C (y := yX9_thrown) (c_X9_thrown l G mm hm1) (ci := 8) hm1 (by decide) rfl rfl k_962 k_963 k_964 k_67 k_965 hd_X9_thrown ⟨(Nat.le_of_ble_eq_true rfl), (Nat.le_of_ble_eq_true rfl)⟩ rfl (by first | exact Nat.le_of_ble_eq_true rfl | simp [x_crf, Value.category]) rfl rfl D_L_law_35.2.1 ⟨Nat.le_trans (Nat.add_le_add_left (Nat.le_of_ble_eq_true rfl : _ ≤ 20) _) (by omega), Nat.le_trans (Nat.add_le_add_left (Nat.le_of_ble_eq_true rfl : _ ≤ 400) _) (by omega)⟩ (fun r_819 S_819 h_819 => ?_)
  refine x_widen (k' := k0 + 20 + 20 + 20) (n' := n0 + 400 + 400 + 400) (Nat.add_le_add_left (Nat.le_of_ble_eq_true rfl) _) (Nat.add_le_add_left (Nat.le_of_ble_eq_true rfl) _) ?_
  obtain ⟨rfl, rfl⟩ := h_819
  refine x_eqi _ (show _ = nI 1 from x_u2_s _ _ _ _) ?_
  refine x_iload C D_L_law_35.2.2.1 rfl ?_
  refine x_icmp_eq C 829 D_L_law_35.2.2.2.1 (by decide) (fun c_824 => ?_) (fun c_824 => ?_)
  · skip
    refine x_iload C D_L_law_35.2.2.2.2.2.2.1 rfl ?_
    refine x_if_ne C 846 D_L_law_35.2.2.2.2.2.2.2.1 (by decide) (fun c_831 => ?_) (fun c_831 => ?_)
    · skip
      refine x_goto C 1254 D_L_law_36.2.2.2.2.2.1 (by decide) ?_
      exact x_drop9 (x_widen (by omega) (by omega) (kk _ _ (INV.q hS1 hM1 hO1 hB _)))
    · skip
      exact absurd c_831 (by decide)
      --end
  · skip
    exact absurd rfl c_824
    --end
set_option maxHeartbeats 4000000 in
set_option maxRecDepth 100000 in
theorem lc_entryN {p : Program} {l : Launch} {ee : Env} {s : State} {mi : MethodId} {args : Array Value} {below : List Frame} {meth : Method} {cd : Code} {G : xG} {Z : State → Prop} {rt : Option FieldType} {k0 n0 bs L i x mm o : Nat} {xs : Nat → Int32} {K N : Nat → Nat} {I : Nat → Nat → Int32} {Q : Nat → Nat → Option Nat} {J : Nat → Nat → Int64} {ow : xO} {n : Nat} {c : Nat → Nat} {al : Nat → Bool} {sp tu pt : Nat → Nat} {m : Nat} {pc : Nat → Nat} {pa : Nat → Bool} {ps : Nat → Nat} {r d u g w : Int32} {ar : Nat → Nat} (C : XC p s mi args meth cd code 9 RL rt G) (hX : gX G s s.heap) (hlt : l.stackTraces = false) (hXs : va_X bs L xs s s.heap) (hbl : bs < s.heap.size) (hbA : ¬ gA G bs) (hi : i + 5 ≤ L) (hL : L ≤ 2560) (hk0 : k0 + 100 ≤ room_1.cells) (hn0 : n0 + 2000 ≤ room_1.slots) (hS : SY ow (K, N, I, Q, J) x n c al sp tu pt m pc pa ps r d u g w) (hM : KM ow (K, N, I, Q, J) mm ar n c al sp tu pt m pc pa ps r d u g w) (hO : K o = 24 ∧ N o = 1 ∧ ow o = 10) (hB : BNm n al tu m pa) (hp : 0 < cn (fun j => decide (nI (pt j) = xs (i + 1))) n) (hz : xs (i + 2) < 0 ∨ nI (cn (fun j => decide (nI (pt j) = xs (i + 1))) n) ≤ xs (i + 2)) (kk : ∀ (ow1 : xO) (S1 : xS), INV ow1 S1 x mm o → XW p l ee room_1 s mi args below meth cd G Z (k0 + 100) (n0 + 2000) S1 1254 [some (.ref bs), some (.ref x), some (.ref mm), some (.ref o), some (.int (nI i)), none, none, none, none] []) : XW p l ee room_1 s mi args below meth cd G Z k0 n0 (K, N, I, Q, J) 781 [some (.ref bs), some (.ref x), some (.ref mm), some (.ref o), some (.int (nI i)), none, none, none, none] [] := by
  obtain ⟨hKB, hPB, hUP, hPI, hn2, hcb, hm2, hsb, hx⟩ := hS.kb
  have hx : K x = 8 := hx
  have hmm : K mm = 9 := hM.1.1
  have ht30 : ∀ i, i < n → tu i < 2 ^ 30 := fun i hi => Nat.lt_trans (hsb i hi).2 (by decide)
  have hs30 : ∀ i, i < n → sp i < 2 ^ 30 := fun i hi => Nat.lt_trans (hsb i hi).1 (by decide)
  have hp30 : ∀ i, i < m → ps i < 2 ^ 30 := fun i hi => Nat.lt_trans (hPB i hi).2.2 (by decide)
  have eP : ∀ I1 : Nat → Nat → Int32, KV I1 mm ar n c al sp tu pt → cn (fun j => decide (I1 (ar 9) j = xs (i + 1))) n = cn (fun j => decide (nI (pt j) = xs (i + 1))) n := fun I1 hkv => cn_congr (fun j hj => by rw [hkv.2.2.2.2.2.2 j hj])
  refine x_aload_n C D_L_law_32.2.2.2.2.2.2.2.2.2.1 rfl rfl (by first | exact Or.inr ⟨_, rfl⟩ | exact va_rf_or _ | exact Or.inl rfl) ?_
  refine x_aload_n C D_L_law_32.2.2.2.2.2.2.2.2.2.2.1 rfl rfl (by first | exact Or.inr ⟨_, rfl⟩ | exact va_rf_or _ | exact Or.inl rfl) ?_
  refine x_iload C D_L_law_32.2.2.2.2.2.2.2.2.2.2.2 rfl ?_
  refine x_iconst C (v := nI 1) D_L_law_33.1 (by decide +kernel) ?_
  refine x_iadd C D_L_law_33.2.1 ?_
  first
  | refine x_eqi _ (nI_add _ _) ?_
  | skip
  refine x_sld C hXs hbl hbA _ rfl (by omega) hL D_L_law_33.2.2.1 ?_
  refine x_aload_n C D_L_law_33.2.2.2.1 rfl rfl (by first | exact Or.inr ⟨_, rfl⟩ | exact va_rf_or _ | exact Or.inl rfl) ?_
  refine x_iload C D_L_law_33.2.2.2.2.1 rfl ?_
  refine x_iconst C (v := nI 2) D_L_law_33.2.2.2.2.2.1 (by decide +kernel) ?_
  refine x_iadd C D_L_law_33.2.2.2.2.2.2.1 ?_
  first
  | refine x_eqi _ (nI_add _ _) ?_
  | skip
  refine x_sld C hXs hbl hbA _ rfl (by omega) hL D_L_law_33.2.2.2.2.2.2.2.1 ?_
  refine x_aload_n C D_L_law_33.2.2.2.2.2.2.2.2.1 rfl rfl (by first | exact Or.inr ⟨_, rfl⟩ | exact va_rf_or _ | exact Or.inl rfl) ?_
  refine x_callW C hX (y := yL_entry) (c_L_entryN l G ow x o n m c al sp tu pt pc ps pa r d u g w (xs (i + 1)) (xs (i + 2)) hlt hS ⟨hO.1, hO.2.1⟩ hp hz) k_814 k_815 k_59 kw_entry hd_L_entry ⟨(Nat.le_of_ble_eq_true rfl), (Nat.le_of_ble_eq_true rfl)⟩ rfl (by first | exact Nat.le_of_ble_eq_true rfl | simp [x_crf, Value.category]) rfl rfl D_L_law_33.2.2.2.2.2.2.2.2.2.1 ⟨Nat.le_trans (Nat.add_le_add_left (Nat.le_of_ble_eq_true rfl : _ ≤ 20) _) (by omega), Nat.le_trans (Nat.add_le_add_left (Nat.le_of_ble_eq_true rfl : _ ≤ 400) _) (by omega)⟩ (fun r_795 S_795 h_795 => ?_)
  refine x_widen (k' := k0 + 20) (n' := n0 + 400) (Nat.add_le_add_left (Nat.le_of_ble_eq_true rfl) _) (Nat.add_le_add_left (Nat.le_of_ble_eq_true rfl) _) ?_
  obtain ⟨rfl, ow1, hF1, hS1⟩ := h_795
  obtain ⟨K1, N1, I1, Q1, J1⟩ := S_795
  have hM1 := hM.agree hF1
  have hO1 := hF1.o hO
  have hm1 : K1 mm = 9 := hM1.1.1
  have m1d : I1 mm 1 = d := hM1.2.2.2.2.1
  have m1r : I1 mm 2 = r := hM1.2.2.2.2.2.1
  have m1u : I1 mm 3 = u := hM1.2.2.2.2.2.2.1
  have m1g : I1 mm 4 = g := hM1.2.2.2.2.2.2.2.1
  have m1w : I1 mm 11 = w := hM1.2.2.2.2.2.2.2.2
  refine x_istore C (lv' := [_, _, _, _, _, _, _, _, _]) D_L_law_33.2.2.2.2.2.2.2.2.2.2.1 (Nat.le_of_ble_eq_true rfl) (by first | rfl | exact x_ok_q rfl) rfl ?_
  refine x_aload_n C D_L_law_33.2.2.2.2.2.2.2.2.2.2.2 rfl rfl (by first | exact Or.inr ⟨_, rfl⟩ | exact va_rf_or _ | exact Or.inl rfl) ?_
  refine x_aload_n C D_L_law_34.1 rfl rfl (by first | exact Or.inr ⟨_, rfl⟩ | exact va_rf_or _ | exact Or.inl rfl) ?_
  refine x_iload C D_L_law_34.2.1 rfl ?_
  refine x_iconst C (v := nI 1) D_L_law_34.2.2.1 (by decide +kernel) ?_
  refine x_iadd C D_L_law_34.2.2.2.1 ?_
  first
  | refine x_eqi _ (nI_add _ _) ?_
  | skip
  refine x_sld C hXs hbl hbA _ rfl (by omega) hL D_L_law_34.2.2.2.2.1 ?_
  refine x_aload_n C D_L_law_34.2.2.2.2.2.1 rfl rfl (by first | exact Or.inr ⟨_, rfl⟩ | exact va_rf_or _ | exact Or.inl rfl) ?_
  refine x_iload C D_L_law_34.2.2.2.2.2.2.1 rfl ?_
  refine x_iconst C (v := nI 2) D_L_law_34.2.2.2.2.2.2.2.1 (by decide +kernel) ?_
  refine x_iadd C D_L_law_34.2.2.2.2.2.2.2.2.1 ?_
  first
  | refine x_eqi _ (nI_add _ _) ?_
  | skip
  refine x_sld C hXs hbl hbA _ rfl (by omega) hL D_L_law_34.2.2.2.2.2.2.2.2.2.1 ?_
  refine x_callVi C (y := yX9_entry) (c_X9_entryX l G mm n ar c sp tu pt al (xs (i + 1)) (xs (i + 2)) hM1.1 hM1.2.1 (by rw [eP _ hM1.2.1]; exact hp) (by rw [eP _ hM1.2.1]; exact hz)) (ci := 8) hm1 (by decide) rfl rfl k_1133 k_1134 k_1135 k_67 k_1136 hd_X9_entry ⟨(Nat.le_of_ble_eq_true rfl), (Nat.le_of_ble_eq_true rfl)⟩ rfl (by first | exact Nat.le_of_ble_eq_true rfl | simp [x_crf, Value.category]) rfl rfl D_L_law_34.2.2.2.2.2.2.2.2.2.2.1 ⟨Nat.le_trans (Nat.add_le_add_left (Nat.le_of_ble_eq_true rfl : _ ≤ 20) _) (by omega), Nat.le_trans (Nat.add_le_add_left (Nat.le_of_ble_eq_true rfl : _ ≤ 400) _) (by omega)⟩ (fun r_813 S_813 h_813 => ?_)
  refine x_widen (k' := k0 + 20 + 20) (n' := n0 + 400 + 400) (Nat.add_le_add_left (Nat.le_of_ble_eq_true rfl) _) (Nat.add_le_add_left (Nat.le_of_ble_eq_true rfl) _) ?_
  obtain ⟨rfl, rfl⟩ := h_813
  refine x_istore C (lv' := [_, _, _, _, _, _, _, _, _]) D_L_law_34.2.2.2.2.2.2.2.2.2.2.2 (Nat.le_of_ble_eq_true rfl) (by first | rfl | exact x_ok_q rfl) rfl ?_
  refine x_aload_n C D_L_law_35.1 rfl rfl (by first | exact Or.inr ⟨_, rfl⟩ | exact va_rf_or _ | exact Or.inl rfl) ?_
  refine x_callVi C (y := yX9_thrown) (c_X9_thrown l G mm hm1) (ci := 8) hm1 (by decide) rfl rfl k_962 k_963 k_964 k_67 k_965 hd_X9_thrown ⟨(Nat.le_of_ble_eq_true rfl), (Nat.le_of_ble_eq_true rfl)⟩ rfl (by first | exact Nat.le_of_ble_eq_true rfl | simp [x_crf, Value.category]) rfl rfl D_L_law_35.2.1 ⟨Nat.le_trans (Nat.add_le_add_left (Nat.le_of_ble_eq_true rfl : _ ≤ 20) _) (by omega), Nat.le_trans (Nat.add_le_add_left (Nat.le_of_ble_eq_true rfl : _ ≤ 400) _) (by omega)⟩ (fun r_819 S_819 h_819 => ?_)
  refine x_widen (k' := k0 + 20 + 20 + 20) (n' := n0 + 400 + 400 + 400) (Nat.add_le_add_left (Nat.le_of_ble_eq_true rfl) _) (Nat.add_le_add_left (Nat.le_of_ble_eq_true rfl) _) ?_
  obtain ⟨rfl, rfl⟩ := h_819
  refine x_eqi _ (show _ = nI 2 from x_u2_s _ _ _ _) ?_
  refine x_iload C D_L_law_35.2.2.1 rfl ?_
  refine x_icmp_eq C 829 D_L_law_35.2.2.2.1 (by decide) (fun c_824 => ?_) (fun c_824 => ?_)
  · skip
    refine x_iload C D_L_law_35.2.2.2.2.2.2.1 rfl ?_
    refine x_if_ne C 846 D_L_law_35.2.2.2.2.2.2.2.1 (by decide) (fun c_831 => ?_) (fun c_831 => ?_)
    · skip
      refine x_goto C 1254 D_L_law_36.2.2.2.2.2.1 (by decide) ?_
      exact x_drop9 (x_widen (by omega) (by omega) (kk _ _ (INV.q hS1 hM1 hO1 hB _)))
    · skip
      exact absurd c_831 (by decide)
      --end
  · skip
    exact absurd rfl c_824
    --end
set_option maxHeartbeats 4000000 in
set_option maxRecDepth 100000 in
theorem lc_entryY {p : Program} {l : Launch} {ee : Env} {s : State} {mi : MethodId} {args : Array Value} {below : List Frame} {meth : Method} {cd : Code} {G : xG} {Z : State → Prop} {rt : Option FieldType} {k0 n0 bs L i x mm o : Nat} {xs : Nat → Int32} {K N : Nat → Nat} {I : Nat → Nat → Int32} {Q : Nat → Nat → Option Nat} {J : Nat → Nat → Int64} {ow : xO} {n : Nat} {c : Nat → Nat} {al : Nat → Bool} {sp tu pt : Nat → Nat} {m : Nat} {pc : Nat → Nat} {pa : Nat → Bool} {ps : Nat → Nat} {r d u g w : Int32} {ar : Nat → Nat} (C : XC p s mi args meth cd code 9 RL rt G) (hX : gX G s s.heap) (hlt : l.stackTraces = false) (hXs : va_X bs L xs s s.heap) (hbl : bs < s.heap.size) (hbA : ¬ gA G bs) (hi : i + 5 ≤ L) (hL : L ≤ 2560) (hk0 : k0 + 100 ≤ room_1.cells) (hn0 : n0 + 2000 ≤ room_1.slots) (hS : SY ow (K, N, I, Q, J) x n c al sp tu pt m pc pa ps r d u g w) (hM : KM ow (K, N, I, Q, J) mm ar n c al sp tu pt m pc pa ps r d u g w) (hO : K o = 24 ∧ N o = 1 ∧ ow o = 10) (hB : BNm n al tu m pa) (j : Nat) (hp : 0 < cn (fun j => decide (nI (pt j) = xs (i + 1))) n) (hj : j < cn (fun j => decide (nI (pt j) = xs (i + 1))) n) (y2 : xs (i + 2) = nI j) (kk : ∀ (ow1 : xO) (S1 : xS), INV ow1 S1 x mm o → XW p l ee room_1 s mi args below meth cd G Z (k0 + 100) (n0 + 2000) S1 1254 [some (.ref bs), some (.ref x), some (.ref mm), some (.ref o), some (.int (nI i)), none, none, none, none] []) : XW p l ee room_1 s mi args below meth cd G Z k0 n0 (K, N, I, Q, J) 781 [some (.ref bs), some (.ref x), some (.ref mm), some (.ref o), some (.int (nI i)), none, none, none, none] [] := by
  obtain ⟨hKB, hPB, hUP, hPI, hn2, hcb, hm2, hsb, hx⟩ := hS.kb
  have hx : K x = 8 := hx
  have hmm : K mm = 9 := hM.1.1
  have ht30 : ∀ i, i < n → tu i < 2 ^ 30 := fun i hi => Nat.lt_trans (hsb i hi).2 (by decide)
  have hs30 : ∀ i, i < n → sp i < 2 ^ 30 := fun i hi => Nat.lt_trans (hsb i hi).1 (by decide)
  have hp30 : ∀ i, i < m → ps i < 2 ^ 30 := fun i hi => Nat.lt_trans (hPB i hi).2.2 (by decide)
  have eP : ∀ I1 : Nat → Nat → Int32, KV I1 mm ar n c al sp tu pt → cn (fun j => decide (I1 (ar 9) j = xs (i + 1))) n = cn (fun j => decide (nI (pt j) = xs (i + 1))) n := fun I1 hkv => cn_congr (fun j hj => by rw [hkv.2.2.2.2.2.2 j hj])
  refine x_aload_n C D_L_law_32.2.2.2.2.2.2.2.2.2.1 rfl rfl (by first | exact Or.inr ⟨_, rfl⟩ | exact va_rf_or _ | exact Or.inl rfl) ?_
  refine x_aload_n C D_L_law_32.2.2.2.2.2.2.2.2.2.2.1 rfl rfl (by first | exact Or.inr ⟨_, rfl⟩ | exact va_rf_or _ | exact Or.inl rfl) ?_
  refine x_iload C D_L_law_32.2.2.2.2.2.2.2.2.2.2.2 rfl ?_
  refine x_iconst C (v := nI 1) D_L_law_33.1 (by decide +kernel) ?_
  refine x_iadd C D_L_law_33.2.1 ?_
  first
  | refine x_eqi _ (nI_add _ _) ?_
  | skip
  refine x_sld C hXs hbl hbA _ rfl (by omega) hL D_L_law_33.2.2.1 ?_
  refine x_aload_n C D_L_law_33.2.2.2.1 rfl rfl (by first | exact Or.inr ⟨_, rfl⟩ | exact va_rf_or _ | exact Or.inl rfl) ?_
  refine x_iload C D_L_law_33.2.2.2.2.1 rfl ?_
  refine x_iconst C (v := nI 2) D_L_law_33.2.2.2.2.2.1 (by decide +kernel) ?_
  refine x_iadd C D_L_law_33.2.2.2.2.2.2.1 ?_
  first
  | refine x_eqi _ (nI_add _ _) ?_
  | skip
  refine x_sld C hXs hbl hbA _ rfl (by omega) hL D_L_law_33.2.2.2.2.2.2.2.1 ?_
  refine x_eqi _ y2 ?_
  refine x_aload_n C D_L_law_33.2.2.2.2.2.2.2.2.1 rfl rfl (by first | exact Or.inr ⟨_, rfl⟩ | exact va_rf_or _ | exact Or.inl rfl) ?_
  refine x_callW C hX (y := yL_entry) (c_L_entryY l G ow x o n m c al sp tu pt pc ps pa r d u g w (xs (i + 1)) j hlt hS ⟨hO.1, hO.2.1⟩ hp hj) k_814 k_815 k_59 kw_entry hd_L_entry ⟨(Nat.le_of_ble_eq_true rfl), (Nat.le_of_ble_eq_true rfl)⟩ rfl (by first | exact Nat.le_of_ble_eq_true rfl | simp [x_crf, Value.category]) rfl rfl D_L_law_33.2.2.2.2.2.2.2.2.2.1 ⟨Nat.le_trans (Nat.add_le_add_left (Nat.le_of_ble_eq_true rfl : _ ≤ 20) _) (by omega), Nat.le_trans (Nat.add_le_add_left (Nat.le_of_ble_eq_true rfl : _ ≤ 400) _) (by omega)⟩ (fun r_795 S_795 h_795 => ?_)
  refine x_widen (k' := k0 + 20) (n' := n0 + 400) (Nat.add_le_add_left (Nat.le_of_ble_eq_true rfl) _) (Nat.add_le_add_left (Nat.le_of_ble_eq_true rfl) _) ?_
  obtain ⟨rfl, S0, J2, rfl, eJ2, ow1, hF1, hS1⟩ := h_795
  obtain ⟨K1, N1, I1, Q1, J1⟩ := S0
  have hM1 := (hM.agree hF1).J (J1 := J2)
  have hS1 := hS1.J (J1 := J2)
  have hO1 := hF1.o hO
  have hm1 : K1 mm = 9 := hM1.1.1
  have ko1 : K1 o = 24 := hO1.1
  have no1 : N1 o = 1 := hO1.2.1
  have m1d : I1 mm 1 = d := hM1.2.2.2.2.1
  have m1r : I1 mm 2 = r := hM1.2.2.2.2.2.1
  have m1u : I1 mm 3 = u := hM1.2.2.2.2.2.2.1
  have m1g : I1 mm 4 = g := hM1.2.2.2.2.2.2.2.1
  have m1w : I1 mm 11 = w := hM1.2.2.2.2.2.2.2.2
  refine x_istore C (lv' := [_, _, _, _, _, _, _, _, _]) D_L_law_33.2.2.2.2.2.2.2.2.2.2.1 (Nat.le_of_ble_eq_true rfl) (by first | rfl | exact x_ok_q rfl) rfl ?_
  refine x_aload_n C D_L_law_33.2.2.2.2.2.2.2.2.2.2.2 rfl rfl (by first | exact Or.inr ⟨_, rfl⟩ | exact va_rf_or _ | exact Or.inl rfl) ?_
  refine x_aload_n C D_L_law_34.1 rfl rfl (by first | exact Or.inr ⟨_, rfl⟩ | exact va_rf_or _ | exact Or.inl rfl) ?_
  refine x_iload C D_L_law_34.2.1 rfl ?_
  refine x_iconst C (v := nI 1) D_L_law_34.2.2.1 (by decide +kernel) ?_
  refine x_iadd C D_L_law_34.2.2.2.1 ?_
  first
  | refine x_eqi _ (nI_add _ _) ?_
  | skip
  refine x_sld C hXs hbl hbA _ rfl (by omega) hL D_L_law_34.2.2.2.2.1 ?_
  refine x_aload_n C D_L_law_34.2.2.2.2.2.1 rfl rfl (by first | exact Or.inr ⟨_, rfl⟩ | exact va_rf_or _ | exact Or.inl rfl) ?_
  refine x_iload C D_L_law_34.2.2.2.2.2.2.1 rfl ?_
  refine x_iconst C (v := nI 2) D_L_law_34.2.2.2.2.2.2.2.1 (by decide +kernel) ?_
  refine x_iadd C D_L_law_34.2.2.2.2.2.2.2.2.1 ?_
  first
  | refine x_eqi _ (nI_add _ _) ?_
  | skip
  refine x_sld C hXs hbl hbA _ rfl (by omega) hL D_L_law_34.2.2.2.2.2.2.2.2.2.1 ?_
  refine x_eqi _ y2 ?_
  refine x_callVi C (y := yX9_entry) (c_X9_entryY l G mm n ar c sp tu pt al (xs (i + 1)) j hM1.1 hM1.2.1 (by rw [eP _ hM1.2.1]; exact hj)) (ci := 8) hm1 (by decide) rfl rfl k_1133 k_1134 k_1135 k_67 k_1136 hd_X9_entry ⟨(Nat.le_of_ble_eq_true rfl), (Nat.le_of_ble_eq_true rfl)⟩ rfl (by first | exact Nat.le_of_ble_eq_true rfl | simp [x_crf, Value.category]) rfl rfl D_L_law_34.2.2.2.2.2.2.2.2.2.2.1 ⟨Nat.le_trans (Nat.add_le_add_left (Nat.le_of_ble_eq_true rfl : _ ≤ 20) _) (by omega), Nat.le_trans (Nat.add_le_add_left (Nat.le_of_ble_eq_true rfl : _ ≤ 400) _) (by omega)⟩ (fun r_813 S_813 h_813 => ?_)
  refine x_widen (k' := k0 + 20 + 20) (n' := n0 + 400 + 400) (Nat.add_le_add_left (Nat.le_of_ble_eq_true rfl) _) (Nat.add_le_add_left (Nat.le_of_ble_eq_true rfl) _) ?_
  obtain ⟨rfl, rfl⟩ := h_813
  refine x_eqi _ (congrArg cv1 (congrArg c (selF_congr (fun z hz => by rw [hM1.2.1.2.2.2.2.2.2 z hz])))) ?_
  refine x_istore C (lv' := [_, _, _, _, _, _, _, _, _]) D_L_law_34.2.2.2.2.2.2.2.2.2.2.2 (Nat.le_of_ble_eq_true rfl) (by first | rfl | exact x_ok_q rfl) rfl ?_
  refine x_aload_n C D_L_law_35.1 rfl rfl (by first | exact Or.inr ⟨_, rfl⟩ | exact va_rf_or _ | exact Or.inl rfl) ?_
  refine x_callVi C (y := yX9_thrown) (c_X9_thrown l G mm hm1) (ci := 8) hm1 (by decide) rfl rfl k_962 k_963 k_964 k_67 k_965 hd_X9_thrown ⟨(Nat.le_of_ble_eq_true rfl), (Nat.le_of_ble_eq_true rfl)⟩ rfl (by first | exact Nat.le_of_ble_eq_true rfl | simp [x_crf, Value.category]) rfl rfl D_L_law_35.2.1 ⟨Nat.le_trans (Nat.add_le_add_left (Nat.le_of_ble_eq_true rfl : _ ≤ 20) _) (by omega), Nat.le_trans (Nat.add_le_add_left (Nat.le_of_ble_eq_true rfl : _ ≤ 400) _) (by omega)⟩ (fun r_819 S_819 h_819 => ?_)
  refine x_widen (k' := k0 + 20 + 20 + 20) (n' := n0 + 400 + 400 + 400) (Nat.add_le_add_left (Nat.le_of_ble_eq_true rfl) _) (Nat.add_le_add_left (Nat.le_of_ble_eq_true rfl) _) ?_
  obtain ⟨rfl, rfl⟩ := h_819
  refine x_eqi _ (show _ = nI 0 from x_u2_s _ _ _ _) ?_
  refine x_iload C D_L_law_35.2.2.1 rfl ?_
  refine x_icmp_eq C 829 D_L_law_35.2.2.2.1 (by decide) (fun c_824 => ?_) (fun c_824 => ?_)
  · skip
    refine x_iload C D_L_law_35.2.2.2.2.2.2.1 rfl ?_
    refine x_if_ne C 846 D_L_law_35.2.2.2.2.2.2.2.1 (by decide) (fun c_831 => ?_) (fun c_831 => ?_)
    · skip
      exact absurd rfl c_831
      --end
    · skip
      refine x_aload_n C D_L_law_35.2.2.2.2.2.2.2.2.1 rfl rfl (by first | exact Or.inr ⟨_, rfl⟩ | exact va_rf_or _ | exact Or.inl rfl) ?_
      refine x_iconst C (v := nI 0) D_L_law_35.2.2.2.2.2.2.2.2.2.1 (by decide +kernel) ?_
      refine x_lald C 0 ko1 rfl (by omega) (by omega) D_L_law_35.2.2.2.2.2.2.2.2.2.2.1 ?_
      refine x_eql _ (show J2 o 0 = _ by rw [eJ2, x_u2_s]) ?_
      refine x_iload C D_L_law_35.2.2.2.2.2.2.2.2.2.2.2 rfl ?_
      refine x_i2l C D_L_law_36.1 ?_
      refine x_lcmp C D_L_law_36.2.1 ?_
      refine x_eqi _ (lg_self _) ?_
      refine x_if_eq C 846 D_L_law_36.2.2.1 (by decide) (fun c_841 => ?_) (fun c_841 => ?_)
      · skip
        refine x_goto C 1254 D_L_law_36.2.2.2.2.2.1 (by decide) ?_
        exact x_drop9 (x_widen (by omega) (by omega) (kk _ _ (INV.q hS1 hM1 hO1 hB _)))
      · skip
        exact absurd rfl c_841
        --end
  · skip
    exact absurd rfl c_824
    --end
