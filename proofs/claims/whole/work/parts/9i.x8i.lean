def owN (K : Nat → Nat) (ow : xO) (c : Nat) : xO := fun q => if K q = 0 then c else ow q
/-- all that was there is as it was -/
def KPT (S S1 : xS) : Prop := S1.2.2.2.2 = S.2.2.2.2 ∧ ∀ a, S.1 a ≠ 0 → S1.1 a = S.1 a ∧ S1.2.1 a = S.2.1 a ∧ S1.2.2.1 a = S.2.2.1 a ∧ S1.2.2.2.1 a = S.2.2.2.1 a
theorem KPT.fro {S S1 : xS} (h : KPT S S1) (c : Nat) (ow : xO) : FRO c ow (owN S.1 ow c) S S1 := FRO.of h.1 fun q hq => by
  obtain ⟨h1, h2, h3, h4⟩ := h.2 q hq
  exact ⟨by unfold owN; rw [if_neg hq], h1, h2, fun _ => ⟨h3, h4⟩⟩
theorem owN_n {K : Nat → Nat} {ow : xO} {c q : Nat} (h : K q = 0) : owN K ow c q = c := by unfold owN; rw [if_pos h]
theorem owN_o {K : Nat → Nat} {ow : xO} {c q : Nat} (h : K q ≠ 0) : owN K ow c q = ow q := by unfold owN; rw [if_neg h]
theorem up_0 {K : Nat → Nat} {a v q : Nat} (h : x_up K a (v + 1) q = 0) : q ≠ a ∧ K q = 0 := by
  have hne : q ≠ a := fun e => by rw [e, x_up_s] at h; omega
  rw [x_up_n _ _ hne] at h
  exact ⟨hne, h⟩
theorem KPT.new {K N K1 N1 : Nat → Nat} {I I1 : Nat → Nat → Int32} {Q Q1 : Nat → Nat → Option Nat} {J : Nat → Nat → Int64} {t ci : Nat} (h0 : K t = 0) (hf : ∀ a, x_up K t (ci + 1) a ≠ 0 → a ≠ t → K1 a = x_up K t (ci + 1) a ∧ N1 a = N a ∧ I1 a = x_up I t (fun _ => 0) a ∧ Q1 a = x_up Q t (fun _ => none) a) : KPT (K, N, I, Q, J) (K1, N1, I1, Q1, J) := ⟨rfl, fun a ha => by
  have hne : a ≠ t := fun e => ha (by rw [e]; exact h0)
  obtain ⟨h1, h2, h3, h4⟩ := hf a (by rw [x_up_n _ _ hne]; exact ha) hne
  rw [x_up_n _ _ hne] at h1 h3 h4
  exact ⟨h1, h2, h3, h4⟩⟩
theorem init_1 {K K1 N1 : Nat → Nat} {I1 : Nat → Nat → Int32} {Q1 : Nat → Nat → Option Nat} {J : Nat → Nat → Int64} {t pq pn rw_ rn : Nat} (ow : xO) (c sp : Nat → Nat) (al : Nat → Bool) (h0 : K t = 0) (hp : x_up K t 2 pq = 0 ∧ x_up K t 2 pn = 0 ∧ x_up K t 2 rw_ = 0 ∧ x_up K t 2 rn = 0) (hz : LZ K1 N1 Q1 t 2 pq pn rw_ rn 200) (hq : Q1 t 2 = none) (h3 : I1 t 3 = nI 0) : KK1 (owN K ow 1) (K1, N1, I1, Q1, J) t 0 c al sp := by
  refine ⟨fun _ => 0, .leaf (), pq, pn, rw_, rn, ⟨⟨hz, hq, trivial, List.nodup_nil, fun q h => by simp [ino] at h, fun u h => by simp [ino] at h, by simp [sz], by omega⟩, fun q h => owN_n ?_⟩, ?_, fun i hi => by omega, h3⟩
  · rcases h with h | h | h | h | h | h
    · rw [h]; exact h0
    · rw [h]; exact (up_0 hp.1).2
    · rw [h]; exact (up_0 hp.2.1).2
    · rw [h]; exact (up_0 hp.2.2.1).2
    · rw [h]; exact (up_0 hp.2.2.2).2
    · simp [ino] at h
  · exact ⟨List.Perm.refl _, List.Pairwise.nil, List.nodup_nil, fun i j _ hj => by omega, fun i hi => by omega, by simp [ht]⟩
theorem init_5 {K K1 N1 : Nat → Nat} {I1 : Nat → Nat → Int32} {Q1 : Nat → Nat → Option Nat} {J : Nat → Nat → Int64} {t pq pn rw_ rn : Nat} (ow : xO) (pc ps : Nat → Nat) (pa : Nat → Bool) (h0 : K t = 0) (hp : x_up K t 5 pq = 0 ∧ x_up K t 5 pn = 0 ∧ x_up K t 5 rw_ = 0 ∧ x_up K t 5 rn = 0) (hz : LZ K1 N1 Q1 t 5 pq pn rw_ rn 120) (hq : Q1 t 2 = none) (h3 : I1 t 3 = nI 0) : KK5 (owN K ow 5) (K1, N1, I1, Q1, J) t 0 pc pa ps := by
  refine ⟨fun _ => 0, .leaf (), pq, pn, rw_, rn, ⟨⟨hz, hq, trivial, List.nodup_nil, fun q h => by simp [ino] at h, fun u h => by simp [ino] at h, by simp [sz], by omega⟩, fun q h => owN_n ?_⟩, ?_, fun i hi => by omega, h3⟩
  · rcases h with h | h | h | h | h | h
    · rw [h]; exact h0
    · rw [h]; exact (up_0 hp.1).2
    · rw [h]; exact (up_0 hp.2.1).2
    · rw [h]; exact (up_0 hp.2.2.1).2
    · rw [h]; exact (up_0 hp.2.2.2).2
    · simp [ino] at h
  · exact ⟨List.Perm.refl _, trivial, List.nodup_nil, fun i j hi => by omega, fun i hi => by omega, trivial, fun i hi => by omega⟩
theorem init_7 {K K1 N1 : Nat → Nat} {I1 : Nat → Nat → Int32} {Q1 : Nat → Nat → Option Nat} {J : Nat → Nat → Int64} {t pq pn : Nat} (ow : xO) (c tu : Nat → Nat) (h0 : K t = 0) (hp : x_up K t 7 pq = 0 ∧ x_up K t 7 pn = 0) (hz : TZ K1 N1 Q1 t pq pn) (hq : Q1 t 1 = none) : KK7 (owN K ow 7) (K1, N1, I1, Q1, J) t 0 c tu := by
  refine ⟨fun _ => 0, .leaf (), pq, pn, ⟨hz, hq, trivial, List.nodup_nil, fun q h => by simp [ino] at h, fun q h => owN_n ?_⟩, ⟨List.Perm.refl _, List.Pairwise.nil, trivial, by simp [sz], List.nodup_nil, fun i j _ hj => by omega⟩⟩
  rcases h with h | h | h | h
  · rw [h]; exact h0
  · rw [h]; exact (up_0 hp.1).2
  · rw [h]; exact (up_0 hp.2).2
  · simp [ino] at h
theorem init_6 {K K1 N1 : Nat → Nat} {I1 : Nat → Nat → Int32} {Q1 : Nat → Nat → Option Nat} {J : Nat → Nat → Int64} {t : Nat} (ow : xO) (c pt : Nat → Nat) (al : Nat → Bool) (h0 : K t = 0) (hk : K1 t = 6) (hq : Q1 t 0 = none) (h1 : I1 t 1 = nI 0) (h2 : I1 t 2 = nI 0) : KK6 (owN K ow 6) (K1, N1, I1, Q1, J) t 0 c al pt := by
  refine ⟨fun _ => 0, [], fun _ => 0, ⟨hk, by show CH K1 Q1 [] (Q1 t 0); rw [hq]; exact rfl, fun a h => by simp at h, List.nodup_nil, fun q h => owN_n ?_⟩, rfl, fun a h => by simp at h, h1, h2, fun i j _ hj => by omega⟩
  rcases h with h | h
  · rw [h]; exact h0
  · simp at h
theorem FRO.put {K N : Nat → Nat} {I : Nat → Nat → Int32} {Q : Nat → Nat → Option Nat} {J : Nat → Nat → Int64} {ow : xO} {x j : Nat} {v : Option Nat} (ho : ow x = 8) : FRO 8 ow ow (K, N, I, Q, J) (K, N, I, x_u2 Q x j v, J) := FRO.of rfl fun q hq => ⟨rfl, rfl, rfl, fun hc => ⟨rfl, x_u2_a _ _ (fun e => hc (by rw [e]; exact ho))⟩⟩
theorem D_X8_init_0 : decode cX8_init 0 = .ok (.aload_n 0, 1) ∧ decode cX8_init 1 = .ok (.invokespecial 1, 3) ∧ decode cX8_init 4 = .ok (.aload_n 0, 1) ∧ decode cX8_init 5 = .ok (.new 7, 3) ∧ decode cX8_init 8 = .ok (.dup, 1) ∧ decode cX8_init 9 = .ok (.invokespecial 9, 3) ∧ decode cX8_init 12 = .ok (.putfield 10, 3) ∧ decode cX8_init 15 = .ok (.aload_n 0, 1) ∧ decode cX8_init 16 = .ok (.new 16, 3) ∧ decode cX8_init 19 = .ok (.dup, 1) ∧ decode cX8_init 20 = .ok (.invokespecial 18, 3) ∧ decode cX8_init 23 = .ok (.putfield 19, 3) := by decide +kernel
theorem D_X8_init_1 : decode cX8_init 26 = .ok (.aload_n 0, 1) ∧ decode cX8_init 27 = .ok (.new 23, 3) ∧ decode cX8_init 30 = .ok (.dup, 1) ∧ decode cX8_init 31 = .ok (.invokespecial 25, 3) ∧ decode cX8_init 34 = .ok (.putfield 26, 3) ∧ decode cX8_init 37 = .ok (.aload_n 0, 1) ∧ decode cX8_init 38 = .ok (.new 30, 3) ∧ decode cX8_init 41 = .ok (.dup, 1) ∧ decode cX8_init 42 = .ok (.invokespecial 32, 3) ∧ decode cX8_init 45 = .ok (.putfield 33, 3) ∧ decode cX8_init 48 = .ok (.return_, 1) := by decide +kernel
abbrev rm_X8_init : Room := { frames := 4, cells := 20, slots := 2000, locals := 78 }
theorem hd_X1_init : yX1_init.cls ≠ "java/lang/invoke/MethodHandle" ∧ yX1_init.cls ≠ "java/lang/invoke/VarHandle" ∧ (parseMethodDescriptor yX1_init.desc).map (fun d => d.parameters.length) = some 0 := by decide +kernel
theorem hd_X5_init : yX5_init.cls ≠ "java/lang/invoke/MethodHandle" ∧ yX5_init.cls ≠ "java/lang/invoke/VarHandle" ∧ (parseMethodDescriptor yX5_init.desc).map (fun d => d.parameters.length) = some 0 := by decide +kernel
theorem hd_X6_init : yX6_init.cls ≠ "java/lang/invoke/MethodHandle" ∧ yX6_init.cls ≠ "java/lang/invoke/VarHandle" ∧ (parseMethodDescriptor yX6_init.desc).map (fun d => d.parameters.length) = some 0 := by decide +kernel
theorem hd_X7_init : yX7_init.cls ≠ "java/lang/invoke/MethodHandle" ∧ yX7_init.cls ≠ "java/lang/invoke/VarHandle" ∧ (parseMethodDescriptor yX7_init.desc).map (fun d => d.parameters.length) = some 0 := by decide +kernel
set_option maxHeartbeats 8000000 in
set_option maxRecDepth 100000 in
theorem c_X8_init (l : Launch) (G : xG) {K N : Nat → Nat} {I : Nat → Nat → Int32} {Q : Nat → Nat → Option Nat} {J : Nat → Nat → Int64} (x : Nat) (ow : xO) (c sp tu pt pc ps : Nat → Nat) (al pa : Nat → Bool) (hx : K x = 8) (hox : ow x = 8) : XM l yX8_init cX8_init 1 none rm_X8_init G Rv [.ref x] (K, N, I, Q, J) (fun _ S1 => ∃ ow1, (∀ q, K q ≠ 0 → q ≠ x → ow1 q = ow q ∧ S1.1 q = K q ∧ S1.2.1 q = N q ∧ S1.2.2.1 q = I q ∧ S1.2.2.2.1 q = Q q) ∧ SY ow1 S1 x 0 c al sp tu pt 0 pc pa ps (nI 0) (nI 0) (nI 0) (nI 0) (nI 0)) := by
  refine x_metv (lv := [_]) (by decide +kernel) (x_cc (by first | rfl | exact x_crf _) x_cn) (Nat.le_of_ble_eq_true rfl) rfl ?_
  intro pP eE sS mM aA bB hH cC Z C hini ret
  refine x_aload_n C D_X8_init_0.1 rfl rfl (by first | exact Or.inr ⟨_, rfl⟩ | exact va_rf_or _ | exact Or.inl rfl) ?_
  refine x_objInit C k_83 k_84 k_85 rfl D_X8_init_0.2.1 (Nat.le_of_ble_eq_true rfl) (Nat.le_of_ble_eq_true rfl) ?_
  refine x_aload_n C D_X8_init_0.2.2.1 rfl rfl (by first | exact Or.inr ⟨_, rfl⟩ | exact va_rf_or _ | exact Or.inl rfl) ?_
  refine x_new C (ci := 1) rfl (by decide) in_X1 tyX1 tyX1_ok x_layX1 k_86 k_87 k_62 (Nat.le_of_ble_eq_true rfl) (Nat.le_of_ble_eq_true rfl) D_X8_init_0.2.2.2.1 (fun t1 K_5 I_5 Q_5 ft1 eK_5 eI_5 eQ_5 => ?_)
  have hk5 : K_5 t1 = 2 := by rw [eK_5, x_up_s]
  refine x_dup C D_X8_init_0.2.2.2.2.1 (by first | rfl | exact x_crf _) ?_
  refine x_callI (ret := none) C (y := yX1_init) (c_X1_init l G t1 hk5) k_90 k_62 k_88 k_89 rfl hd_X1_init ⟨(Nat.le_of_ble_eq_true rfl), (Nat.le_of_ble_eq_true rfl)⟩ rfl (by first | exact Nat.le_of_ble_eq_true rfl | simp [x_crf, Value.category]) rfl rfl D_X8_init_0.2.2.2.2.2.1 ⟨(Nat.le_of_ble_eq_true rfl), (Nat.le_of_ble_eq_true rfl)⟩ (fun _ S_9 h_9 => ?_)
  obtain ⟨pq, pn, rw_, rn, K1, N1, I1, Q1, rfl, z1, z2, z3, z4, eK1, hz1, hq1, i3, i4, i5, hfr1⟩ := h_9
  have kp1 : KPT (K, N, I, Q, J) (K1, N1, I1, Q1, J) := KPT.new (ci := 1) ft1 (by rw [← eK_5, ← eI_5, ← eQ_5]; exact hfr1)
  have hF1 := kp1.fro 1 ow
  obtain ⟨ow1, eow1⟩ : ∃ ow1, ow1 = owN K ow 1 := ⟨_, rfl⟩
  have hF1 : FRO 1 ow ow1 (K, N, I, Q, J) (K1, N1, I1, Q1, J) := by rw [eow1]; exact hF1
  have H1_1 : KK1 ow1 (K1, N1, I1, Q1, J) t1 0 c al sp := by rw [eow1]; exact init_1 ow c sp al ft1 ⟨by rw [← eK_5]; exact z1, by rw [← eK_5]; exact z2, by rw [← eK_5]; exact z3, by rw [← eK_5]; exact z4⟩ hz1 hq1 i3
  obtain ⟨hx1, hox1, hQx1⟩ := hF1.obj (by omega) hx hox
  have hx1 : K1 x = 8 := hx1
  have hQx1 : Q1 x = Q x := hQx1
  refine x_putFQ C (ci := 7) (k0 := 0) hx1 (by decide) rfl (by decide) in_X8 k_179 rfl tyX8 tyX8_ok nmX8 rfl (hini rfl) rfl (by first | exact rfl | exact (rfl : _ = va_rf (some _)) | exact (rfl : _ = va_rf none)) (by rfl) (by first | rfl | exact x_narq _ _) (by first | rfl | exact x_fitq _ _) rfl D_X8_init_0.2.2.2.2.2.2.1 (fun Q1b eQ1b => ?_)
  have hP1 : FRO 8 ow1 ow1 (K1, N1, I1, Q1, J) (K1, N1, I1, Q1b, J) := by rw [eQ1b]; exact FRO.put hox1
  have hQb1 : ∀ z, z ≠ x → Q1b z = Q1 z := fun z hz => by rw [eQ1b, x_u2_a _ _ hz]
  obtain ⟨H1_1b, -⟩ := H1_1.agree hP1 (by omega)
  refine x_aload_n C D_X8_init_0.2.2.2.2.2.2.2.1 rfl rfl (by first | exact Or.inr ⟨_, rfl⟩ | exact va_rf_or _ | exact Or.inl rfl) ?_
  refine x_new C (ci := 6) rfl (by decide) in_X7 tyX7 tyX7_ok x_layX7 k_129 k_130 k_64 (Nat.le_of_ble_eq_true rfl) (Nat.le_of_ble_eq_true rfl) D_X8_init_0.2.2.2.2.2.2.2.2.1 (fun t7 K_16 I_16 Q_16 ft7 eK_16 eI_16 eQ_16 => ?_)
  have hk16 : K_16 t7 = 7 := by rw [eK_16, x_up_s]
  refine x_dup C D_X8_init_0.2.2.2.2.2.2.2.2.2.1 (by first | rfl | exact x_crf _) ?_
  refine x_callIN (ret := none) C (y := yX7_init) (c_X7_init l G t7 hk16) k_133 k_64 C.2.2.2.2.2.1.2.2.2.2.1 k_132 rfl hd_X7_init ⟨(Nat.le_of_ble_eq_true rfl), (Nat.le_of_ble_eq_true rfl)⟩ rfl (by first | exact Nat.le_of_ble_eq_true rfl | simp [x_crf, Value.category]) rfl rfl D_X8_init_0.2.2.2.2.2.2.2.2.2.2.1 ⟨(Nat.le_of_ble_eq_true rfl), (Nat.le_of_ble_eq_true rfl)⟩ (fun _ S_20 h_20 => ?_)
  obtain ⟨pq7, pn7, K2, N2, I2, Q2, rfl, z1, z2, eK2, hz7, hq7, u2, hfr2⟩ := h_20
  have kp2 : KPT (K1, N1, I1, Q1b, J) (K2, N2, I2, Q2, J) := KPT.new (ci := 6) ft7 (by rw [← eK_16, ← eI_16, ← eQ_16]; exact hfr2)
  have hF2 := kp2.fro 7 ow1
  obtain ⟨ow2, eow2⟩ : ∃ ow2, ow2 = owN K1 ow1 7 := ⟨_, rfl⟩
  have hF2 : FRO 7 ow1 ow2 (K1, N1, I1, Q1b, J) (K2, N2, I2, Q2, J) := by rw [eow2]; exact hF2
  have H7_2 : KK7 ow2 (K2, N2, I2, Q2, J) t7 0 c tu := by rw [eow2]; exact init_7 ow1 c tu ft7 ⟨by rw [← eK_16]; exact z1, by rw [← eK_16]; exact z2⟩ hz7 hq7
  obtain ⟨hx2, hox2, hQx2⟩ := hF2.obj (by omega) hx1 hox1
  have hx2 : K2 x = 8 := hx2
  have hQx2 : Q2 x = Q1b x := hQx2
  obtain ⟨H1_2, wH1_2⟩ := H1_1b.agree hF2 (by omega)
  have wH1_2 : I2 t1 = I1 t1 := wH1_2
  refine x_putFQ C (ci := 7) (k0 := 1) hx2 (by decide) rfl (by decide) in_X8 k_180 rfl tyX8 tyX8_ok nmX8 rfl (hini rfl) rfl (by first | exact rfl | exact (rfl : _ = va_rf (some _)) | exact (rfl : _ = va_rf none)) (by rfl) (by first | rfl | exact x_narq _ _) (by first | rfl | exact x_fitq _ _) rfl D_X8_init_0.2.2.2.2.2.2.2.2.2.2.2 (fun Q2b eQ2b => ?_)
  have hP2 : FRO 8 ow2 ow2 (K2, N2, I2, Q2, J) (K2, N2, I2, Q2b, J) := by rw [eQ2b]; exact FRO.put hox2
  have hQb2 : ∀ z, z ≠ x → Q2b z = Q2 z := fun z hz => by rw [eQ2b, x_u2_a _ _ hz]
  obtain ⟨H1_2b, -⟩ := H1_2.agree hP2 (by omega)
  obtain ⟨H7_2b, -⟩ := H7_2.agree hP2 (by omega)
  refine x_aload_n C D_X8_init_1.1 rfl rfl (by first | exact Or.inr ⟨_, rfl⟩ | exact va_rf_or _ | exact Or.inl rfl) ?_
  refine x_new C (ci := 5) rfl (by decide) in_X6 tyX6 tyX6_ok x_layX6 k_147 k_148 k_65 (Nat.le_of_ble_eq_true rfl) (Nat.le_of_ble_eq_true rfl) D_X8_init_1.2.1 (fun t6 K_27 I_27 Q_27 ft6 eK_27 eI_27 eQ_27 => ?_)
  have hk27 : K_27 t6 = 6 := by rw [eK_27, x_up_s]
  refine x_dup C D_X8_init_1.2.2.1 (by first | rfl | exact x_crf _) ?_
  refine x_callIN (ret := none) C (y := yX6_init) (c_X6_init l G t6 hk27) k_151 k_65 C.2.2.2.2.2.1.2.2.2.2.2 k_150 rfl hd_X6_init ⟨(Nat.le_of_ble_eq_true rfl), (Nat.le_of_ble_eq_true rfl)⟩ rfl (by first | exact Nat.le_of_ble_eq_true rfl | simp [x_crf, Value.category]) rfl rfl D_X8_init_1.2.2.2.1 ⟨(Nat.le_of_ble_eq_true rfl), (Nat.le_of_ble_eq_true rfl)⟩ (fun _ S_31 h_31 => ?_)
  subst h_31
  obtain ⟨I3, eI3⟩ : ∃ I3, I3 = x_u2 (x_u2 (x_u2 I_27 t6 1 (nI 0)) t6 2 (nI 0)) t6 3 (nI 0) := ⟨_, rfl⟩
  obtain ⟨Q3, eQ3⟩ : ∃ Q3, Q3 = x_u2 Q_27 t6 0 none := ⟨_, rfl⟩
  obtain ⟨K3, eK3⟩ : ∃ K3, K3 = K_27 := ⟨_, rfl⟩
  obtain ⟨N3, eN3⟩ : ∃ N3, N3 = N2 := ⟨_, rfl⟩
  rw [← eI3, ← eQ3, ← eK3, ← eN3]
  have hfr3 : ∀ a, K_27 a ≠ 0 → a ≠ t6 → K3 a = K_27 a ∧ N3 a = N2 a ∧ I3 a = I_27 a ∧ Q3 a = Q_27 a := fun a _ ha => ⟨by rw [eK3], by rw [eN3], by rw [eI3, x_u2_a _ _ ha, x_u2_a _ _ ha, x_u2_a _ _ ha], by rw [eQ3, x_u2_a _ _ ha]⟩
  have kp3 : KPT (K2, N2, I2, Q2b, J) (K3, N3, I3, Q3, J) := KPT.new (ci := 5) ft6 (by rw [← eK_27, ← eI_27, ← eQ_27]; exact hfr3)
  have hF3 := kp3.fro 6 ow2
  obtain ⟨ow3, eow3⟩ : ∃ ow3, ow3 = owN K2 ow2 6 := ⟨_, rfl⟩
  have hF3 : FRO 6 ow2 ow3 (K2, N2, I2, Q2b, J) (K3, N3, I3, Q3, J) := by rw [eow3]; exact hF3
  have H6_3 : KK6 ow3 (K3, N3, I3, Q3, J) t6 0 c al pt := by rw [eow3]; exact init_6 ow2 c pt al ft6 (by rw [eK3]; exact hk27) (by rw [eQ3, x_u2_s]) (by rw [eI3, x_u2_j _ _ (by omega), x_u2_j _ _ (by omega), x_u2_s]) (by rw [eI3, x_u2_j _ _ (by omega), x_u2_s])
  have g3 : I3 t6 3 = nI 0 := by rw [eI3, x_u2_s]
  obtain ⟨hx3, hox3, hQx3⟩ := hF3.obj (by omega) hx2 hox2
  have hx3 : K3 x = 8 := hx3
  have hQx3 : Q3 x = Q2b x := hQx3
  obtain ⟨H1_3, wH1_3⟩ := H1_2b.agree hF3 (by omega)
  have wH1_3 : I3 t1 = I2 t1 := wH1_3
  obtain ⟨H7_3, wH7_3⟩ := H7_2b.agree hF3 (by omega)
  have wH7_3 : I3 t7 = I2 t7 := wH7_3
  refine x_putFQ C (ci := 7) (k0 := 2) hx3 (by decide) rfl (by decide) in_X8 k_181 rfl tyX8 tyX8_ok nmX8 rfl (hini rfl) rfl (by first | exact rfl | exact (rfl : _ = va_rf (some _)) | exact (rfl : _ = va_rf none)) (by rfl) (by first | rfl | exact x_narq _ _) (by first | rfl | exact x_fitq _ _) rfl D_X8_init_1.2.2.2.2.1 (fun Q3b eQ3b => ?_)
  have hP3 : FRO 8 ow3 ow3 (K3, N3, I3, Q3, J) (K3, N3, I3, Q3b, J) := by rw [eQ3b]; exact FRO.put hox3
  have hQb3 : ∀ z, z ≠ x → Q3b z = Q3 z := fun z hz => by rw [eQ3b, x_u2_a _ _ hz]
  obtain ⟨H1_3b, -⟩ := H1_3.agree hP3 (by omega)
  obtain ⟨H7_3b, -⟩ := H7_3.agree hP3 (by omega)
  obtain ⟨H6_3b, -⟩ := H6_3.agree hP3 (by omega)
  refine x_aload_n C D_X8_init_1.2.2.2.2.2.1 rfl rfl (by first | exact Or.inr ⟨_, rfl⟩ | exact va_rf_or _ | exact Or.inl rfl) ?_
  refine x_new C (ci := 4) rfl (by decide) in_X5 tyX5 tyX5_ok x_layX5 k_166 k_167 k_66 (Nat.le_of_ble_eq_true rfl) (Nat.le_of_ble_eq_true rfl) D_X8_init_1.2.2.2.2.2.2.1 (fun t5 K_38 I_38 Q_38 ft5 eK_38 eI_38 eQ_38 => ?_)
  have hk38 : K_38 t5 = 5 := by rw [eK_38, x_up_s]
  refine x_dup C D_X8_init_1.2.2.2.2.2.2.2.1 (by first | rfl | exact x_crf _) ?_
  refine x_callI (ret := none) C (y := yX5_init) (c_X5_init l G t5 hk38) k_170 k_66 k_168 k_169 rfl hd_X5_init ⟨(Nat.le_of_ble_eq_true rfl), (Nat.le_of_ble_eq_true rfl)⟩ rfl (by first | exact Nat.le_of_ble_eq_true rfl | simp [x_crf, Value.category]) rfl rfl D_X8_init_1.2.2.2.2.2.2.2.2.1 ⟨(Nat.le_of_ble_eq_true rfl), (Nat.le_of_ble_eq_true rfl)⟩ (fun _ S_42 h_42 => ?_)
  obtain ⟨pq5, pn5, rw5, rn5, K4, N4, I4, Q4, rfl, z1, z2, z3, z4, eK4, hz5, hq5, w3, w4, w5, hfr4⟩ := h_42
  have kp4 : KPT (K3, N3, I3, Q3b, J) (K4, N4, I4, Q4, J) := KPT.new (ci := 4) ft5 (by rw [← eK_38, ← eI_38, ← eQ_38]; exact hfr4)
  have hF4 := kp4.fro 5 ow3
  obtain ⟨ow4, eow4⟩ : ∃ ow4, ow4 = owN K3 ow3 5 := ⟨_, rfl⟩
  have hF4 : FRO 5 ow3 ow4 (K3, N3, I3, Q3b, J) (K4, N4, I4, Q4, J) := by rw [eow4]; exact hF4
  have H5_4 : KK5 ow4 (K4, N4, I4, Q4, J) t5 0 pc pa ps := by rw [eow4]; exact init_5 ow3 pc ps pa ft5 ⟨by rw [← eK_38]; exact z1, by rw [← eK_38]; exact z2, by rw [← eK_38]; exact z3, by rw [← eK_38]; exact z4⟩ hz5 hq5 w3
  obtain ⟨hx4, hox4, hQx4⟩ := hF4.obj (by omega) hx3 hox3
  have hx4 : K4 x = 8 := hx4
  have hQx4 : Q4 x = Q3b x := hQx4
  obtain ⟨H1_4, wH1_4⟩ := H1_3b.agree hF4 (by omega)
  have wH1_4 : I4 t1 = I3 t1 := wH1_4
  obtain ⟨H7_4, wH7_4⟩ := H7_3b.agree hF4 (by omega)
  have wH7_4 : I4 t7 = I3 t7 := wH7_4
  obtain ⟨H6_4, wH6_4⟩ := H6_3b.agree hF4 (by omega)
  have wH6_4 : I4 t6 = I3 t6 := wH6_4
  refine x_putFQ C (ci := 7) (k0 := 3) hx4 (by decide) rfl (by decide) in_X8 k_182 rfl tyX8 tyX8_ok nmX8 rfl (hini rfl) rfl (by first | exact rfl | exact (rfl : _ = va_rf (some _)) | exact (rfl : _ = va_rf none)) (by rfl) (by first | rfl | exact x_narq _ _) (by first | rfl | exact x_fitq _ _) rfl D_X8_init_1.2.2.2.2.2.2.2.2.2.1 (fun Q4b eQ4b => ?_)
  have hP4 : FRO 8 ow4 ow4 (K4, N4, I4, Q4, J) (K4, N4, I4, Q4b, J) := by rw [eQ4b]; exact FRO.put hox4
  have hQb4 : ∀ z, z ≠ x → Q4b z = Q4 z := fun z hz => by rw [eQ4b, x_u2_a _ _ hz]
  obtain ⟨H1_4b, -⟩ := H1_4.agree hP4 (by omega)
  obtain ⟨H7_4b, -⟩ := H7_4.agree hP4 (by omega)
  obtain ⟨H6_4b, -⟩ := H6_4.agree hP4 (by omega)
  obtain ⟨H5_4b, -⟩ := H5_4.agree hP4 (by omega)
  refine ret _ _ _ _ _ rfl D_X8_init_1.2.2.2.2.2.2.2.2.2.2 (Nat.le_of_ble_eq_true rfl) (Nat.le_of_ble_eq_true rfl) ?_
  refine ⟨ow4, fun q hq hqx => ?_, t1, t7, t6, t5, ⟨hx4, hox4, ?_, ?_, ?_, ?_⟩, H1_4b, H7_4b, H6_4b, H5_4b, ⟨?_, ?_, ?_, ?_, w4⟩, by omega, fun i hi => by omega⟩
  · obtain ⟨a1, a2, a3, a4⟩ := kp1.2 q hq
    have a1 : K1 q = K q := a1
    have b0 : K1 q ≠ 0 := by rw [a1]; exact hq
    obtain ⟨b1, b2, b3, b4⟩ := kp2.2 q b0
    have b1 : K2 q = K1 q := b1
    have c0 : K2 q ≠ 0 := by rw [b1]; exact b0
    obtain ⟨c1, c2, c3, c4⟩ := kp3.2 q c0
    have c1 : K3 q = K2 q := c1
    have d0 : K3 q ≠ 0 := by rw [c1]; exact c0
    obtain ⟨d1, d2, d3, d4⟩ := kp4.2 q d0
    have d1 : K4 q = K3 q := d1
    refine ⟨by rw [eow4, owN_o d0, eow3, owN_o c0, eow2, owN_o b0, eow1, owN_o hq], ?_, ?_, ?_, ?_⟩
    · exact d1.trans (c1.trans (b1.trans a1))
    · exact d2.trans (c2.trans (b2.trans a2))
    · exact d3.trans (c3.trans (b3.trans a3))
    · exact (hQb4 q hqx).trans (d4.trans ((hQb3 q hqx).trans (c4.trans ((hQb2 q hqx).trans (b4.trans ((hQb1 q hqx).trans a4))))))
  · show Q4b x 0 = _
    rw [eQ4b, x_u2_j _ _ (by omega), hQx4, eQ3b, x_u2_j _ _ (by omega), hQx3, eQ2b, x_u2_j _ _ (by omega), hQx2, eQ1b, x_u2_s]
  · show Q4b x 1 = _
    rw [eQ4b, x_u2_j _ _ (by omega), hQx4, eQ3b, x_u2_j _ _ (by omega), hQx3, eQ2b, x_u2_s]
  · show Q4b x 2 = _
    rw [eQ4b, x_u2_j _ _ (by omega), hQx4, eQ3b, x_u2_s]
  · show Q4b x 3 = _
    rw [eQ4b, x_u2_s]
  · show I4 t1 4 = _
    rw [wH1_4, wH1_3, wH1_2]; exact i4
  · show I4 t1 5 = _
    rw [wH1_4, wH1_3, wH1_2]; exact i5
  · show I4 t7 2 = _
    rw [wH7_4, wH7_3]; exact u2
  · show I4 t6 3 = _
    rw [wH6_4]; exact g3
