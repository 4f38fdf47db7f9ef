theorem D_X7_init_0 : decode cX7_init 0 = .ok (.aload_n 0, 1) ∧ decode cX7_init 1 = .ok (.invokespecial 3, 3) ∧ decode cX7_init 4 = .ok (.aload_n 0, 1) ∧ decode cX7_init 5 = .ok (.new 9, 3) ∧ decode cX7_init 8 = .ok (.dup, 1) ∧ decode cX7_init 9 = .ok (.bipush 40, 2) ∧ decode cX7_init 11 = .ok (.invokespecial 11, 3) ∧ decode cX7_init 14 = .ok (.putfield 14, 3) ∧ decode cX7_init 17 = .ok (.aload_n 0, 1) ∧ decode cX7_init 18 = .ok (.aconst_null, 1) ∧ decode cX7_init 19 = .ok (.putfield 20, 3) ∧ decode cX7_init 22 = .ok (.aload_n 0, 1) := by decide +kernel
theorem D_X7_init_1 : decode cX7_init 23 = .ok (.iconst 0, 1) ∧ decode cX7_init 24 = .ok (.putfield 24, 3) ∧ decode cX7_init 27 = .ok (.return_, 1) := by decide +kernel
theorem D_X6_init_0 : decode cX6_init 0 = .ok (.aload_n 0, 1) ∧ decode cX6_init 1 = .ok (.invokespecial 1, 3) ∧ decode cX6_init 4 = .ok (.aload_n 0, 1) ∧ decode cX6_init 5 = .ok (.aconst_null, 1) ∧ decode cX6_init 6 = .ok (.putfield 7, 3) ∧ decode cX6_init 9 = .ok (.aload_n 0, 1) ∧ decode cX6_init 10 = .ok (.iconst 0, 1) ∧ decode cX6_init 11 = .ok (.putfield 13, 3) ∧ decode cX6_init 14 = .ok (.aload_n 0, 1) ∧ decode cX6_init 15 = .ok (.iconst 0, 1) ∧ decode cX6_init 16 = .ok (.putfield 17, 3) ∧ decode cX6_init 19 = .ok (.aload_n 0, 1) := by decide +kernel
theorem D_X6_init_1 : decode cX6_init 20 = .ok (.iconst 0, 1) ∧ decode cX6_init 21 = .ok (.putfield 20, 3) ∧ decode cX6_init 24 = .ok (.return_, 1) := by decide +kernel
theorem D_X2_init_0 : decode cX2_init 0 = .ok (.aload_n 0, 1) ∧ decode cX2_init 1 = .ok (.invokespecial 3, 3) ∧ decode cX2_init 4 = .ok (.aload_n 0, 1) ∧ decode cX2_init 5 = .ok (.new 9, 3) ∧ decode cX2_init 8 = .ok (.dup, 1) ∧ decode cX2_init 9 = .ok (.bipush 40, 2) ∧ decode cX2_init 11 = .ok (.invokespecial 11, 3) ∧ decode cX2_init 14 = .ok (.putfield 14, 3) ∧ decode cX2_init 17 = .ok (.aload_n 0, 1) ∧ decode cX2_init 18 = .ok (.aconst_null, 1) ∧ decode cX2_init 19 = .ok (.putfield 20, 3) ∧ decode cX2_init 22 = .ok (.aload_n 0, 1) := by decide +kernel
theorem D_X2_init_1 : decode cX2_init 23 = .ok (.iconst 0, 1) ∧ decode cX2_init 24 = .ok (.putfield 24, 3) ∧ decode cX2_init 27 = .ok (.aload_n 0, 1) ∧ decode cX2_init 28 = .ok (.iconst 0, 1) ∧ decode cX2_init 29 = .ok (.putfield 28, 3) ∧ decode cX2_init 32 = .ok (.aload_n 0, 1) ∧ decode cX2_init 33 = .ok (.iconst 0, 1) ∧ decode cX2_init 34 = .ok (.putfield 31, 3) ∧ decode cX2_init 37 = .ok (.aload_n 0, 1) ∧ decode cX2_init 38 = .ok (.new 9, 3) ∧ decode cX2_init 41 = .ok (.dup, 1) ∧ decode cX2_init 42 = .ok (.iconst 2, 1) := by decide +kernel
theorem D_X2_init_2 : decode cX2_init 43 = .ok (.iload_n 1, 1) ∧ decode cX2_init 44 = .ok (.imul, 1) ∧ decode cX2_init 45 = .ok (.invokespecial 11, 3) ∧ decode cX2_init 48 = .ok (.putfield 34, 3) ∧ decode cX2_init 51 = .ok (.return_, 1) := by decide +kernel
theorem D_X1_init_0 : decode cX1_init 0 = .ok (.aload_n 0, 1) ∧ decode cX1_init 1 = .ok (.bipush 100, 2) ∧ decode cX1_init 3 = .ok (.invokespecial 3, 3) ∧ decode cX1_init 6 = .ok (.return_, 1) := by decide +kernel
theorem D_X5_init_0 : decode cX5_init 0 = .ok (.aload_n 0, 1) ∧ decode cX5_init 1 = .ok (.bipush 60, 2) ∧ decode cX5_init 3 = .ok (.invokespecial 3, 3) ∧ decode cX5_init 6 = .ok (.return_, 1) := by decide +kernel
abbrev rm_X4_init : Room := { frames := 1, cells := 1, slots := 200, locals := 16 }
set_option maxHeartbeats 4000000 in
set_option maxRecDepth 100000 in
theorem c_X4_init (l : Launch) (G : xG) {K N : Nat → Nat} {I : Nat → Nat → Int32} {Q : Nat → Nat → Option Nat} {J : Nat → Nat → Int64} (v cap : Nat) (h : K v = 4) (hc : cap ≤ 200) : XM l yX4_init cX4_init 2 none rm_X4_init G Rv [.ref v, .int (nI cap)] (K, N, I, Q, J) (fun _ S1 => ∃ nq, K nq = 0 ∧ S1 = (x_up K nq 23, x_up N nq cap, x_u2 I v 1 (nI 0), x_u2 (x_up Q nq (fun _ => none)) v 0 (some nq), J)) := by
  refine x_metv (lv := [_, _]) (by decide +kernel) (x_cc (by first | rfl | exact x_crf _) (x_cc (by first | rfl | exact x_crf _) x_cn)) (Nat.le_of_ble_eq_true rfl) rfl ?_
  intro pP eE sS mM aA bB hH cC Z C hini ret
  refine x_aload_n C D_X4_init_0.1 rfl rfl (by first | exact Or.inr ⟨_, rfl⟩ | exact va_rf_or _ | exact Or.inl rfl) ?_
  refine x_objInit C k_100 k_84 k_85 rfl D_X4_init_0.2.1 (Nat.le_of_ble_eq_true rfl) (Nat.le_of_ble_eq_true rfl) ?_
  refine x_aload_n C D_X4_init_0.2.2.1 rfl rfl (by first | exact Or.inr ⟨_, rfl⟩ | exact va_rf_or _ | exact Or.inl rfl) ?_
  refine x_iconst C (v := nI 0) D_X4_init_0.2.2.2.1 (by decide +kernel) ?_
  refine x_putI C (ci := 3) (k0 := 1) h (by decide) rfl (by decide) in_X4 k_104 rfl tyX4 tyX4_ok nmX4 rfl (by rfl) rfl rfl rfl D_X4_init_0.2.2.2.2.1 (fun I_6 eI_6 => ?_)
  refine x_aload_n C D_X4_init_0.2.2.2.2.2.1 rfl rfl (by first | exact Or.inr ⟨_, rfl⟩ | exact va_rf_or _ | exact Or.inl rfl) ?_
  refine x_iload_n C D_X4_init_0.2.2.2.2.2.2.1 rfl rfl ?_
  refine x_if_ge C 18 D_X4_init_0.2.2.2.2.2.2.2.1 (by decide) (fun c_11 => ?_) (fun c_11 => ?_)
  · skip
    refine x_iload_n C D_X4_init_0.2.2.2.2.2.2.2.2.2.2.1 rfl rfl ?_
    refine x_newQ C cap rfl (by omega) k_101 (Nat.le_of_ble_eq_true rfl) (by show 0 + cap ≤ 200; omega) D_X4_init_0.2.2.2.2.2.2.2.2.2.2.2 (fun nq K_19 N_19 Q_19 fnq eK_19 eN_19 eQ_19 => ?_)
    refine x_putFQ C (ci := 3) (k0 := 0) (show K_19 v = 4 by rw [eK_19, x_up_n _ _ (fun e => by rw [e, fnq] at h; omega)]; exact h) (by decide) rfl (by decide) in_X4 k_103 rfl tyX4 tyX4_ok nmX4 rfl (hini rfl) rfl (by first | exact rfl | exact (rfl : _ = va_rf (some _)) | exact (rfl : _ = va_rf none)) (by rfl) (by first | rfl | exact x_narq _ _) (by first | rfl | exact x_fitq _ _) rfl D_X4_init_1.1 (fun Q_22 eQ_22 => ?_)
    refine ret _ _ _ _ _ rfl D_X4_init_1.2 (Nat.le_of_ble_eq_true rfl) (by show 0 + cap ≤ 200; omega) ?_
    exact ⟨nq, fnq, by rw [eK_19, eN_19, eI_6, eQ_22, eQ_19]⟩
  · skip
    exact absurd (i32_le.mpr (by rw [nI_toInt (by omega)]; show (0 : Int) ≤ _; omega)) c_11
    --end
abbrev rm_X6_init : Room := { frames := 1, cells := 0, slots := 0, locals := 16 }
set_option maxHeartbeats 4000000 in
set_option maxRecDepth 100000 in
theorem c_X6_init (l : Launch) (G : xG) {K N : Nat → Nat} {I : Nat → Nat → Int32} {Q : Nat → Nat → Option Nat} {J : Nat → Nat → Int64} (v : Nat) (h : K v = 6) : XM l yX6_init cX6_init 1 none rm_X6_init G Rv [.ref v] (K, N, I, Q, J) (fun _ S1 => S1 = (K, N, x_u2 (x_u2 (x_u2 I v 1 (nI 0)) v 2 (nI 0)) v 3 (nI 0), x_u2 Q v 0 none, J)) := by
  refine x_metv (lv := [_]) (by decide +kernel) (x_cc (by first | rfl | exact x_crf _) x_cn) (Nat.le_of_ble_eq_true rfl) rfl ?_
  intro pP eE sS mM aA bB hH cC Z C hini ret
  refine x_aload_n C D_X6_init_0.1 rfl rfl (by first | exact Or.inr ⟨_, rfl⟩ | exact va_rf_or _ | exact Or.inl rfl) ?_
  refine x_objInit C k_152 k_84 k_85 rfl D_X6_init_0.2.1 (Nat.le_of_ble_eq_true rfl) (Nat.le_of_ble_eq_true rfl) ?_
  refine x_aload_n C D_X6_init_0.2.2.1 rfl rfl (by first | exact Or.inr ⟨_, rfl⟩ | exact va_rf_or _ | exact Or.inl rfl) ?_
  refine x_null C D_X6_init_0.2.2.2.1 ?_
  refine x_putQ C (ci := 5) (k0 := 0) (by assumption) (by decide) rfl (by decide) in_X6 k_153 rfl tyX6 tyX6_ok nmX6 rfl (by first | exact rfl | exact (rfl : _ = va_rf (some _)) | exact (rfl : _ = va_rf none)) (by rfl) (by first | rfl | exact x_narq _ _) (by first | rfl | exact x_fitq _ _) rfl D_X6_init_0.2.2.2.2.1 (fun Q_6 eQ_6 => ?_)
  refine x_aload_n C D_X6_init_0.2.2.2.2.2.1 rfl rfl (by first | exact Or.inr ⟨_, rfl⟩ | exact va_rf_or _ | exact Or.inl rfl) ?_
  refine x_iconst C (v := nI 0) D_X6_init_0.2.2.2.2.2.2.1 (by decide +kernel) ?_
  refine x_putI C (ci := 5) (k0 := 1) (by assumption) (by decide) rfl (by decide) in_X6 k_154 rfl tyX6 tyX6_ok nmX6 rfl (by rfl) rfl rfl rfl D_X6_init_0.2.2.2.2.2.2.2.1 (fun I_11 eI_11 => ?_)
  refine x_aload_n C D_X6_init_0.2.2.2.2.2.2.2.2.1 rfl rfl (by first | exact Or.inr ⟨_, rfl⟩ | exact va_rf_or _ | exact Or.inl rfl) ?_
  refine x_iconst C (v := nI 0) D_X6_init_0.2.2.2.2.2.2.2.2.2.1 (by decide +kernel) ?_
  refine x_putI C (ci := 5) (k0 := 2) (by assumption) (by decide) rfl (by decide) in_X6 k_155 rfl tyX6 tyX6_ok nmX6 rfl (by rfl) rfl rfl rfl D_X6_init_0.2.2.2.2.2.2.2.2.2.2.1 (fun I_16 eI_16 => ?_)
  refine x_aload_n C D_X6_init_0.2.2.2.2.2.2.2.2.2.2.2 rfl rfl (by first | exact Or.inr ⟨_, rfl⟩ | exact va_rf_or _ | exact Or.inl rfl) ?_
  refine x_iconst C (v := nI 0) D_X6_init_1.1 (by decide +kernel) ?_
  refine x_putI C (ci := 5) (k0 := 3) (by assumption) (by decide) rfl (by decide) in_X6 k_156 rfl tyX6 tyX6_ok nmX6 rfl (by rfl) rfl rfl rfl D_X6_init_1.2.1 (fun I_21 eI_21 => ?_)
  refine ret _ _ _ _ _ rfl D_X6_init_1.2.2 (Nat.le_of_ble_eq_true rfl) (Nat.le_of_ble_eq_true rfl) ?_
  rw [eQ_6, eI_21, eI_16, eI_11]
abbrev rm_X7_init : Room := { frames := 2, cells := 2, slots := 202, locals := 37 }
theorem hd_X4_init : yX4_init.cls ≠ "java/lang/invoke/MethodHandle" ∧ yX4_init.cls ≠ "java/lang/invoke/VarHandle" ∧ (parseMethodDescriptor yX4_init.desc).map (fun d => d.parameters.length) = some 1 := by decide +kernel
set_option maxHeartbeats 4000000 in
set_option maxRecDepth 100000 in
theorem c_X7_init (l : Launch) (G : xG) {K N : Nat → Nat} {I : Nat → Nat → Int32} {Q : Nat → Nat → Option Nat} {J : Nat → Nat → Int64} (v : Nat) (h : K v = 7) : XM l yX7_init cX7_init 1 none rm_X7_init G Rv [.ref v] (K, N, I, Q, J) (fun _ S1 => ∃ pq pn K1 N1 I1 Q1, S1 = (K1, N1, I1, Q1, J) ∧ K pq = 0 ∧ K pn = 0 ∧ K1 = x_up (x_up K pq 4) pn 23 ∧ TZ K1 N1 Q1 v pq pn ∧ Q1 v 1 = none ∧ I1 v 2 = nI 0 ∧ (∀ a, K a ≠ 0 → a ≠ v → K1 a = K a ∧ N1 a = N a ∧ I1 a = I a ∧ Q1 a = Q a)) := by
  refine x_metv (lv := [_]) (by decide +kernel) (x_cc (by first | rfl | exact x_crf _) x_cn) (Nat.le_of_ble_eq_true rfl) rfl ?_
  intro pP eE sS mM aA bB hH cC Z C hini ret
  refine x_aload_n C D_X7_init_0.1 rfl rfl (by first | exact Or.inr ⟨_, rfl⟩ | exact va_rf_or _ | exact Or.inl rfl) ?_
  refine x_objInit C k_134 k_84 k_85 rfl D_X7_init_0.2.1 (Nat.le_of_ble_eq_true rfl) (Nat.le_of_ble_eq_true rfl) ?_
  refine x_aload_n C D_X7_init_0.2.2.1 rfl rfl (by first | exact Or.inr ⟨_, rfl⟩ | exact va_rf_or _ | exact Or.inl rfl) ?_
  refine x_new C (ci := 3) rfl (by decide) in_X4 tyX4 tyX4_ok x_layX4 k_135 k_96 k_63 (Nat.le_of_ble_eq_true rfl) (Nat.le_of_ble_eq_true rfl) D_X7_init_0.2.2.2.1 (fun pq K_5 I_5 Q_5 fpq eK_5 eI_5 eQ_5 => ?_)
  refine x_dup C D_X7_init_0.2.2.2.2.1 (by first | rfl | exact x_crf _) ?_
  refine x_bipush C (v := nI 40) D_X7_init_0.2.2.2.2.2.1 (by decide +kernel) ?_
  refine x_callI (ret := none) C (y := yX4_init) (c_X4_init l G pq 40 (by rw [eK_5, x_up_s]) (by omega)) k_99 k_63 k_136 k_98 rfl hd_X4_init ⟨(Nat.le_of_ble_eq_true rfl), (Nat.le_of_ble_eq_true rfl)⟩ rfl (by first | exact Nat.le_of_ble_eq_true rfl | simp [x_crf, Value.category]) rfl rfl D_X7_init_0.2.2.2.2.2.2.1 ⟨(Nat.le_of_ble_eq_true rfl), (Nat.le_of_ble_eq_true rfl)⟩ (fun _ S_11 h_11 => ?_)
  obtain ⟨pn, hpn0, rfl⟩ := h_11
  have hvq : v ≠ pq := fun e => by rw [e, fpq] at h; omega
  have hnq : pn ≠ pq := fun e => by rw [e, eK_5, x_up_s] at hpn0; omega
  have hpnK : K pn = 0 := by rw [eK_5, x_up_n _ _ hnq] at hpn0; exact hpn0
  have hvn : v ≠ pn := fun e => by rw [e, hpnK] at h; omega
  have hk1 : x_up K_5 pn 23 v = 7 := by rw [x_up_n _ _ hvn, eK_5, x_up_n _ _ hvq]; exact h
  refine x_putFQ C (ci := 6) (k0 := 0) hk1 (by decide) rfl (by decide) in_X7 k_137 rfl tyX7 tyX7_ok nmX7 rfl (hini rfl) rfl (by first | exact rfl | exact (rfl : _ = va_rf (some _)) | exact (rfl : _ = va_rf none)) (by rfl) (by first | rfl | exact x_narq _ _) (by first | rfl | exact x_fitq _ _) rfl D_X7_init_0.2.2.2.2.2.2.2.1 (fun Q_14 eQ_14 => ?_)
  refine x_aload_n C D_X7_init_0.2.2.2.2.2.2.2.2.1 rfl rfl (by first | exact Or.inr ⟨_, rfl⟩ | exact va_rf_or _ | exact Or.inl rfl) ?_
  refine x_null C D_X7_init_0.2.2.2.2.2.2.2.2.2.1 ?_
  refine x_putQ C (ci := 6) (k0 := 1) hk1 (by decide) rfl (by decide) in_X7 k_138 rfl tyX7 tyX7_ok nmX7 rfl (by first | exact rfl | exact (rfl : _ = va_rf (some _)) | exact (rfl : _ = va_rf none)) (by rfl) (by first | rfl | exact x_narq _ _) (by first | rfl | exact x_fitq _ _) rfl D_X7_init_0.2.2.2.2.2.2.2.2.2.2.1 (fun Q_19 eQ_19 => ?_)
  refine x_aload_n C D_X7_init_0.2.2.2.2.2.2.2.2.2.2.2 rfl rfl (by first | exact Or.inr ⟨_, rfl⟩ | exact va_rf_or _ | exact Or.inl rfl) ?_
  refine x_iconst C (v := nI 0) D_X7_init_1.1 (by decide +kernel) ?_
  refine x_putI C (ci := 6) (k0 := 2) hk1 (by decide) rfl (by decide) in_X7 k_139 rfl tyX7 tyX7_ok nmX7 rfl (by rfl) rfl rfl rfl D_X7_init_1.2.1 (fun I_24 eI_24 => ?_)
  refine ret _ _ _ _ _ rfl D_X7_init_1.2.2 (Nat.le_of_ble_eq_true rfl) (Nat.le_of_ble_eq_true rfl) ?_
  refine ⟨pq, pn, _, _, _, _, rfl, fpq, hpnK, by rw [eK_5], ⟨hk1, ?_, ?_, ?_, ?_, ?_, by omega⟩, ?_, ?_, ?_⟩
  · rw [eQ_19, x_u2_j _ _ (by omega), eQ_14, x_u2_s]
  · rw [x_up_n _ _ hnq.symm, eK_5, x_up_s]
  · rw [eQ_19, x_u2_a _ _ hvq.symm, eQ_14, x_u2_a _ _ hvq.symm, x_u2_s]
  · rw [x_up_s]
  · rw [x_up_s]
  · rw [eQ_19, x_u2_s]
  · rw [eI_24, x_u2_s]
  · intro a ha hav
    have haq : a ≠ pq := fun e => ha (e ▸ fpq)
    have han : a ≠ pn := fun e => ha (e ▸ hpnK)
    refine ⟨by rw [x_up_n _ _ han, eK_5, x_up_n _ _ haq], by rw [x_up_n _ _ han], ?_, ?_⟩
    · rw [eI_24, x_u2_a _ _ hav, x_u2_a _ _ haq, eI_5, x_up_n _ _ haq]
    · rw [eQ_19, x_u2_a _ _ hav, eQ_14, x_u2_a _ _ hav, x_u2_a _ _ haq, x_up_n _ _ han, eQ_5, x_up_n _ _ haq]
abbrev rm_X2_init_1 : Room := { frames := 2, cells := 4, slots := 404, locals := 37 }
set_option maxHeartbeats 4000000 in
set_option maxRecDepth 100000 in
theorem c_X2_init_1 (l : Launch) (G : xG) {K N : Nat → Nat} {I : Nat → Nat → Int32} {Q : Nat → Nat → Option Nat} {J : Nat → Nat → Int64} (v m : Nat) (h : K v = 2) (hm : m ≤ 100) : XM l yX2_init cX2_init 2 none rm_X2_init_1 G Rv [.ref v, .int (nI m)] (K, N, I, Q, J) (fun _ S1 => ∃ pq pn rw rn K1 N1 I1 Q1, S1 = (K1, N1, I1, Q1, J) ∧ K pq = 0 ∧ K pn = 0 ∧ K rw = 0 ∧ K rn = 0 ∧ K1 = x_up (x_up (x_up (x_up K pq 4) pn 23) rw 4) rn 23 ∧ LZ K1 N1 Q1 v 2 pq pn rw rn (2 * m) ∧ Q1 v 2 = none ∧ I1 v 3 = nI 0 ∧ I1 v 4 = nI 0 ∧ I1 v 5 = nI 0 ∧ (∀ a, K a ≠ 0 → a ≠ v → K1 a = K a ∧ N1 a = N a ∧ I1 a = I a ∧ Q1 a = Q a)) := by
  refine x_metv (lv := [_, _]) (by decide +kernel) (x_cc (by first | rfl | exact x_crf _) (x_cc (by first | rfl | exact x_crf _) x_cn)) (Nat.le_of_ble_eq_true rfl) rfl ?_
  intro pP eE sS mM aA bB hH cC Z C hini ret
  refine x_aload_n C D_X2_init_0.1 rfl rfl (by first | exact Or.inr ⟨_, rfl⟩ | exact va_rf_or _ | exact Or.inl rfl) ?_
  refine x_objInit C k_94 k_84 k_85 rfl D_X2_init_0.2.1 (Nat.le_of_ble_eq_true rfl) (Nat.le_of_ble_eq_true rfl) ?_
  refine x_aload_n C D_X2_init_0.2.2.1 rfl rfl (by first | exact Or.inr ⟨_, rfl⟩ | exact va_rf_or _ | exact Or.inl rfl) ?_
  refine x_new C (ci := 3) rfl (by decide) in_X4 tyX4 tyX4_ok x_layX4 k_95 k_96 k_63 (Nat.le_of_ble_eq_true rfl) (Nat.le_of_ble_eq_true rfl) D_X2_init_0.2.2.2.1 (fun pq K_5 I_5 Q_5 fpq eK_5 eI_5 eQ_5 => ?_)
  refine x_dup C D_X2_init_0.2.2.2.2.1 (by first | rfl | exact x_crf _) ?_
  refine x_bipush C (v := nI 40) D_X2_init_0.2.2.2.2.2.1 (by decide +kernel) ?_
  refine x_callI (ret := none) C (y := yX4_init) (c_X4_init l G pq 40 (by rw [eK_5, x_up_s]) (by omega)) k_99 k_63 k_97 k_98 rfl hd_X4_init ⟨(Nat.le_of_ble_eq_true rfl), (Nat.le_of_ble_eq_true rfl)⟩ rfl (by first | exact Nat.le_of_ble_eq_true rfl | simp [x_crf, Value.category]) rfl rfl D_X2_init_0.2.2.2.2.2.2.1 ⟨(Nat.le_of_ble_eq_true rfl), (Nat.le_of_ble_eq_true rfl)⟩ (fun _ S_11 h_11 => ?_)
  obtain ⟨pn, hpn0, rfl⟩ := h_11
  have hvq : v ≠ pq := fun e => by rw [e, fpq] at h; omega
  have hnq : pn ≠ pq := fun e => by rw [e, eK_5, x_up_s] at hpn0; omega
  have hpnK : K pn = 0 := by rw [eK_5, x_up_n _ _ hnq] at hpn0; exact hpn0
  have hvn : v ≠ pn := fun e => by rw [e, hpnK] at h; omega
  have hk1 : x_up K_5 pn 23 v = 2 := by rw [x_up_n _ _ hvn, eK_5, x_up_n _ _ hvq]; exact h
  refine x_putFQ C (ci := 1) (k0 := 0) hk1 (by decide) rfl (by decide) in_X1 k_110 rfl tyX1 tyX1_ok nmX1 rfl (hini rfl) rfl (by first | exact rfl | exact (rfl : _ = va_rf (some _)) | exact (rfl : _ = va_rf none)) (by rfl) (by first | rfl | exact x_narq _ _) (by first | rfl | exact x_fitq _ _) rfl D_X2_init_0.2.2.2.2.2.2.2.1 (fun Q_14 eQ_14 => ?_)
  refine x_aload_n C D_X2_init_0.2.2.2.2.2.2.2.2.1 rfl rfl (by first | exact Or.inr ⟨_, rfl⟩ | exact va_rf_or _ | exact Or.inl rfl) ?_
  refine x_null C D_X2_init_0.2.2.2.2.2.2.2.2.2.1 ?_
  refine x_putQ C (ci := 1) (k0 := 2) hk1 (by decide) rfl (by decide) in_X1 k_112 rfl tyX1 tyX1_ok nmX1 rfl (by first | exact rfl | exact (rfl : _ = va_rf (some _)) | exact (rfl : _ = va_rf none)) (by rfl) (by first | rfl | exact x_narq _ _) (by first | rfl | exact x_fitq _ _) rfl D_X2_init_0.2.2.2.2.2.2.2.2.2.2.1 (fun Q_19 eQ_19 => ?_)
  refine x_aload_n C D_X2_init_0.2.2.2.2.2.2.2.2.2.2.2 rfl rfl (by first | exact Or.inr ⟨_, rfl⟩ | exact va_rf_or _ | exact Or.inl rfl) ?_
  refine x_iconst C (v := nI 0) D_X2_init_1.1 (by decide +kernel) ?_
  refine x_putI C (ci := 1) (k0 := 3) hk1 (by decide) rfl (by decide) in_X1 k_113 rfl tyX1 tyX1_ok nmX1 rfl (by rfl) rfl rfl rfl D_X2_init_1.2.1 (fun I_24 eI_24 => ?_)
  refine x_aload_n C D_X2_init_1.2.2.1 rfl rfl (by first | exact Or.inr ⟨_, rfl⟩ | exact va_rf_or _ | exact Or.inl rfl) ?_
  refine x_iconst C (v := nI 0) D_X2_init_1.2.2.2.1 (by decide +kernel) ?_
  refine x_putI C (ci := 1) (k0 := 4) hk1 (by decide) rfl (by decide) in_X1 k_114 rfl tyX1 tyX1_ok nmX1 rfl (by rfl) rfl rfl rfl D_X2_init_1.2.2.2.2.1 (fun I_29 eI_29 => ?_)
  refine x_aload_n C D_X2_init_1.2.2.2.2.2.1 rfl rfl (by first | exact Or.inr ⟨_, rfl⟩ | exact va_rf_or _ | exact Or.inl rfl) ?_
  refine x_iconst C (v := nI 0) D_X2_init_1.2.2.2.2.2.2.1 (by decide +kernel) ?_
  refine x_putI C (ci := 1) (k0 := 5) hk1 (by decide) rfl (by decide) in_X1 k_115 rfl tyX1 tyX1_ok nmX1 rfl (by rfl) rfl rfl rfl D_X2_init_1.2.2.2.2.2.2.2.1 (fun I_34 eI_34 => ?_)
  refine x_aload_n C D_X2_init_1.2.2.2.2.2.2.2.2.1 rfl rfl (by first | exact Or.inr ⟨_, rfl⟩ | exact va_rf_or _ | exact Or.inl rfl) ?_
  refine x_new C (ci := 3) rfl (by decide) in_X4 tyX4 tyX4_ok x_layX4 k_95 k_96 k_63 (Nat.le_of_ble_eq_true rfl) (Nat.le_of_ble_eq_true rfl) D_X2_init_1.2.2.2.2.2.2.2.2.2.1 (fun rw K_38 I_38 Q_38 frw eK_38 eI_38 eQ_38 => ?_)
  refine x_dup C D_X2_init_1.2.2.2.2.2.2.2.2.2.2.1 (by first | rfl | exact x_crf _) ?_
  refine x_iconst C (v := nI 2) D_X2_init_1.2.2.2.2.2.2.2.2.2.2.2 (by decide +kernel) ?_
  refine x_iload_n C D_X2_init_2.1 rfl rfl ?_
  refine x_imul C D_X2_init_2.2.1 ?_
  refine x_eqi _ (pk_mul 2 m) ?_
  refine x_callI (ret := none) C (y := yX4_init) (c_X4_init l G rw (2 * m) (by rw [eK_38, x_up_s]) (by omega)) k_99 k_63 k_97 k_98 rfl hd_X4_init ⟨(Nat.le_of_ble_eq_true rfl), (Nat.le_of_ble_eq_true rfl)⟩ rfl (by first | exact Nat.le_of_ble_eq_true rfl | simp [x_crf, Value.category]) rfl rfl D_X2_init_2.2.2.1 ⟨(Nat.le_of_ble_eq_true rfl), (Nat.le_of_ble_eq_true rfl)⟩ (fun _ S_45 h_45 => ?_)
  obtain ⟨rn, hrn0, rfl⟩ := h_45
  have hrw1 : rw ≠ pn := fun e => by rw [e, x_up_s] at frw; omega
  have hrw2 : rw ≠ pq := fun e => by rw [e, x_up_n _ _ hnq.symm, eK_5, x_up_s] at frw; omega
  have hrwK : K rw = 0 := by rw [x_up_n _ _ hrw1, eK_5, x_up_n _ _ hrw2] at frw; exact frw
  have hrn1 : rn ≠ rw := fun e => by rw [e, eK_38, x_up_s] at hrn0; omega
  have hrn2 : rn ≠ pn := fun e => by rw [e, eK_38, x_up_n _ _ hrw1.symm, x_up_s] at hrn0; omega
  have hrn3 : rn ≠ pq := fun e => by rw [e, eK_38, x_up_n _ _ hrw2.symm, x_up_n _ _ hnq.symm, eK_5, x_up_s] at hrn0; omega
  have hrnK : K rn = 0 := by rw [eK_38, x_up_n _ _ hrn1, x_up_n _ _ hrn2, eK_5, x_up_n _ _ hrn3] at hrn0; exact hrn0
  have hvw : v ≠ rw := fun e => by rw [e, hrwK] at h; omega
  have hvr : v ≠ rn := fun e => by rw [e, hrnK] at h; omega
  have hk2 : x_up K_38 rn 23 v = 2 := by rw [x_up_n _ _ hvr, eK_38, x_up_n _ _ hvw]; exact hk1
  refine x_putFQ C (ci := 1) (k0 := 1) hk2 (by decide) rfl (by decide) in_X1 k_111 rfl tyX1 tyX1_ok nmX1 rfl (hini rfl) rfl (by first | exact rfl | exact (rfl : _ = va_rf (some _)) | exact (rfl : _ = va_rf none)) (by rfl) (by first | rfl | exact x_narq _ _) (by first | rfl | exact x_fitq _ _) rfl D_X2_init_2.2.2.2.1 (fun Q_48 eQ_48 => ?_)
  refine ret _ _ _ _ _ rfl D_X2_init_2.2.2.2.2 (Nat.le_of_ble_eq_true rfl) (Nat.le_of_ble_eq_true rfl) ?_
  refine ⟨pq, pn, rw, rn, _, _, _, _, rfl, fpq, hpnK, hrwK, hrnK, by rw [eK_38, eK_5], ⟨hk2, by omega, ?_, ?_, ⟨?_, ?_, ?_, ?_, by omega⟩, ⟨?_, ?_, ?_, ?_, by omega⟩, hrw2.symm, hrn2.symm⟩, ?_, ?_, ?_, ?_, ?_⟩
  · rw [eQ_48, x_u2_j _ _ (by omega), x_u2_a _ _ hvw, x_up_n _ _ hvr, eQ_38, x_up_n _ _ hvw, eQ_19, x_u2_j _ _ (by omega), eQ_14, x_u2_s]
  · rw [eQ_48, x_u2_s]
  · rw [x_up_n _ _ hrn3.symm, eK_38, x_up_n _ _ hrw2.symm, x_up_n _ _ hnq.symm, eK_5, x_up_s]
  · rw [eQ_48, x_u2_a _ _ hvq.symm, x_u2_a _ _ hrw2.symm, x_up_n _ _ hrn3.symm, eQ_38, x_up_n _ _ hrw2.symm, eQ_19, x_u2_a _ _ hvq.symm, eQ_14, x_u2_a _ _ hvq.symm, x_u2_s]
  · rw [x_up_n _ _ hrn2.symm, eK_38, x_up_n _ _ hrw1.symm, x_up_s]
  · rw [x_up_n _ _ hrn2.symm, x_up_s]
  · rw [x_up_n _ _ hrn1.symm, eK_38, x_up_s]
  · rw [eQ_48, x_u2_a _ _ hvw.symm, x_u2_s]
  · rw [x_up_s]
  · rw [x_up_s]
  · rw [eQ_48, x_u2_j _ _ (by omega), x_u2_a _ _ hvw, x_up_n _ _ hvr, eQ_38, x_up_n _ _ hvw, eQ_19, x_u2_s]
  · rw [x_u2_a _ _ hvw, eI_38, x_up_n _ _ hvw, eI_34, x_u2_j _ _ (by omega), eI_29, x_u2_j _ _ (by omega), eI_24, x_u2_s]
  · rw [x_u2_a _ _ hvw, eI_38, x_up_n _ _ hvw, eI_34, x_u2_j _ _ (by omega), eI_29, x_u2_s]
  · rw [x_u2_a _ _ hvw, eI_38, x_up_n _ _ hvw, eI_34, x_u2_s]
  · intro a ha hav
    have haq : a ≠ pq := fun e => ha (e ▸ fpq)
    have han : a ≠ pn := fun e => ha (e ▸ hpnK)
    have haw : a ≠ rw := fun e => ha (e ▸ hrwK)
    have har : a ≠ rn := fun e => ha (e ▸ hrnK)
    refine ⟨by rw [x_up_n _ _ har, eK_38, x_up_n _ _ haw, x_up_n _ _ han, eK_5, x_up_n _ _ haq], by rw [x_up_n _ _ har, x_up_n _ _ han], ?_, ?_⟩
    · rw [x_u2_a _ _ haw, eI_38, x_up_n _ _ haw, eI_34, x_u2_a _ _ hav, eI_29, x_u2_a _ _ hav, eI_24, x_u2_a _ _ hav, x_u2_a _ _ haq, eI_5, x_up_n _ _ haq]
    · rw [eQ_48, x_u2_a _ _ hav, x_u2_a _ _ haw, x_up_n _ _ har, eQ_38, x_up_n _ _ haw, eQ_19, x_u2_a _ _ hav, eQ_14, x_u2_a _ _ hav, x_u2_a _ _ haq, x_up_n _ _ han, eQ_5, x_up_n _ _ haq]
abbrev rm_X1_init : Room := { frames := 3, cells := 4, slots := 404, locals := 58 }
theorem hd_X2_init : yX2_init.cls ≠ "java/lang/invoke/MethodHandle" ∧ yX2_init.cls ≠ "java/lang/invoke/VarHandle" ∧ (parseMethodDescriptor yX2_init.desc).map (fun d => d.parameters.length) = some 1 := by decide +kernel
set_option maxHeartbeats 4000000 in
set_option maxRecDepth 100000 in
theorem c_X1_init (l : Launch) (G : xG) {K N : Nat → Nat} {I : Nat → Nat → Int32} {Q : Nat → Nat → Option Nat} {J : Nat → Nat → Int64} (v : Nat) (h : K v = 2) : XM l yX1_init cX1_init 1 none rm_X1_init G Rv [.ref v] (K, N, I, Q, J) (fun _ S1 => ∃ pq pn rw rn K1 N1 I1 Q1, S1 = (K1, N1, I1, Q1, J) ∧ K pq = 0 ∧ K pn = 0 ∧ K rw = 0 ∧ K rn = 0 ∧ K1 = x_up (x_up (x_up (x_up K pq 4) pn 23) rw 4) rn 23 ∧ LZ K1 N1 Q1 v 2 pq pn rw rn 200 ∧ Q1 v 2 = none ∧ I1 v 3 = nI 0 ∧ I1 v 4 = nI 0 ∧ I1 v 5 = nI 0 ∧ (∀ a, K a ≠ 0 → a ≠ v → K1 a = K a ∧ N1 a = N a ∧ I1 a = I a ∧ Q1 a = Q a)) := by
  refine x_metv (lv := [_]) (by decide +kernel) (x_cc (by first | rfl | exact x_crf _) x_cn) (Nat.le_of_ble_eq_true rfl) rfl ?_
  intro pP eE sS mM aA bB hH cC Z C hini ret
  refine x_aload_n C D_X1_init_0.1 rfl rfl (by first | exact Or.inr ⟨_, rfl⟩ | exact va_rf_or _ | exact Or.inl rfl) ?_
  refine x_bipush C (v := nI 100) D_X1_init_0.2.1 (by decide +kernel) ?_
  refine x_callI (ret := none) C (y := yX2_init) (c_X2_init_1 l G v 100 h (by omega)) k_93 k_61 k_91 k_92 rfl hd_X2_init ⟨(Nat.le_of_ble_eq_true rfl), (Nat.le_of_ble_eq_true rfl)⟩ rfl (by first | exact Nat.le_of_ble_eq_true rfl | simp [x_crf, Value.category]) rfl rfl D_X1_init_0.2.2.1 ⟨(Nat.le_of_ble_eq_true rfl), (Nat.le_of_ble_eq_true rfl)⟩ (fun _ S_3 h_3 => ?_)
  obtain ⟨pq, pn, rw, rn, K1, N1, I1, Q1, rfl, hrest⟩ := h_3
  refine ret _ _ _ _ _ rfl D_X1_init_0.2.2.2 (Nat.le_of_ble_eq_true rfl) (Nat.le_of_ble_eq_true rfl) ?_
  exact ⟨pq, pn, rw, rn, K1, N1, I1, Q1, rfl, hrest⟩
abbrev rm_X2_init_5 : Room := { frames := 2, cells := 4, slots := 404, locals := 37 }
set_option maxHeartbeats 4000000 in
set_option maxRecDepth 100000 in
theorem c_X2_init_5 (l : Launch) (G : xG) {K N : Nat → Nat} {I : Nat → Nat → Int32} {Q : Nat → Nat → Option Nat} {J : Nat → Nat → Int64} (v m : Nat) (h : K v = 5) (hm : m ≤ 100) : XM l yX2_init cX2_init 2 none rm_X2_init_5 G Rv [.ref v, .int (nI m)] (K, N, I, Q, J) (fun _ S1 => ∃ pq pn rw rn K1 N1 I1 Q1, S1 = (K1, N1, I1, Q1, J) ∧ K pq = 0 ∧ K pn = 0 ∧ K rw = 0 ∧ K rn = 0 ∧ K1 = x_up (x_up (x_up (x_up K pq 4) pn 23) rw 4) rn 23 ∧ LZ K1 N1 Q1 v 5 pq pn rw rn (2 * m) ∧ Q1 v 2 = none ∧ I1 v 3 = nI 0 ∧ I1 v 4 = nI 0 ∧ I1 v 5 = nI 0 ∧ (∀ a, K a ≠ 0 → a ≠ v → K1 a = K a ∧ N1 a = N a ∧ I1 a = I a ∧ Q1 a = Q a)) := by
  refine x_metv (lv := [_, _]) (by decide +kernel) (x_cc (by first | rfl | exact x_crf _) (x_cc (by first | rfl | exact x_crf _) x_cn)) (Nat.le_of_ble_eq_true rfl) rfl ?_
  intro pP eE sS mM aA bB hH cC Z C hini ret
  refine x_aload_n C D_X2_init_0.1 rfl rfl (by first | exact Or.inr ⟨_, rfl⟩ | exact va_rf_or _ | exact Or.inl rfl) ?_
  refine x_objInit C k_94 k_84 k_85 rfl D_X2_init_0.2.1 (Nat.le_of_ble_eq_true rfl) (Nat.le_of_ble_eq_true rfl) ?_
  refine x_aload_n C D_X2_init_0.2.2.1 rfl rfl (by first | exact Or.inr ⟨_, rfl⟩ | exact va_rf_or _ | exact Or.inl rfl) ?_
  refine x_new C (ci := 3) rfl (by decide) in_X4 tyX4 tyX4_ok x_layX4 k_95 k_96 k_63 (Nat.le_of_ble_eq_true rfl) (Nat.le_of_ble_eq_true rfl) D_X2_init_0.2.2.2.1 (fun pq K_5 I_5 Q_5 fpq eK_5 eI_5 eQ_5 => ?_)
  refine x_dup C D_X2_init_0.2.2.2.2.1 (by first | rfl | exact x_crf _) ?_
  refine x_bipush C (v := nI 40) D_X2_init_0.2.2.2.2.2.1 (by decide +kernel) ?_
  refine x_callI (ret := none) C (y := yX4_init) (c_X4_init l G pq 40 (by rw [eK_5, x_up_s]) (by omega)) k_99 k_63 k_97 k_98 rfl hd_X4_init ⟨(Nat.le_of_ble_eq_true rfl), (Nat.le_of_ble_eq_true rfl)⟩ rfl (by first | exact Nat.le_of_ble_eq_true rfl | simp [x_crf, Value.category]) rfl rfl D_X2_init_0.2.2.2.2.2.2.1 ⟨(Nat.le_of_ble_eq_true rfl), (Nat.le_of_ble_eq_true rfl)⟩ (fun _ S_11 h_11 => ?_)
  obtain ⟨pn, hpn0, rfl⟩ := h_11
  have hvq : v ≠ pq := fun e => by rw [e, fpq] at h; omega
  have hnq : pn ≠ pq := fun e => by rw [e, eK_5, x_up_s] at hpn0; omega
  have hpnK : K pn = 0 := by rw [eK_5, x_up_n _ _ hnq] at hpn0; exact hpn0
  have hvn : v ≠ pn := fun e => by rw [e, hpnK] at h; omega
  have hk1 : x_up K_5 pn 23 v = 5 := by rw [x_up_n _ _ hvn, eK_5, x_up_n _ _ hvq]; exact h
  refine x_putFQ C (ci := 4) (k0 := 0) hk1 (by decide) rfl (by decide) in_X5 k_110 rfl tyX5 tyX5_ok nmX5 rfl (hini rfl) rfl (by first | exact rfl | exact (rfl : _ = va_rf (some _)) | exact (rfl : _ = va_rf none)) (by rfl) (by first | rfl | exact x_narq _ _) (by first | rfl | exact x_fitq _ _) rfl D_X2_init_0.2.2.2.2.2.2.2.1 (fun Q_14 eQ_14 => ?_)
  refine x_aload_n C D_X2_init_0.2.2.2.2.2.2.2.2.1 rfl rfl (by first | exact Or.inr ⟨_, rfl⟩ | exact va_rf_or _ | exact Or.inl rfl) ?_
  refine x_null C D_X2_init_0.2.2.2.2.2.2.2.2.2.1 ?_
  refine x_putQ C (ci := 4) (k0 := 2) hk1 (by decide) rfl (by decide) in_X5 k_112 rfl tyX5 tyX5_ok nmX5 rfl (by first | exact rfl | exact (rfl : _ = va_rf (some _)) | exact (rfl : _ = va_rf none)) (by rfl) (by first | rfl | exact x_narq _ _) (by first | rfl | exact x_fitq _ _) rfl D_X2_init_0.2.2.2.2.2.2.2.2.2.2.1 (fun Q_19 eQ_19 => ?_)
  refine x_aload_n C D_X2_init_0.2.2.2.2.2.2.2.2.2.2.2 rfl rfl (by first | exact Or.inr ⟨_, rfl⟩ | exact va_rf_or _ | exact Or.inl rfl) ?_
  refine x_iconst C (v := nI 0) D_X2_init_1.1 (by decide +kernel) ?_
  refine x_putI C (ci := 4) (k0 := 3) hk1 (by decide) rfl (by decide) in_X5 k_113 rfl tyX5 tyX5_ok nmX5 rfl (by rfl) rfl rfl rfl D_X2_init_1.2.1 (fun I_24 eI_24 => ?_)
  refine x_aload_n C D_X2_init_1.2.2.1 rfl rfl (by first | exact Or.inr ⟨_, rfl⟩ | exact va_rf_or _ | exact Or.inl rfl) ?_
  refine x_iconst C (v := nI 0) D_X2_init_1.2.2.2.1 (by decide +kernel) ?_
  refine x_putI C (ci := 4) (k0 := 4) hk1 (by decide) rfl (by decide) in_X5 k_114 rfl tyX5 tyX5_ok nmX5 rfl (by rfl) rfl rfl rfl D_X2_init_1.2.2.2.2.1 (fun I_29 eI_29 => ?_)
  refine x_aload_n C D_X2_init_1.2.2.2.2.2.1 rfl rfl (by first | exact Or.inr ⟨_, rfl⟩ | exact va_rf_or _ | exact Or.inl rfl) ?_
  refine x_iconst C (v := nI 0) D_X2_init_1.2.2.2.2.2.2.1 (by decide +kernel) ?_
  refine x_putI C (ci := 4) (k0 := 5) hk1 (by decide) rfl (by decide) in_X5 k_115 rfl tyX5 tyX5_ok nmX5 rfl (by rfl) rfl rfl rfl D_X2_init_1.2.2.2.2.2.2.2.1 (fun I_34 eI_34 => ?_)
  refine x_aload_n C D_X2_init_1.2.2.2.2.2.2.2.2.1 rfl rfl (by first | exact Or.inr ⟨_, rfl⟩ | exact va_rf_or _ | exact Or.inl rfl) ?_
  refine x_new C (ci := 3) rfl (by decide) in_X4 tyX4 tyX4_ok x_layX4 k_95 k_96 k_63 (Nat.le_of_ble_eq_true rfl) (Nat.le_of_ble_eq_true rfl) D_X2_init_1.2.2.2.2.2.2.2.2.2.1 (fun rw K_38 I_38 Q_38 frw eK_38 eI_38 eQ_38 => ?_)
  refine x_dup C D_X2_init_1.2.2.2.2.2.2.2.2.2.2.1 (by first | rfl | exact x_crf _) ?_
  refine x_iconst C (v := nI 2) D_X2_init_1.2.2.2.2.2.2.2.2.2.2.2 (by decide +kernel) ?_
  refine x_iload_n C D_X2_init_2.1 rfl rfl ?_
  refine x_imul C D_X2_init_2.2.1 ?_
  refine x_eqi _ (pk_mul 2 m) ?_
  refine x_callI (ret := none) C (y := yX4_init) (c_X4_init l G rw (2 * m) (by rw [eK_38, x_up_s]) (by omega)) k_99 k_63 k_97 k_98 rfl hd_X4_init ⟨(Nat.le_of_ble_eq_true rfl), (Nat.le_of_ble_eq_true rfl)⟩ rfl (by first | exact Nat.le_of_ble_eq_true rfl | simp [x_crf, Value.category]) rfl rfl D_X2_init_2.2.2.1 ⟨(Nat.le_of_ble_eq_true rfl), (Nat.le_of_ble_eq_true rfl)⟩ (fun _ S_45 h_45 => ?_)
  obtain ⟨rn, hrn0, rfl⟩ := h_45
  have hrw1 : rw ≠ pn := fun e => by rw [e, x_up_s] at frw; omega
  have hrw2 : rw ≠ pq := fun e => by rw [e, x_up_n _ _ hnq.symm, eK_5, x_up_s] at frw; omega
  have hrwK : K rw = 0 := by rw [x_up_n _ _ hrw1, eK_5, x_up_n _ _ hrw2] at frw; exact frw
  have hrn1 : rn ≠ rw := fun e => by rw [e, eK_38, x_up_s] at hrn0; omega
  have hrn2 : rn ≠ pn := fun e => by rw [e, eK_38, x_up_n _ _ hrw1.symm, x_up_s] at hrn0; omega
  have hrn3 : rn ≠ pq := fun e => by rw [e, eK_38, x_up_n _ _ hrw2.symm, x_up_n _ _ hnq.symm, eK_5, x_up_s] at hrn0; omega
  have hrnK : K rn = 0 := by rw [eK_38, x_up_n _ _ hrn1, x_up_n _ _ hrn2, eK_5, x_up_n _ _ hrn3] at hrn0; exact hrn0
  have hvw : v ≠ rw := fun e => by rw [e, hrwK] at h; omega
  have hvr : v ≠ rn := fun e => by rw [e, hrnK] at h; omega
  have hk2 : x_up K_38 rn 23 v = 5 := by rw [x_up_n _ _ hvr, eK_38, x_up_n _ _ hvw]; exact hk1
  refine x_putFQ C (ci := 4) (k0 := 1) hk2 (by decide) rfl (by decide) in_X5 k_111 rfl tyX5 tyX5_ok nmX5 rfl (hini rfl) rfl (by first | exact rfl | exact (rfl : _ = va_rf (some _)) | exact (rfl : _ = va_rf none)) (by rfl) (by first | rfl | exact x_narq _ _) (by first | rfl | exact x_fitq _ _) rfl D_X2_init_2.2.2.2.1 (fun Q_48 eQ_48 => ?_)
  refine ret _ _ _ _ _ rfl D_X2_init_2.2.2.2.2 (Nat.le_of_ble_eq_true rfl) (Nat.le_of_ble_eq_true rfl) ?_
  refine ⟨pq, pn, rw, rn, _, _, _, _, rfl, fpq, hpnK, hrwK, hrnK, by rw [eK_38, eK_5], ⟨hk2, by omega, ?_, ?_, ⟨?_, ?_, ?_, ?_, by omega⟩, ⟨?_, ?_, ?_, ?_, by omega⟩, hrw2.symm, hrn2.symm⟩, ?_, ?_, ?_, ?_, ?_⟩
  · rw [eQ_48, x_u2_j _ _ (by omega), x_u2_a _ _ hvw, x_up_n _ _ hvr, eQ_38, x_up_n _ _ hvw, eQ_19, x_u2_j _ _ (by omega), eQ_14, x_u2_s]
  · rw [eQ_48, x_u2_s]
  · rw [x_up_n _ _ hrn3.symm, eK_38, x_up_n _ _ hrw2.symm, x_up_n _ _ hnq.symm, eK_5, x_up_s]
  · rw [eQ_48, x_u2_a _ _ hvq.symm, x_u2_a _ _ hrw2.symm, x_up_n _ _ hrn3.symm, eQ_38, x_up_n _ _ hrw2.symm, eQ_19, x_u2_a _ _ hvq.symm, eQ_14, x_u2_a _ _ hvq.symm, x_u2_s]
  · rw [x_up_n _ _ hrn2.symm, eK_38, x_up_n _ _ hrw1.symm, x_up_s]
  · rw [x_up_n _ _ hrn2.symm, x_up_s]
  · rw [x_up_n _ _ hrn1.symm, eK_38, x_up_s]
  · rw [eQ_48, x_u2_a _ _ hvw.symm, x_u2_s]
  · rw [x_up_s]
  · rw [x_up_s]
  · rw [eQ_48, x_u2_j _ _ (by omega), x_u2_a _ _ hvw, x_up_n _ _ hvr, eQ_38, x_up_n _ _ hvw, eQ_19, x_u2_s]
  · rw [x_u2_a _ _ hvw, eI_38, x_up_n _ _ hvw, eI_34, x_u2_j _ _ (by omega), eI_29, x_u2_j _ _ (by omega), eI_24, x_u2_s]
  · rw [x_u2_a _ _ hvw, eI_38, x_up_n _ _ hvw, eI_34, x_u2_j _ _ (by omega), eI_29, x_u2_s]
  · rw [x_u2_a _ _ hvw, eI_38, x_up_n _ _ hvw, eI_34, x_u2_s]
  · intro a ha hav
    have haq : a ≠ pq := fun e => ha (e ▸ fpq)
    have han : a ≠ pn := fun e => ha (e ▸ hpnK)
    have haw : a ≠ rw := fun e => ha (e ▸ hrwK)
    have har : a ≠ rn := fun e => ha (e ▸ hrnK)
    refine ⟨by rw [x_up_n _ _ har, eK_38, x_up_n _ _ haw, x_up_n _ _ han, eK_5, x_up_n _ _ haq], by rw [x_up_n _ _ har, x_up_n _ _ han], ?_, ?_⟩
    · rw [x_u2_a _ _ haw, eI_38, x_up_n _ _ haw, eI_34, x_u2_a _ _ hav, eI_29, x_u2_a _ _ hav, eI_24, x_u2_a _ _ hav, x_u2_a _ _ haq, eI_5, x_up_n _ _ haq]
    · rw [eQ_48, x_u2_a _ _ hav, x_u2_a _ _ haw, x_up_n _ _ har, eQ_38, x_up_n _ _ haw, eQ_19, x_u2_a _ _ hav, eQ_14, x_u2_a _ _ hav, x_u2_a _ _ haq, x_up_n _ _ han, eQ_5, x_up_n _ _ haq]
abbrev rm_X5_init : Room := { frames := 3, cells := 4, slots := 404, locals := 58 }
set_option maxHeartbeats 4000000 in
set_option maxRecDepth 100000 in
theorem c_X5_init (l : Launch) (G : xG) {K N : Nat → Nat} {I : Nat → Nat → Int32} {Q : Nat → Nat → Option Nat} {J : Nat → Nat → Int64} (v : Nat) (h : K v = 5) : XM l yX5_init cX5_init 1 none rm_X5_init G Rv [.ref v] (K, N, I, Q, J) (fun _ S1 => ∃ pq pn rw rn K1 N1 I1 Q1, S1 = (K1, N1, I1, Q1, J) ∧ K pq = 0 ∧ K pn = 0 ∧ K rw = 0 ∧ K rn = 0 ∧ K1 = x_up (x_up (x_up (x_up K pq 4) pn 23) rw 4) rn 23 ∧ LZ K1 N1 Q1 v 5 pq pn rw rn 120 ∧ Q1 v 2 = none ∧ I1 v 3 = nI 0 ∧ I1 v 4 = nI 0 ∧ I1 v 5 = nI 0 ∧ (∀ a, K a ≠ 0 → a ≠ v → K1 a = K a ∧ N1 a = N a ∧ I1 a = I a ∧ Q1 a = Q a)) := by
  refine x_metv (lv := [_]) (by decide +kernel) (x_cc (by first | rfl | exact x_crf _) x_cn) (Nat.le_of_ble_eq_true rfl) rfl ?_
  intro pP eE sS mM aA bB hH cC Z C hini ret
  refine x_aload_n C D_X5_init_0.1 rfl rfl (by first | exact Or.inr ⟨_, rfl⟩ | exact va_rf_or _ | exact Or.inl rfl) ?_
  refine x_bipush C (v := nI 60) D_X5_init_0.2.1 (by decide +kernel) ?_
  refine x_callI (ret := none) C (y := yX2_init) (c_X2_init_5 l G v 60 h (by omega)) k_93 k_61 k_171 k_92 rfl hd_X2_init ⟨(Nat.le_of_ble_eq_true rfl), (Nat.le_of_ble_eq_true rfl)⟩ rfl (by first | exact Nat.le_of_ble_eq_true rfl | simp [x_crf, Value.category]) rfl rfl D_X5_init_0.2.2.1 ⟨(Nat.le_of_ble_eq_true rfl), (Nat.le_of_ble_eq_true rfl)⟩ (fun _ S_3 h_3 => ?_)
  obtain ⟨pq, pn, rw, rn, K1, N1, I1, Q1, rfl, hrest⟩ := h_3
  refine ret _ _ _ _ _ rfl D_X5_init_0.2.2.2 (Nat.le_of_ble_eq_true rfl) (Nat.le_of_ble_eq_true rfl) ?_
  exact ⟨pq, pn, rw, rn, K1, N1, I1, Q1, rfl, hrest⟩
