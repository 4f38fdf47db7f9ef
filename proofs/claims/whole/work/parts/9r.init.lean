abbrev rm_X9_initF : Room := { frames := 1, cells := 11, slots := 1742, locals := 16 }
set_option maxHeartbeats 8000000 in
set_option maxRecDepth 100000 in
theorem c_X9_initF (l : Launch) (G : xG) {K N : Nat → Nat} {I : Nat → Nat → Int32} {Q : Nat → Nat → Option Nat} {J : Nat → Nat → Int64} (m : Nat) (h : K m = 9) : XM l yX9_init cX9_init 1 none rm_X9_initF G Rv [.ref m] (K, N, I, Q, J) (fun _ S1 => ∃ ar K1 N1 I1 Q1, S1 = (K1, N1, I1, Q1, J) ∧ MZ K1 N1 Q1 m ar ∧ I1 m = I m ∧ (∀ a, K a ≠ 0 → a ≠ m → K1 a = K a ∧ N1 a = N a ∧ I1 a = I a ∧ Q1 a = Q a) ∧ (∀ j, mO j = true → K (ar j) = 0)) := by
  refine x_metv (lv := [_]) (by decide +kernel) (x_cc (by first | rfl | exact x_crf _) x_cn) (Nat.le_of_ble_eq_true rfl) rfl ?_
  intro pP eE sS mM aA bB hH cC Z C hini ret
  have hkm0 : K m = 9 := h
  have hfr0 : ∀ a, K a ≠ 0 → a ≠ m → K a = K a ∧ N a = N a ∧ I a = I a := fun a _ _ => ⟨rfl, rfl, rfl⟩
  have him0 : I m = I m := rfl
  refine x_aload_n C D_X9_init_0.1 rfl rfl (by first | exact Or.inr ⟨_, rfl⟩ | exact va_rf_or _ | exact Or.inl rfl) ?_
  refine x_objInit C k_901 k_84 k_85 rfl D_X9_init_0.2.1 (Nat.le_of_ble_eq_true rfl) (Nat.le_of_ble_eq_true rfl) ?_
  refine x_aload_n C D_X9_init_0.2.2.1 rfl rfl (by first | exact Or.inr ⟨_, rfl⟩ | exact va_rf_or _ | exact Or.inl rfl) ?_
  refine x_sipush C (v := nI 202) D_X9_init_0.2.2.2.1 (by decide +kernel) ?_
  refine x_newI C 202 rfl (by omega) k_960 (Nat.le_of_ble_eq_true rfl) (Nat.le_of_ble_eq_true rfl) D_X9_init_0.2.2.2.2.1 (fun q5 K_8 N_8 I_8 fq5 eK_8 eN_8 eI_8 => ?_)
  have nm5 : x_ne m q5 := fun e => by have h9 := hkm0; rw [e] at h9; rw [h9] at fq5; omega
  have h0_5 : K q5 = 0 := by
    by_cases z : K q5 = 0
    · exact z
    · obtain ⟨z1, -⟩ := hfr0 q5 z (fun e => nm5 e.symm)
      rw [z1] at fq5
      exact absurd fq5 z
  have hkm1 : K_8 m = 9 := by rw [eK_8, x_up_n _ _ nm5]; exact hkm0
  have hk1_5 : K_8 q5 = 21 := by rw [eK_8, x_up_s]
  have hl1_5 : N_8 q5 = 202 := by rw [eN_8, x_up_s]
  have hfr1 : ∀ a, K a ≠ 0 → a ≠ m → K_8 a = K a ∧ N_8 a = N a ∧ I_8 a = I a := fun a h0 h1 => by
    obtain ⟨z1, z2, z3⟩ := hfr0 a h0 h1
    have han : a ≠ q5 := fun e => by rw [← e, z1] at fq5; exact h0 fq5
    rw [eK_8, eN_8, eI_8, x_up_n _ _ han, x_up_n _ _ han, x_up_n _ _ han]; exact ⟨z1, z2, z3⟩
  have him1 : I_8 m = I m := by rw [eI_8, x_up_n _ _ nm5, him0]
  refine x_putFQ C (ci := 8) (k0 := 5) hkm1 (by decide) rfl (by decide) in_X9 k_907 rfl tyX9 tyX9_ok nmX9 rfl (hini rfl) rfl (by first | exact rfl | exact (rfl : _ = va_rf (some _)) | exact (rfl : _ = va_rf none)) (by rfl) (by first | rfl | exact x_narq _ _) (by first | rfl | exact x_fitq _ _) rfl D_X9_init_0.2.2.2.2.2.1 (fun Q_10 eQ_10 => ?_)
  refine x_aload_n C D_X9_init_0.2.2.2.2.2.2.1 rfl rfl (by first | exact Or.inr ⟨_, rfl⟩ | exact va_rf_or _ | exact Or.inl rfl) ?_
  refine x_sipush C (v := nI 202) D_X9_init_0.2.2.2.2.2.2.2.1 (by decide +kernel) ?_
  refine x_newZ C 202 rfl (by omega) k_961 (Nat.le_of_ble_eq_true rfl) (Nat.le_of_ble_eq_true rfl) D_X9_init_0.2.2.2.2.2.2.2.2.1 (fun q6 K_17 N_17 I_17 fq6 eK_17 eN_17 eI_17 => ?_)
  have nm6 : x_ne m q6 := fun e => by have h9 := hkm1; rw [e] at h9; rw [h9] at fq6; omega
  have h0_6 : K q6 = 0 := by
    by_cases z : K q6 = 0
    · exact z
    · obtain ⟨z1, -⟩ := hfr1 q6 z (fun e => nm6 e.symm)
      rw [z1] at fq6
      exact absurd fq6 z
  have nn6_5 : x_ne q5 q6 := fun e => by have h9 := hk1_5; rw [e] at h9; rw [h9] at fq6; omega
  have hkm2 : K_17 m = 9 := by rw [eK_17, x_up_n _ _ nm6]; exact hkm1
  have hk2_6 : K_17 q6 = 22 := by rw [eK_17, x_up_s]
  have hl2_6 : N_17 q6 = 202 := by rw [eN_17, x_up_s]
  have hk2_5 : K_17 q5 = 21 := by rw [eK_17, x_up_n _ _ nn6_5]; exact hk1_5
  have hl2_5 : N_17 q5 = 202 := by rw [eN_17, x_up_n _ _ nn6_5]; exact hl1_5
  have hfr2 : ∀ a, K a ≠ 0 → a ≠ m → K_17 a = K a ∧ N_17 a = N a ∧ I_17 a = I a := fun a h0 h1 => by
    obtain ⟨z1, z2, z3⟩ := hfr1 a h0 h1
    have han : a ≠ q6 := fun e => by rw [← e, z1] at fq6; exact h0 fq6
    rw [eK_17, eN_17, eI_17, x_up_n _ _ han, x_up_n _ _ han, x_up_n _ _ han]; exact ⟨z1, z2, z3⟩
  have him2 : I_17 m = I m := by rw [eI_17, x_up_n _ _ nm6, him1]
  refine x_putFQ C (ci := 8) (k0 := 6) hkm2 (by decide) rfl (by decide) in_X9 k_908 rfl tyX9 tyX9_ok nmX9 rfl (hini rfl) rfl (by first | exact rfl | exact (rfl : _ = va_rf (some _)) | exact (rfl : _ = va_rf none)) (by rfl) (by first | rfl | exact x_narq _ _) (by first | rfl | exact x_fitq _ _) rfl D_X9_init_0.2.2.2.2.2.2.2.2.2.1 (fun Q_19 eQ_19 => ?_)
  refine x_aload_n C D_X9_init_0.2.2.2.2.2.2.2.2.2.2.1 rfl rfl (by first | exact Or.inr ⟨_, rfl⟩ | exact va_rf_or _ | exact Or.inl rfl) ?_
  refine x_sipush C (v := nI 202) D_X9_init_0.2.2.2.2.2.2.2.2.2.2.2 (by decide +kernel) ?_
  refine x_newI C 202 rfl (by omega) k_960 (Nat.le_of_ble_eq_true rfl) (Nat.le_of_ble_eq_true rfl) D_X9_init_1.1 (fun q7 K_26 N_26 I_26 fq7 eK_26 eN_26 eI_26 => ?_)
  have nm7 : x_ne m q7 := fun e => by have h9 := hkm2; rw [e] at h9; rw [h9] at fq7; omega
  have h0_7 : K q7 = 0 := by
    by_cases z : K q7 = 0
    · exact z
    · obtain ⟨z1, -⟩ := hfr2 q7 z (fun e => nm7 e.symm)
      rw [z1] at fq7
      exact absurd fq7 z
  have nn7_5 : x_ne q5 q7 := fun e => by have h9 := hk2_5; rw [e] at h9; rw [h9] at fq7; omega
  have nn7_6 : x_ne q6 q7 := fun e => by have h9 := hk2_6; rw [e] at h9; rw [h9] at fq7; omega
  have hkm3 : K_26 m = 9 := by rw [eK_26, x_up_n _ _ nm7]; exact hkm2
  have hk3_7 : K_26 q7 = 21 := by rw [eK_26, x_up_s]
  have hl3_7 : N_26 q7 = 202 := by rw [eN_26, x_up_s]
  have hk3_5 : K_26 q5 = 21 := by rw [eK_26, x_up_n _ _ nn7_5]; exact hk2_5
  have hl3_5 : N_26 q5 = 202 := by rw [eN_26, x_up_n _ _ nn7_5]; exact hl2_5
  have hk3_6 : K_26 q6 = 22 := by rw [eK_26, x_up_n _ _ nn7_6]; exact hk2_6
  have hl3_6 : N_26 q6 = 202 := by rw [eN_26, x_up_n _ _ nn7_6]; exact hl2_6
  have hfr3 : ∀ a, K a ≠ 0 → a ≠ m → K_26 a = K a ∧ N_26 a = N a ∧ I_26 a = I a := fun a h0 h1 => by
    obtain ⟨z1, z2, z3⟩ := hfr2 a h0 h1
    have han : a ≠ q7 := fun e => by rw [← e, z1] at fq7; exact h0 fq7
    rw [eK_26, eN_26, eI_26, x_up_n _ _ han, x_up_n _ _ han, x_up_n _ _ han]; exact ⟨z1, z2, z3⟩
  have him3 : I_26 m = I m := by rw [eI_26, x_up_n _ _ nm7, him2]
  refine x_putFQ C (ci := 8) (k0 := 7) hkm3 (by decide) rfl (by decide) in_X9 k_909 rfl tyX9 tyX9_ok nmX9 rfl (hini rfl) rfl (by first | exact rfl | exact (rfl : _ = va_rf (some _)) | exact (rfl : _ = va_rf none)) (by rfl) (by first | rfl | exact x_narq _ _) (by first | rfl | exact x_fitq _ _) rfl D_X9_init_1.2.1 (fun Q_28 eQ_28 => ?_)
  refine x_aload_n C D_X9_init_1.2.2.1 rfl rfl (by first | exact Or.inr ⟨_, rfl⟩ | exact va_rf_or _ | exact Or.inl rfl) ?_
  refine x_sipush C (v := nI 202) D_X9_init_1.2.2.2.1 (by decide +kernel) ?_
  refine x_newI C 202 rfl (by omega) k_960 (Nat.le_of_ble_eq_true rfl) (Nat.le_of_ble_eq_true rfl) D_X9_init_1.2.2.2.2.1 (fun q8 K_35 N_35 I_35 fq8 eK_35 eN_35 eI_35 => ?_)
  have nm8 : x_ne m q8 := fun e => by have h9 := hkm3; rw [e] at h9; rw [h9] at fq8; omega
  have h0_8 : K q8 = 0 := by
    by_cases z : K q8 = 0
    · exact z
    · obtain ⟨z1, -⟩ := hfr3 q8 z (fun e => nm8 e.symm)
      rw [z1] at fq8
      exact absurd fq8 z
  have nn8_5 : x_ne q5 q8 := fun e => by have h9 := hk3_5; rw [e] at h9; rw [h9] at fq8; omega
  have nn8_6 : x_ne q6 q8 := fun e => by have h9 := hk3_6; rw [e] at h9; rw [h9] at fq8; omega
  have nn8_7 : x_ne q7 q8 := fun e => by have h9 := hk3_7; rw [e] at h9; rw [h9] at fq8; omega
  have hkm4 : K_35 m = 9 := by rw [eK_35, x_up_n _ _ nm8]; exact hkm3
  have hk4_8 : K_35 q8 = 21 := by rw [eK_35, x_up_s]
  have hl4_8 : N_35 q8 = 202 := by rw [eN_35, x_up_s]
  have hk4_5 : K_35 q5 = 21 := by rw [eK_35, x_up_n _ _ nn8_5]; exact hk3_5
  have hl4_5 : N_35 q5 = 202 := by rw [eN_35, x_up_n _ _ nn8_5]; exact hl3_5
  have hk4_6 : K_35 q6 = 22 := by rw [eK_35, x_up_n _ _ nn8_6]; exact hk3_6
  have hl4_6 : N_35 q6 = 202 := by rw [eN_35, x_up_n _ _ nn8_6]; exact hl3_6
  have hk4_7 : K_35 q7 = 21 := by rw [eK_35, x_up_n _ _ nn8_7]; exact hk3_7
  have hl4_7 : N_35 q7 = 202 := by rw [eN_35, x_up_n _ _ nn8_7]; exact hl3_7
  have hfr4 : ∀ a, K a ≠ 0 → a ≠ m → K_35 a = K a ∧ N_35 a = N a ∧ I_35 a = I a := fun a h0 h1 => by
    obtain ⟨z1, z2, z3⟩ := hfr3 a h0 h1
    have han : a ≠ q8 := fun e => by rw [← e, z1] at fq8; exact h0 fq8
    rw [eK_35, eN_35, eI_35, x_up_n _ _ han, x_up_n _ _ han, x_up_n _ _ han]; exact ⟨z1, z2, z3⟩
  have him4 : I_35 m = I m := by rw [eI_35, x_up_n _ _ nm8, him3]
  refine x_putFQ C (ci := 8) (k0 := 8) hkm4 (by decide) rfl (by decide) in_X9 k_910 rfl tyX9 tyX9_ok nmX9 rfl (hini rfl) rfl (by first | exact rfl | exact (rfl : _ = va_rf (some _)) | exact (rfl : _ = va_rf none)) (by rfl) (by first | rfl | exact x_narq _ _) (by first | rfl | exact x_fitq _ _) rfl D_X9_init_1.2.2.2.2.2.1 (fun Q_37 eQ_37 => ?_)
  refine x_aload_n C D_X9_init_1.2.2.2.2.2.2.1 rfl rfl (by first | exact Or.inr ⟨_, rfl⟩ | exact va_rf_or _ | exact Or.inl rfl) ?_
  refine x_sipush C (v := nI 202) D_X9_init_1.2.2.2.2.2.2.2.1 (by decide +kernel) ?_
  refine x_newI C 202 rfl (by omega) k_960 (Nat.le_of_ble_eq_true rfl) (Nat.le_of_ble_eq_true rfl) D_X9_init_1.2.2.2.2.2.2.2.2.1 (fun q9 K_44 N_44 I_44 fq9 eK_44 eN_44 eI_44 => ?_)
  have nm9 : x_ne m q9 := fun e => by have h9 := hkm4; rw [e] at h9; rw [h9] at fq9; omega
  have h0_9 : K q9 = 0 := by
    by_cases z : K q9 = 0
    · exact z
    · obtain ⟨z1, -⟩ := hfr4 q9 z (fun e => nm9 e.symm)
      rw [z1] at fq9
      exact absurd fq9 z
  have nn9_5 : x_ne q5 q9 := fun e => by have h9 := hk4_5; rw [e] at h9; rw [h9] at fq9; omega
  have nn9_6 : x_ne q6 q9 := fun e => by have h9 := hk4_6; rw [e] at h9; rw [h9] at fq9; omega
  have nn9_7 : x_ne q7 q9 := fun e => by have h9 := hk4_7; rw [e] at h9; rw [h9] at fq9; omega
  have nn9_8 : x_ne q8 q9 := fun e => by have h9 := hk4_8; rw [e] at h9; rw [h9] at fq9; omega
  have hkm5 : K_44 m = 9 := by rw [eK_44, x_up_n _ _ nm9]; exact hkm4
  have hk5_9 : K_44 q9 = 21 := by rw [eK_44, x_up_s]
  have hl5_9 : N_44 q9 = 202 := by rw [eN_44, x_up_s]
  have hk5_5 : K_44 q5 = 21 := by rw [eK_44, x_up_n _ _ nn9_5]; exact hk4_5
  have hl5_5 : N_44 q5 = 202 := by rw [eN_44, x_up_n _ _ nn9_5]; exact hl4_5
  have hk5_6 : K_44 q6 = 22 := by rw [eK_44, x_up_n _ _ nn9_6]; exact hk4_6
  have hl5_6 : N_44 q6 = 202 := by rw [eN_44, x_up_n _ _ nn9_6]; exact hl4_6
  have hk5_7 : K_44 q7 = 21 := by rw [eK_44, x_up_n _ _ nn9_7]; exact hk4_7
  have hl5_7 : N_44 q7 = 202 := by rw [eN_44, x_up_n _ _ nn9_7]; exact hl4_7
  have hk5_8 : K_44 q8 = 21 := by rw [eK_44, x_up_n _ _ nn9_8]; exact hk4_8
  have hl5_8 : N_44 q8 = 202 := by rw [eN_44, x_up_n _ _ nn9_8]; exact hl4_8
  have hfr5 : ∀ a, K a ≠ 0 → a ≠ m → K_44 a = K a ∧ N_44 a = N a ∧ I_44 a = I a := fun a h0 h1 => by
    obtain ⟨z1, z2, z3⟩ := hfr4 a h0 h1
    have han : a ≠ q9 := fun e => by rw [← e, z1] at fq9; exact h0 fq9
    rw [eK_44, eN_44, eI_44, x_up_n _ _ han, x_up_n _ _ han, x_up_n _ _ han]; exact ⟨z1, z2, z3⟩
  have him5 : I_44 m = I m := by rw [eI_44, x_up_n _ _ nm9, him4]
  refine x_putFQ C (ci := 8) (k0 := 9) hkm5 (by decide) rfl (by decide) in_X9 k_911 rfl tyX9 tyX9_ok nmX9 rfl (hini rfl) rfl (by first | exact rfl | exact (rfl : _ = va_rf (some _)) | exact (rfl : _ = va_rf none)) (by rfl) (by first | rfl | exact x_narq _ _) (by first | rfl | exact x_fitq _ _) rfl D_X9_init_1.2.2.2.2.2.2.2.2.2.1 (fun Q_46 eQ_46 => ?_)
  refine x_aload_n C D_X9_init_1.2.2.2.2.2.2.2.2.2.2.1 rfl rfl (by first | exact Or.inr ⟨_, rfl⟩ | exact va_rf_or _ | exact Or.inl rfl) ?_
  refine x_bipush C (v := nI 122) D_X9_init_1.2.2.2.2.2.2.2.2.2.2.2 (by decide +kernel) ?_
  refine x_newI C 122 rfl (by omega) k_960 (Nat.le_of_ble_eq_true rfl) (Nat.le_of_ble_eq_true rfl) D_X9_init_2.1 (fun q12 K_52 N_52 I_52 fq12 eK_52 eN_52 eI_52 => ?_)
  have nm12 : x_ne m q12 := fun e => by have h9 := hkm5; rw [e] at h9; rw [h9] at fq12; omega
  have h0_12 : K q12 = 0 := by
    by_cases z : K q12 = 0
    · exact z
    · obtain ⟨z1, -⟩ := hfr5 q12 z (fun e => nm12 e.symm)
      rw [z1] at fq12
      exact absurd fq12 z
  have nn12_5 : x_ne q5 q12 := fun e => by have h9 := hk5_5; rw [e] at h9; rw [h9] at fq12; omega
  have nn12_6 : x_ne q6 q12 := fun e => by have h9 := hk5_6; rw [e] at h9; rw [h9] at fq12; omega
  have nn12_7 : x_ne q7 q12 := fun e => by have h9 := hk5_7; rw [e] at h9; rw [h9] at fq12; omega
  have nn12_8 : x_ne q8 q12 := fun e => by have h9 := hk5_8; rw [e] at h9; rw [h9] at fq12; omega
  have nn12_9 : x_ne q9 q12 := fun e => by have h9 := hk5_9; rw [e] at h9; rw [h9] at fq12; omega
  have hkm6 : K_52 m = 9 := by rw [eK_52, x_up_n _ _ nm12]; exact hkm5
  have hk6_12 : K_52 q12 = 21 := by rw [eK_52, x_up_s]
  have hl6_12 : N_52 q12 = 122 := by rw [eN_52, x_up_s]
  have hk6_5 : K_52 q5 = 21 := by rw [eK_52, x_up_n _ _ nn12_5]; exact hk5_5
  have hl6_5 : N_52 q5 = 202 := by rw [eN_52, x_up_n _ _ nn12_5]; exact hl5_5
  have hk6_6 : K_52 q6 = 22 := by rw [eK_52, x_up_n _ _ nn12_6]; exact hk5_6
  have hl6_6 : N_52 q6 = 202 := by rw [eN_52, x_up_n _ _ nn12_6]; exact hl5_6
  have hk6_7 : K_52 q7 = 21 := by rw [eK_52, x_up_n _ _ nn12_7]; exact hk5_7
  have hl6_7 : N_52 q7 = 202 := by rw [eN_52, x_up_n _ _ nn12_7]; exact hl5_7
  have hk6_8 : K_52 q8 = 21 := by rw [eK_52, x_up_n _ _ nn12_8]; exact hk5_8
  have hl6_8 : N_52 q8 = 202 := by rw [eN_52, x_up_n _ _ nn12_8]; exact hl5_8
  have hk6_9 : K_52 q9 = 21 := by rw [eK_52, x_up_n _ _ nn12_9]; exact hk5_9
  have hl6_9 : N_52 q9 = 202 := by rw [eN_52, x_up_n _ _ nn12_9]; exact hl5_9
  have hfr6 : ∀ a, K a ≠ 0 → a ≠ m → K_52 a = K a ∧ N_52 a = N a ∧ I_52 a = I a := fun a h0 h1 => by
    obtain ⟨z1, z2, z3⟩ := hfr5 a h0 h1
    have han : a ≠ q12 := fun e => by rw [← e, z1] at fq12; exact h0 fq12
    rw [eK_52, eN_52, eI_52, x_up_n _ _ han, x_up_n _ _ han, x_up_n _ _ han]; exact ⟨z1, z2, z3⟩
  have him6 : I_52 m = I m := by rw [eI_52, x_up_n _ _ nm12, him5]
  refine x_putFQ C (ci := 8) (k0 := 12) hkm6 (by decide) rfl (by decide) in_X9 k_914 rfl tyX9 tyX9_ok nmX9 rfl (hini rfl) rfl (by first | exact rfl | exact (rfl : _ = va_rf (some _)) | exact (rfl : _ = va_rf none)) (by rfl) (by first | rfl | exact x_narq _ _) (by first | rfl | exact x_fitq _ _) rfl D_X9_init_2.2.1 (fun Q_54 eQ_54 => ?_)
  refine x_aload_n C D_X9_init_2.2.2.1 rfl rfl (by first | exact Or.inr ⟨_, rfl⟩ | exact va_rf_or _ | exact Or.inl rfl) ?_
  refine x_bipush C (v := nI 122) D_X9_init_2.2.2.2.1 (by decide +kernel) ?_
  refine x_newI C 122 rfl (by omega) k_960 (Nat.le_of_ble_eq_true rfl) (Nat.le_of_ble_eq_true rfl) D_X9_init_2.2.2.2.2.1 (fun q13 K_60 N_60 I_60 fq13 eK_60 eN_60 eI_60 => ?_)
  have nm13 : x_ne m q13 := fun e => by have h9 := hkm6; rw [e] at h9; rw [h9] at fq13; omega
  have h0_13 : K q13 = 0 := by
    by_cases z : K q13 = 0
    · exact z
    · obtain ⟨z1, -⟩ := hfr6 q13 z (fun e => nm13 e.symm)
      rw [z1] at fq13
      exact absurd fq13 z
  have nn13_5 : x_ne q5 q13 := fun e => by have h9 := hk6_5; rw [e] at h9; rw [h9] at fq13; omega
  have nn13_6 : x_ne q6 q13 := fun e => by have h9 := hk6_6; rw [e] at h9; rw [h9] at fq13; omega
  have nn13_7 : x_ne q7 q13 := fun e => by have h9 := hk6_7; rw [e] at h9; rw [h9] at fq13; omega
  have nn13_8 : x_ne q8 q13 := fun e => by have h9 := hk6_8; rw [e] at h9; rw [h9] at fq13; omega
  have nn13_9 : x_ne q9 q13 := fun e => by have h9 := hk6_9; rw [e] at h9; rw [h9] at fq13; omega
  have nn13_12 : x_ne q12 q13 := fun e => by have h9 := hk6_12; rw [e] at h9; rw [h9] at fq13; omega
  have hkm7 : K_60 m = 9 := by rw [eK_60, x_up_n _ _ nm13]; exact hkm6
  have hk7_13 : K_60 q13 = 21 := by rw [eK_60, x_up_s]
  have hl7_13 : N_60 q13 = 122 := by rw [eN_60, x_up_s]
  have hk7_5 : K_60 q5 = 21 := by rw [eK_60, x_up_n _ _ nn13_5]; exact hk6_5
  have hl7_5 : N_60 q5 = 202 := by rw [eN_60, x_up_n _ _ nn13_5]; exact hl6_5
  have hk7_6 : K_60 q6 = 22 := by rw [eK_60, x_up_n _ _ nn13_6]; exact hk6_6
  have hl7_6 : N_60 q6 = 202 := by rw [eN_60, x_up_n _ _ nn13_6]; exact hl6_6
  have hk7_7 : K_60 q7 = 21 := by rw [eK_60, x_up_n _ _ nn13_7]; exact hk6_7
  have hl7_7 : N_60 q7 = 202 := by rw [eN_60, x_up_n _ _ nn13_7]; exact hl6_7
  have hk7_8 : K_60 q8 = 21 := by rw [eK_60, x_up_n _ _ nn13_8]; exact hk6_8
  have hl7_8 : N_60 q8 = 202 := by rw [eN_60, x_up_n _ _ nn13_8]; exact hl6_8
  have hk7_9 : K_60 q9 = 21 := by rw [eK_60, x_up_n _ _ nn13_9]; exact hk6_9
  have hl7_9 : N_60 q9 = 202 := by rw [eN_60, x_up_n _ _ nn13_9]; exact hl6_9
  have hk7_12 : K_60 q12 = 21 := by rw [eK_60, x_up_n _ _ nn13_12]; exact hk6_12
  have hl7_12 : N_60 q12 = 122 := by rw [eN_60, x_up_n _ _ nn13_12]; exact hl6_12
  have hfr7 : ∀ a, K a ≠ 0 → a ≠ m → K_60 a = K a ∧ N_60 a = N a ∧ I_60 a = I a := fun a h0 h1 => by
    obtain ⟨z1, z2, z3⟩ := hfr6 a h0 h1
    have han : a ≠ q13 := fun e => by rw [← e, z1] at fq13; exact h0 fq13
    rw [eK_60, eN_60, eI_60, x_up_n _ _ han, x_up_n _ _ han, x_up_n _ _ han]; exact ⟨z1, z2, z3⟩
  have him7 : I_60 m = I m := by rw [eI_60, x_up_n _ _ nm13, him6]
  refine x_putFQ C (ci := 8) (k0 := 13) hkm7 (by decide) rfl (by decide) in_X9 k_915 rfl tyX9 tyX9_ok nmX9 rfl (hini rfl) rfl (by first | exact rfl | exact (rfl : _ = va_rf (some _)) | exact (rfl : _ = va_rf none)) (by rfl) (by first | rfl | exact x_narq _ _) (by first | rfl | exact x_fitq _ _) rfl D_X9_init_2.2.2.2.2.2.1 (fun Q_62 eQ_62 => ?_)
  refine x_aload_n C D_X9_init_2.2.2.2.2.2.2.1 rfl rfl (by first | exact Or.inr ⟨_, rfl⟩ | exact va_rf_or _ | exact Or.inl rfl) ?_
  refine x_bipush C (v := nI 122) D_X9_init_2.2.2.2.2.2.2.2.1 (by decide +kernel) ?_
  refine x_newZ C 122 rfl (by omega) k_961 (Nat.le_of_ble_eq_true rfl) (Nat.le_of_ble_eq_true rfl) D_X9_init_2.2.2.2.2.2.2.2.2.1 (fun q14 K_68 N_68 I_68 fq14 eK_68 eN_68 eI_68 => ?_)
  have nm14 : x_ne m q14 := fun e => by have h9 := hkm7; rw [e] at h9; rw [h9] at fq14; omega
  have h0_14 : K q14 = 0 := by
    by_cases z : K q14 = 0
    · exact z
    · obtain ⟨z1, -⟩ := hfr7 q14 z (fun e => nm14 e.symm)
      rw [z1] at fq14
      exact absurd fq14 z
  have nn14_5 : x_ne q5 q14 := fun e => by have h9 := hk7_5; rw [e] at h9; rw [h9] at fq14; omega
  have nn14_6 : x_ne q6 q14 := fun e => by have h9 := hk7_6; rw [e] at h9; rw [h9] at fq14; omega
  have nn14_7 : x_ne q7 q14 := fun e => by have h9 := hk7_7; rw [e] at h9; rw [h9] at fq14; omega
  have nn14_8 : x_ne q8 q14 := fun e => by have h9 := hk7_8; rw [e] at h9; rw [h9] at fq14; omega
  have nn14_9 : x_ne q9 q14 := fun e => by have h9 := hk7_9; rw [e] at h9; rw [h9] at fq14; omega
  have nn14_12 : x_ne q12 q14 := fun e => by have h9 := hk7_12; rw [e] at h9; rw [h9] at fq14; omega
  have nn14_13 : x_ne q13 q14 := fun e => by have h9 := hk7_13; rw [e] at h9; rw [h9] at fq14; omega
  have hkm8 : K_68 m = 9 := by rw [eK_68, x_up_n _ _ nm14]; exact hkm7
  have hk8_14 : K_68 q14 = 22 := by rw [eK_68, x_up_s]
  have hl8_14 : N_68 q14 = 122 := by rw [eN_68, x_up_s]
  have hk8_5 : K_68 q5 = 21 := by rw [eK_68, x_up_n _ _ nn14_5]; exact hk7_5
  have hl8_5 : N_68 q5 = 202 := by rw [eN_68, x_up_n _ _ nn14_5]; exact hl7_5
  have hk8_6 : K_68 q6 = 22 := by rw [eK_68, x_up_n _ _ nn14_6]; exact hk7_6
  have hl8_6 : N_68 q6 = 202 := by rw [eN_68, x_up_n _ _ nn14_6]; exact hl7_6
  have hk8_7 : K_68 q7 = 21 := by rw [eK_68, x_up_n _ _ nn14_7]; exact hk7_7
  have hl8_7 : N_68 q7 = 202 := by rw [eN_68, x_up_n _ _ nn14_7]; exact hl7_7
  have hk8_8 : K_68 q8 = 21 := by rw [eK_68, x_up_n _ _ nn14_8]; exact hk7_8
  have hl8_8 : N_68 q8 = 202 := by rw [eN_68, x_up_n _ _ nn14_8]; exact hl7_8
  have hk8_9 : K_68 q9 = 21 := by rw [eK_68, x_up_n _ _ nn14_9]; exact hk7_9
  have hl8_9 : N_68 q9 = 202 := by rw [eN_68, x_up_n _ _ nn14_9]; exact hl7_9
  have hk8_12 : K_68 q12 = 21 := by rw [eK_68, x_up_n _ _ nn14_12]; exact hk7_12
  have hl8_12 : N_68 q12 = 122 := by rw [eN_68, x_up_n _ _ nn14_12]; exact hl7_12
  have hk8_13 : K_68 q13 = 21 := by rw [eK_68, x_up_n _ _ nn14_13]; exact hk7_13
  have hl8_13 : N_68 q13 = 122 := by rw [eN_68, x_up_n _ _ nn14_13]; exact hl7_13
  have hfr8 : ∀ a, K a ≠ 0 → a ≠ m → K_68 a = K a ∧ N_68 a = N a ∧ I_68 a = I a := fun a h0 h1 => by
    obtain ⟨z1, z2, z3⟩ := hfr7 a h0 h1
    have han : a ≠ q14 := fun e => by rw [← e, z1] at fq14; exact h0 fq14
    rw [eK_68, eN_68, eI_68, x_up_n _ _ han, x_up_n _ _ han, x_up_n _ _ han]; exact ⟨z1, z2, z3⟩
  have him8 : I_68 m = I m := by rw [eI_68, x_up_n _ _ nm14, him7]
  refine x_putFQ C (ci := 8) (k0 := 14) hkm8 (by decide) rfl (by decide) in_X9 k_916 rfl tyX9 tyX9_ok nmX9 rfl (hini rfl) rfl (by first | exact rfl | exact (rfl : _ = va_rf (some _)) | exact (rfl : _ = va_rf none)) (by rfl) (by first | rfl | exact x_narq _ _) (by first | rfl | exact x_fitq _ _) rfl D_X9_init_2.2.2.2.2.2.2.2.2.2.1 (fun Q_70 eQ_70 => ?_)
  refine x_aload_n C D_X9_init_2.2.2.2.2.2.2.2.2.2.2.1 rfl rfl (by first | exact Or.inr ⟨_, rfl⟩ | exact va_rf_or _ | exact Or.inl rfl) ?_
  refine x_bipush C (v := nI 122) D_X9_init_2.2.2.2.2.2.2.2.2.2.2.2 (by decide +kernel) ?_
  refine x_newI C 122 rfl (by omega) k_960 (Nat.le_of_ble_eq_true rfl) (Nat.le_of_ble_eq_true rfl) D_X9_init_3.1 (fun q15 K_76 N_76 I_76 fq15 eK_76 eN_76 eI_76 => ?_)
  have nm15 : x_ne m q15 := fun e => by have h9 := hkm8; rw [e] at h9; rw [h9] at fq15; omega
  have h0_15 : K q15 = 0 := by
    by_cases z : K q15 = 0
    · exact z
    · obtain ⟨z1, -⟩ := hfr8 q15 z (fun e => nm15 e.symm)
      rw [z1] at fq15
      exact absurd fq15 z
  have nn15_5 : x_ne q5 q15 := fun e => by have h9 := hk8_5; rw [e] at h9; rw [h9] at fq15; omega
  have nn15_6 : x_ne q6 q15 := fun e => by have h9 := hk8_6; rw [e] at h9; rw [h9] at fq15; omega
  have nn15_7 : x_ne q7 q15 := fun e => by have h9 := hk8_7; rw [e] at h9; rw [h9] at fq15; omega
  have nn15_8 : x_ne q8 q15 := fun e => by have h9 := hk8_8; rw [e] at h9; rw [h9] at fq15; omega
  have nn15_9 : x_ne q9 q15 := fun e => by have h9 := hk8_9; rw [e] at h9; rw [h9] at fq15; omega
  have nn15_12 : x_ne q12 q15 := fun e => by have h9 := hk8_12; rw [e] at h9; rw [h9] at fq15; omega
  have nn15_13 : x_ne q13 q15 := fun e => by have h9 := hk8_13; rw [e] at h9; rw [h9] at fq15; omega
  have nn15_14 : x_ne q14 q15 := fun e => by have h9 := hk8_14; rw [e] at h9; rw [h9] at fq15; omega
  have hkm9 : K_76 m = 9 := by rw [eK_76, x_up_n _ _ nm15]; exact hkm8
  have hk9_15 : K_76 q15 = 21 := by rw [eK_76, x_up_s]
  have hl9_15 : N_76 q15 = 122 := by rw [eN_76, x_up_s]
  have hk9_5 : K_76 q5 = 21 := by rw [eK_76, x_up_n _ _ nn15_5]; exact hk8_5
  have hl9_5 : N_76 q5 = 202 := by rw [eN_76, x_up_n _ _ nn15_5]; exact hl8_5
  have hk9_6 : K_76 q6 = 22 := by rw [eK_76, x_up_n _ _ nn15_6]; exact hk8_6
  have hl9_6 : N_76 q6 = 202 := by rw [eN_76, x_up_n _ _ nn15_6]; exact hl8_6
  have hk9_7 : K_76 q7 = 21 := by rw [eK_76, x_up_n _ _ nn15_7]; exact hk8_7
  have hl9_7 : N_76 q7 = 202 := by rw [eN_76, x_up_n _ _ nn15_7]; exact hl8_7
  have hk9_8 : K_76 q8 = 21 := by rw [eK_76, x_up_n _ _ nn15_8]; exact hk8_8
  have hl9_8 : N_76 q8 = 202 := by rw [eN_76, x_up_n _ _ nn15_8]; exact hl8_8
  have hk9_9 : K_76 q9 = 21 := by rw [eK_76, x_up_n _ _ nn15_9]; exact hk8_9
  have hl9_9 : N_76 q9 = 202 := by rw [eN_76, x_up_n _ _ nn15_9]; exact hl8_9
  have hk9_12 : K_76 q12 = 21 := by rw [eK_76, x_up_n _ _ nn15_12]; exact hk8_12
  have hl9_12 : N_76 q12 = 122 := by rw [eN_76, x_up_n _ _ nn15_12]; exact hl8_12
  have hk9_13 : K_76 q13 = 21 := by rw [eK_76, x_up_n _ _ nn15_13]; exact hk8_13
  have hl9_13 : N_76 q13 = 122 := by rw [eN_76, x_up_n _ _ nn15_13]; exact hl8_13
  have hk9_14 : K_76 q14 = 22 := by rw [eK_76, x_up_n _ _ nn15_14]; exact hk8_14
  have hl9_14 : N_76 q14 = 122 := by rw [eN_76, x_up_n _ _ nn15_14]; exact hl8_14
  have hfr9 : ∀ a, K a ≠ 0 → a ≠ m → K_76 a = K a ∧ N_76 a = N a ∧ I_76 a = I a := fun a h0 h1 => by
    obtain ⟨z1, z2, z3⟩ := hfr8 a h0 h1
    have han : a ≠ q15 := fun e => by rw [← e, z1] at fq15; exact h0 fq15
    rw [eK_76, eN_76, eI_76, x_up_n _ _ han, x_up_n _ _ han, x_up_n _ _ han]; exact ⟨z1, z2, z3⟩
  have him9 : I_76 m = I m := by rw [eI_76, x_up_n _ _ nm15, him8]
  refine x_putFQ C (ci := 8) (k0 := 15) hkm9 (by decide) rfl (by decide) in_X9 k_917 rfl tyX9 tyX9_ok nmX9 rfl (hini rfl) rfl (by first | exact rfl | exact (rfl : _ = va_rf (some _)) | exact (rfl : _ = va_rf none)) (by rfl) (by first | rfl | exact x_narq _ _) (by first | rfl | exact x_fitq _ _) rfl D_X9_init_3.2.1 (fun Q_78 eQ_78 => ?_)
  refine x_aload_n C D_X9_init_3.2.2.1 rfl rfl (by first | exact Or.inr ⟨_, rfl⟩ | exact va_rf_or _ | exact Or.inl rfl) ?_
  refine x_bipush C (v := nI 122) D_X9_init_3.2.2.2.1 (by decide +kernel) ?_
  refine x_newZ C 122 rfl (by omega) k_961 (Nat.le_of_ble_eq_true rfl) (Nat.le_of_ble_eq_true rfl) D_X9_init_3.2.2.2.2.1 (fun q16 K_84 N_84 I_84 fq16 eK_84 eN_84 eI_84 => ?_)
  have nm16 : x_ne m q16 := fun e => by have h9 := hkm9; rw [e] at h9; rw [h9] at fq16; omega
  have h0_16 : K q16 = 0 := by
    by_cases z : K q16 = 0
    · exact z
    · obtain ⟨z1, -⟩ := hfr9 q16 z (fun e => nm16 e.symm)
      rw [z1] at fq16
      exact absurd fq16 z
  have nn16_5 : x_ne q5 q16 := fun e => by have h9 := hk9_5; rw [e] at h9; rw [h9] at fq16; omega
  have nn16_6 : x_ne q6 q16 := fun e => by have h9 := hk9_6; rw [e] at h9; rw [h9] at fq16; omega
  have nn16_7 : x_ne q7 q16 := fun e => by have h9 := hk9_7; rw [e] at h9; rw [h9] at fq16; omega
  have nn16_8 : x_ne q8 q16 := fun e => by have h9 := hk9_8; rw [e] at h9; rw [h9] at fq16; omega
  have nn16_9 : x_ne q9 q16 := fun e => by have h9 := hk9_9; rw [e] at h9; rw [h9] at fq16; omega
  have nn16_12 : x_ne q12 q16 := fun e => by have h9 := hk9_12; rw [e] at h9; rw [h9] at fq16; omega
  have nn16_13 : x_ne q13 q16 := fun e => by have h9 := hk9_13; rw [e] at h9; rw [h9] at fq16; omega
  have nn16_14 : x_ne q14 q16 := fun e => by have h9 := hk9_14; rw [e] at h9; rw [h9] at fq16; omega
  have nn16_15 : x_ne q15 q16 := fun e => by have h9 := hk9_15; rw [e] at h9; rw [h9] at fq16; omega
  have hkm10 : K_84 m = 9 := by rw [eK_84, x_up_n _ _ nm16]; exact hkm9
  have hk10_16 : K_84 q16 = 22 := by rw [eK_84, x_up_s]
  have hl10_16 : N_84 q16 = 122 := by rw [eN_84, x_up_s]
  have hk10_5 : K_84 q5 = 21 := by rw [eK_84, x_up_n _ _ nn16_5]; exact hk9_5
  have hl10_5 : N_84 q5 = 202 := by rw [eN_84, x_up_n _ _ nn16_5]; exact hl9_5
  have hk10_6 : K_84 q6 = 22 := by rw [eK_84, x_up_n _ _ nn16_6]; exact hk9_6
  have hl10_6 : N_84 q6 = 202 := by rw [eN_84, x_up_n _ _ nn16_6]; exact hl9_6
  have hk10_7 : K_84 q7 = 21 := by rw [eK_84, x_up_n _ _ nn16_7]; exact hk9_7
  have hl10_7 : N_84 q7 = 202 := by rw [eN_84, x_up_n _ _ nn16_7]; exact hl9_7
  have hk10_8 : K_84 q8 = 21 := by rw [eK_84, x_up_n _ _ nn16_8]; exact hk9_8
  have hl10_8 : N_84 q8 = 202 := by rw [eN_84, x_up_n _ _ nn16_8]; exact hl9_8
  have hk10_9 : K_84 q9 = 21 := by rw [eK_84, x_up_n _ _ nn16_9]; exact hk9_9
  have hl10_9 : N_84 q9 = 202 := by rw [eN_84, x_up_n _ _ nn16_9]; exact hl9_9
  have hk10_12 : K_84 q12 = 21 := by rw [eK_84, x_up_n _ _ nn16_12]; exact hk9_12
  have hl10_12 : N_84 q12 = 122 := by rw [eN_84, x_up_n _ _ nn16_12]; exact hl9_12
  have hk10_13 : K_84 q13 = 21 := by rw [eK_84, x_up_n _ _ nn16_13]; exact hk9_13
  have hl10_13 : N_84 q13 = 122 := by rw [eN_84, x_up_n _ _ nn16_13]; exact hl9_13
  have hk10_14 : K_84 q14 = 22 := by rw [eK_84, x_up_n _ _ nn16_14]; exact hk9_14
  have hl10_14 : N_84 q14 = 122 := by rw [eN_84, x_up_n _ _ nn16_14]; exact hl9_14
  have hk10_15 : K_84 q15 = 21 := by rw [eK_84, x_up_n _ _ nn16_15]; exact hk9_15
  have hl10_15 : N_84 q15 = 122 := by rw [eN_84, x_up_n _ _ nn16_15]; exact hl9_15
  have hfr10 : ∀ a, K a ≠ 0 → a ≠ m → K_84 a = K a ∧ N_84 a = N a ∧ I_84 a = I a := fun a h0 h1 => by
    obtain ⟨z1, z2, z3⟩ := hfr9 a h0 h1
    have han : a ≠ q16 := fun e => by rw [← e, z1] at fq16; exact h0 fq16
    rw [eK_84, eN_84, eI_84, x_up_n _ _ han, x_up_n _ _ han, x_up_n _ _ han]; exact ⟨z1, z2, z3⟩
  have him10 : I_84 m = I m := by rw [eI_84, x_up_n _ _ nm16, him9]
  refine x_putFQ C (ci := 8) (k0 := 16) hkm10 (by decide) rfl (by decide) in_X9 k_918 rfl tyX9 tyX9_ok nmX9 rfl (hini rfl) rfl (by first | exact rfl | exact (rfl : _ = va_rf (some _)) | exact (rfl : _ = va_rf none)) (by rfl) (by first | rfl | exact x_narq _ _) (by first | rfl | exact x_fitq _ _) rfl D_X9_init_3.2.2.2.2.2.1 (fun Q_86 eQ_86 => ?_)
  refine x_aload_n C D_X9_init_3.2.2.2.2.2.2.1 rfl rfl (by first | exact Or.inr ⟨_, rfl⟩ | exact va_rf_or _ | exact Or.inl rfl) ?_
  refine x_bipush C (v := nI 122) D_X9_init_3.2.2.2.2.2.2.2.1 (by decide +kernel) ?_
  refine x_newI C 122 rfl (by omega) k_960 (Nat.le_of_ble_eq_true rfl) (Nat.le_of_ble_eq_true rfl) D_X9_init_3.2.2.2.2.2.2.2.2.1 (fun q17 K_92 N_92 I_92 fq17 eK_92 eN_92 eI_92 => ?_)
  have nm17 : x_ne m q17 := fun e => by have h9 := hkm10; rw [e] at h9; rw [h9] at fq17; omega
  have h0_17 : K q17 = 0 := by
    by_cases z : K q17 = 0
    · exact z
    · obtain ⟨z1, -⟩ := hfr10 q17 z (fun e => nm17 e.symm)
      rw [z1] at fq17
      exact absurd fq17 z
  have nn17_5 : x_ne q5 q17 := fun e => by have h9 := hk10_5; rw [e] at h9; rw [h9] at fq17; omega
  have nn17_6 : x_ne q6 q17 := fun e => by have h9 := hk10_6; rw [e] at h9; rw [h9] at fq17; omega
  have nn17_7 : x_ne q7 q17 := fun e => by have h9 := hk10_7; rw [e] at h9; rw [h9] at fq17; omega
  have nn17_8 : x_ne q8 q17 := fun e => by have h9 := hk10_8; rw [e] at h9; rw [h9] at fq17; omega
  have nn17_9 : x_ne q9 q17 := fun e => by have h9 := hk10_9; rw [e] at h9; rw [h9] at fq17; omega
  have nn17_12 : x_ne q12 q17 := fun e => by have h9 := hk10_12; rw [e] at h9; rw [h9] at fq17; omega
  have nn17_13 : x_ne q13 q17 := fun e => by have h9 := hk10_13; rw [e] at h9; rw [h9] at fq17; omega
  have nn17_14 : x_ne q14 q17 := fun e => by have h9 := hk10_14; rw [e] at h9; rw [h9] at fq17; omega
  have nn17_15 : x_ne q15 q17 := fun e => by have h9 := hk10_15; rw [e] at h9; rw [h9] at fq17; omega
  have nn17_16 : x_ne q16 q17 := fun e => by have h9 := hk10_16; rw [e] at h9; rw [h9] at fq17; omega
  have hkm11 : K_92 m = 9 := by rw [eK_92, x_up_n _ _ nm17]; exact hkm10
  have hk11_17 : K_92 q17 = 21 := by rw [eK_92, x_up_s]
  have hl11_17 : N_92 q17 = 122 := by rw [eN_92, x_up_s]
  have hk11_5 : K_92 q5 = 21 := by rw [eK_92, x_up_n _ _ nn17_5]; exact hk10_5
  have hl11_5 : N_92 q5 = 202 := by rw [eN_92, x_up_n _ _ nn17_5]; exact hl10_5
  have hk11_6 : K_92 q6 = 22 := by rw [eK_92, x_up_n _ _ nn17_6]; exact hk10_6
  have hl11_6 : N_92 q6 = 202 := by rw [eN_92, x_up_n _ _ nn17_6]; exact hl10_6
  have hk11_7 : K_92 q7 = 21 := by rw [eK_92, x_up_n _ _ nn17_7]; exact hk10_7
  have hl11_7 : N_92 q7 = 202 := by rw [eN_92, x_up_n _ _ nn17_7]; exact hl10_7
  have hk11_8 : K_92 q8 = 21 := by rw [eK_92, x_up_n _ _ nn17_8]; exact hk10_8
  have hl11_8 : N_92 q8 = 202 := by rw [eN_92, x_up_n _ _ nn17_8]; exact hl10_8
  have hk11_9 : K_92 q9 = 21 := by rw [eK_92, x_up_n _ _ nn17_9]; exact hk10_9
  have hl11_9 : N_92 q9 = 202 := by rw [eN_92, x_up_n _ _ nn17_9]; exact hl10_9
  have hk11_12 : K_92 q12 = 21 := by rw [eK_92, x_up_n _ _ nn17_12]; exact hk10_12
  have hl11_12 : N_92 q12 = 122 := by rw [eN_92, x_up_n _ _ nn17_12]; exact hl10_12
  have hk11_13 : K_92 q13 = 21 := by rw [eK_92, x_up_n _ _ nn17_13]; exact hk10_13
  have hl11_13 : N_92 q13 = 122 := by rw [eN_92, x_up_n _ _ nn17_13]; exact hl10_13
  have hk11_14 : K_92 q14 = 22 := by rw [eK_92, x_up_n _ _ nn17_14]; exact hk10_14
  have hl11_14 : N_92 q14 = 122 := by rw [eN_92, x_up_n _ _ nn17_14]; exact hl10_14
  have hk11_15 : K_92 q15 = 21 := by rw [eK_92, x_up_n _ _ nn17_15]; exact hk10_15
  have hl11_15 : N_92 q15 = 122 := by rw [eN_92, x_up_n _ _ nn17_15]; exact hl10_15
  have hk11_16 : K_92 q16 = 22 := by rw [eK_92, x_up_n _ _ nn17_16]; exact hk10_16
  have hl11_16 : N_92 q16 = 122 := by rw [eN_92, x_up_n _ _ nn17_16]; exact hl10_16
  have hfr11 : ∀ a, K a ≠ 0 → a ≠ m → K_92 a = K a ∧ N_92 a = N a ∧ I_92 a = I a := fun a h0 h1 => by
    obtain ⟨z1, z2, z3⟩ := hfr10 a h0 h1
    have han : a ≠ q17 := fun e => by rw [← e, z1] at fq17; exact h0 fq17
    rw [eK_92, eN_92, eI_92, x_up_n _ _ han, x_up_n _ _ han, x_up_n _ _ han]; exact ⟨z1, z2, z3⟩
  have him11 : I_92 m = I m := by rw [eI_92, x_up_n _ _ nm17, him10]
  refine x_putFQ C (ci := 8) (k0 := 17) hkm11 (by decide) rfl (by decide) in_X9 k_919 rfl tyX9 tyX9_ok nmX9 rfl (hini rfl) rfl (by first | exact rfl | exact (rfl : _ = va_rf (some _)) | exact (rfl : _ = va_rf none)) (by rfl) (by first | rfl | exact x_narq _ _) (by first | rfl | exact x_fitq _ _) rfl D_X9_init_3.2.2.2.2.2.2.2.2.2.1 (fun Q_94 eQ_94 => ?_)
  refine ret _ _ _ _ _ rfl D_X9_init_3.2.2.2.2.2.2.2.2.2.2 (Nat.le_of_ble_eq_true rfl) (Nat.le_of_ble_eq_true rfl) ?_
  refine ⟨arL [q5, q6, q7, q8, q9, q12, q13, q14, q15, q16, q17], _, _, _, _, rfl, ⟨hkm11, ?_, ?_⟩, him11, fun a h0 h1 => ?_, ?_⟩
  · intro j hj
    obtain h9 | h9 | h9 | h9 | h9 | h9 | h9 | h9 | h9 | h9 | h9 := mO_cases hj
    · subst h9
      exact ⟨by rw [eQ_94, x_u2_j _ _ (by omega), eQ_86, x_u2_j _ _ (by omega), eQ_78, x_u2_j _ _ (by omega), eQ_70, x_u2_j _ _ (by omega), eQ_62, x_u2_j _ _ (by omega), eQ_54, x_u2_j _ _ (by omega), eQ_46, x_u2_j _ _ (by omega), eQ_37, x_u2_j _ _ (by omega), eQ_28, x_u2_j _ _ (by omega), eQ_19, x_u2_j _ _ (by omega), eQ_10, x_u2_s]; rfl, hk11_5, hl11_5⟩
    · subst h9
      exact ⟨by rw [eQ_94, x_u2_j _ _ (by omega), eQ_86, x_u2_j _ _ (by omega), eQ_78, x_u2_j _ _ (by omega), eQ_70, x_u2_j _ _ (by omega), eQ_62, x_u2_j _ _ (by omega), eQ_54, x_u2_j _ _ (by omega), eQ_46, x_u2_j _ _ (by omega), eQ_37, x_u2_j _ _ (by omega), eQ_28, x_u2_j _ _ (by omega), eQ_19, x_u2_s]; rfl, hk11_6, hl11_6⟩
    · subst h9
      exact ⟨by rw [eQ_94, x_u2_j _ _ (by omega), eQ_86, x_u2_j _ _ (by omega), eQ_78, x_u2_j _ _ (by omega), eQ_70, x_u2_j _ _ (by omega), eQ_62, x_u2_j _ _ (by omega), eQ_54, x_u2_j _ _ (by omega), eQ_46, x_u2_j _ _ (by omega), eQ_37, x_u2_j _ _ (by omega), eQ_28, x_u2_s]; rfl, hk11_7, hl11_7⟩
    · subst h9
      exact ⟨by rw [eQ_94, x_u2_j _ _ (by omega), eQ_86, x_u2_j _ _ (by omega), eQ_78, x_u2_j _ _ (by omega), eQ_70, x_u2_j _ _ (by omega), eQ_62, x_u2_j _ _ (by omega), eQ_54, x_u2_j _ _ (by omega), eQ_46, x_u2_j _ _ (by omega), eQ_37, x_u2_s]; rfl, hk11_8, hl11_8⟩
    · subst h9
      exact ⟨by rw [eQ_94, x_u2_j _ _ (by omega), eQ_86, x_u2_j _ _ (by omega), eQ_78, x_u2_j _ _ (by omega), eQ_70, x_u2_j _ _ (by omega), eQ_62, x_u2_j _ _ (by omega), eQ_54, x_u2_j _ _ (by omega), eQ_46, x_u2_s]; rfl, hk11_9, hl11_9⟩
    · subst h9
      exact ⟨by rw [eQ_94, x_u2_j _ _ (by omega), eQ_86, x_u2_j _ _ (by omega), eQ_78, x_u2_j _ _ (by omega), eQ_70, x_u2_j _ _ (by omega), eQ_62, x_u2_j _ _ (by omega), eQ_54, x_u2_s]; rfl, hk11_12, hl11_12⟩
    · subst h9
      exact ⟨by rw [eQ_94, x_u2_j _ _ (by omega), eQ_86, x_u2_j _ _ (by omega), eQ_78, x_u2_j _ _ (by omega), eQ_70, x_u2_j _ _ (by omega), eQ_62, x_u2_s]; rfl, hk11_13, hl11_13⟩
    · subst h9
      exact ⟨by rw [eQ_94, x_u2_j _ _ (by omega), eQ_86, x_u2_j _ _ (by omega), eQ_78, x_u2_j _ _ (by omega), eQ_70, x_u2_s]; rfl, hk11_14, hl11_14⟩
    · subst h9
      exact ⟨by rw [eQ_94, x_u2_j _ _ (by omega), eQ_86, x_u2_j _ _ (by omega), eQ_78, x_u2_s]; rfl, hk11_15, hl11_15⟩
    · subst h9
      exact ⟨by rw [eQ_94, x_u2_j _ _ (by omega), eQ_86, x_u2_s]; rfl, hk11_16, hl11_16⟩
    · subst h9
      exact ⟨by rw [eQ_94, x_u2_s]; rfl, hk11_17, hl11_17⟩
  · have hnd : [q5, q6, q7, q8, q9, q12, q13, q14, q15, q16, q17].Nodup := by
      simp only [List.nodup_cons, List.mem_cons, List.not_mem_nil, or_false, not_or, not_false_eq_true, List.nodup_nil, and_true]
      exact ⟨⟨nn6_5, nn7_5, nn8_5, nn9_5, nn12_5, nn13_5, nn14_5, nn15_5, nn16_5, nn17_5⟩, ⟨nn7_6, nn8_6, nn9_6, nn12_6, nn13_6, nn14_6, nn15_6, nn16_6, nn17_6⟩, ⟨nn8_7, nn9_7, nn12_7, nn13_7, nn14_7, nn15_7, nn16_7, nn17_7⟩, ⟨nn9_8, nn12_8, nn13_8, nn14_8, nn15_8, nn16_8, nn17_8⟩, ⟨nn12_9, nn13_9, nn14_9, nn15_9, nn16_9, nn17_9⟩, ⟨nn13_12, nn14_12, nn15_12, nn16_12, nn17_12⟩, ⟨nn14_13, nn15_13, nn16_13, nn17_13⟩, ⟨nn15_14, nn16_14, nn17_14⟩, ⟨nn16_15, nn17_15⟩, nn17_16⟩
    exact fun i j hi hj e => arL_inj hnd rfl hi hj e
  · obtain ⟨z1, z2, z3⟩ := hfr11 a h0 h1
    exact ⟨z1, z2, z3, by rw [eQ_94, x_u2_a _ _ h1, eQ_86, x_u2_a _ _ h1, eQ_78, x_u2_a _ _ h1, eQ_70, x_u2_a _ _ h1, eQ_62, x_u2_a _ _ h1, eQ_54, x_u2_a _ _ h1, eQ_46, x_u2_a _ _ h1, eQ_37, x_u2_a _ _ h1, eQ_28, x_u2_a _ _ h1, eQ_19, x_u2_a _ _ h1, eQ_10, x_u2_a _ _ h1]⟩
  · intro j hj
    obtain h9 | h9 | h9 | h9 | h9 | h9 | h9 | h9 | h9 | h9 | h9 := mO_cases hj
    · subst h9
      exact h0_5
    · subst h9
      exact h0_6
    · subst h9
      exact h0_7
    · subst h9
      exact h0_8
    · subst h9
      exact h0_9
    · subst h9
      exact h0_12
    · subst h9
      exact h0_13
    · subst h9
      exact h0_14
    · subst h9
      exact h0_15
    · subst h9
      exact h0_16
    · subst h9
      exact h0_17
theorem SY.frd {z : Nat} {ow ow1 : xO} {S S1 : xS} {x : Nat} {n : Nat} {c : Nat → Nat} {al : Nat → Bool} {sp tu pt : Nat → Nat} {m : Nat} {pc : Nat → Nat} {pa : Nat → Bool} {ps : Nat → Nat} {r d u g w : Int32} (h : SY ow S x n c al sp tu pt m pc pa ps r d u g w) (hf : FRO z ow ow1 S S1) (hd : 8 < z) : SY ow1 S1 x n c al sp tu pt m pc pa ps r d u g w := by
  obtain ⟨t1, t7, t6, t5, ⟨x1, x2, x3, x4, x5, x6⟩, h1, h7, h6, h5, ⟨r1, r2, r3, r4, r5⟩, hn, hb⟩ := h
  obtain ⟨y1, y2, y3⟩ := hf.obj (by omega) x1 x2
  obtain ⟨a1, b1⟩ := h1.agree hf (by omega)
  obtain ⟨a7, b7⟩ := h7.agree hf (by omega)
  obtain ⟨a6, b6⟩ := h6.agree hf (by omega)
  obtain ⟨a5, b5⟩ := h5.agree hf (by omega)
  exact ⟨t1, t7, t6, t5, ⟨y1, y2, by rw [y3]; exact x3, by rw [y3]; exact x4, by rw [y3]; exact x5, by rw [y3]; exact x6⟩, a1, a7, a6, a5, ⟨by rw [b1]; exact r1, by rw [b1]; exact r2, by rw [b7]; exact r3, by rw [b6]; exact r4, by rw [b5]; exact r5⟩, hn, hb⟩
theorem KM.frd {z : Nat} {ow ow1 : xO} {S S1 : xS} {mm : Nat} {ar : Nat → Nat} {n : Nat} {c : Nat → Nat} {al : Nat → Bool} {sp tu pt : Nat → Nat} {m : Nat} {pc : Nat → Nat} {pa : Nat → Bool} {ps : Nat → Nat} {r d u g w : Int32} (h : KM ow S mm ar n c al sp tu pt m pc pa ps r d u g w) (hf : FRO z ow ow1 S S1) (hd : 9 < z) : KM ow1 S1 mm ar n c al sp tu pt m pc pa ps r d u g w := by
  obtain ⟨⟨z1, z2, z3⟩, ⟨k0, k1, k5, k6, k7, k8, k9⟩, ⟨p0, p1, p12, p13, p14, p15⟩, ⟨o1, o2⟩, hc⟩ := h
  obtain ⟨a1, a2, a3, a4⟩ := hf.2 mm (by rw [z1]; omega)
  obtain ⟨a5, a6⟩ := a4 (by rw [o1]; omega)
  have har : ∀ j, mO j = true → ow1 (ar j) = ow (ar j) ∧ S1.1 (ar j) = S.1 (ar j) ∧ S1.2.1 (ar j) = S.2.1 (ar j) ∧ S1.2.2.1 (ar j) = S.2.2.1 (ar j) := fun j hj => by
    obtain ⟨b1, b2, b3, b4⟩ := hf.2 (ar j) (by rw [(z2 j hj).2.1]; exact kO_nz hj)
    exact ⟨b1, b2, b3, (b4 (by rw [o2 j hj]; omega)).1⟩
  refine ⟨⟨a2.trans z1, fun j hj => ?_, z3⟩, ⟨by rw [a5]; exact k0, k1, fun i hi => ?_, fun i hi => ?_, fun i hi => ?_, fun i hi => ?_, fun i hi => ?_⟩, ⟨by rw [a5]; exact p0, p1, fun i hi => ?_, fun i hi => ?_, fun i hi => ?_, fun i hi => ?_⟩, ⟨a1.trans o1, fun j hj => (har j hj).1.trans (o2 j hj)⟩, by rw [a5]; exact hc⟩
  · obtain ⟨b1, b2, b3, b4⟩ := har j hj
    rw [a6, b2, b3]; exact z2 j hj
  · rw [(har 5 rfl).2.2.2]; exact k5 i hi
  · rw [(har 6 rfl).2.2.2]; exact k6 i hi
  · rw [(har 7 rfl).2.2.2]; exact k7 i hi
  · rw [(har 8 rfl).2.2.2]; exact k8 i hi
  · rw [(har 9 rfl).2.2.2]; exact k9 i hi
  · rw [(har 12 rfl).2.2.2]; exact p12 i hi
  · rw [(har 13 rfl).2.2.2]; exact p13 i hi
  · rw [(har 14 rfl).2.2.2]; exact p14 i hi
  · rw [(har 15 rfl).2.2.2]; exact p15 i hi
theorem hd_X8_init : yX8_init.cls ≠ "java/lang/invoke/MethodHandle" ∧ yX8_init.cls ≠ "java/lang/invoke/VarHandle" ∧ (parseMethodDescriptor yX8_init.desc).map (fun d => d.parameters.length) = some 0 := by decide +kernel
theorem hd_X9_init : yX9_init.cls ≠ "java/lang/invoke/MethodHandle" ∧ yX9_init.cls ≠ "java/lang/invoke/VarHandle" ∧ (parseMethodDescriptor yX9_init.desc).map (fun d => d.parameters.length) = some 0 := by decide +kernel
set_option maxHeartbeats 4000000 in
set_option maxRecDepth 100000 in
theorem law_entry {p : Program} {l : Launch} {ee : Env} {s : State} {mi : MethodId} {args : Array Value} {below : List Frame} {meth : Method} {cd : Code} {G : xG} {Z : State → Prop} {rt : Option FieldType} {bs : Nat} {N : Nat → Nat} {I : Nat → Nat → Int32} {Q : Nat → Nat → Option Nat} {J : Nat → Nat → Int64} {K : Nat → Nat} (C : XC p s mi args meth cd code 9 RL rt G) (kk : ∀ (x mm o : Nat) (ow : xO) (S : xS), INV ow S x mm o → XW p l ee room_1 s mi args below meth cd G Z 200 8000 S 23 [some (.ref bs), some (.ref x), some (.ref mm), some (.ref o), some (.int (nI 0)), none, none, none, none] []) : XW p l ee room_1 s mi args below meth cd G Z 0 0 (K, N, I, Q, J) 0 [some (.ref bs), none, none, none, none, none, none, none, none] [] := by
  refine x_new C (ci := 7) rfl (by decide) in_X8 tyX8 tyX8_ok x_layX8 k_78 k_79 k_60 (Nat.le_of_ble_eq_true rfl) (Nat.le_of_ble_eq_true rfl) D_L_law_0.1 (fun x K_0 I_0 Q_0 fx eK_0 eI_0 eQ_0 => ?_)
  have hx0 : K_0 x = 8 := by rw [eK_0, x_up_s]
  refine x_dup C D_L_law_0.2.1 (by first | rfl | exact x_crf _) ?_
  refine x_callI (ret := none) C (y := yX8_init) (c_X8_init l G x (fun _ => 8) (fun _ => 0) (fun _ => 0) (fun _ => 0) (fun _ => 0) (fun _ => 0) (fun _ => 0) (fun _ => false) (fun _ => false) hx0 rfl) k_82 k_60 k_80 k_81 rfl hd_X8_init ⟨(Nat.le_of_ble_eq_true rfl), (Nat.le_of_ble_eq_true rfl)⟩ rfl (by first | exact Nat.le_of_ble_eq_true rfl | simp [x_crf, Value.category]) rfl rfl D_L_law_0.2.2.1 ⟨(Nat.le_of_ble_eq_true rfl), (Nat.le_of_ble_eq_true rfl)⟩ (fun _ S_4 h_4 => ?_)
  obtain ⟨ow1, -, hS1⟩ := h_4
  obtain ⟨K1, N1, I1, Q1, J1⟩ := S_4
  refine x_astore_n C (lv' := [_, _, _, _, _, _, _, _, _]) D_L_law_0.2.2.2.1 rfl (Nat.le_of_ble_eq_true rfl) (by first | rfl | exact x_ok_q rfl) (by first | exact Or.inr ⟨_, rfl⟩ | exact va_rf_or _ | exact Or.inl rfl) rfl ?_
  refine x_new C (ci := 8) rfl (by decide) in_X9 tyX9 tyX9_ok x_layX9 k_896 k_897 k_67 (Nat.le_of_ble_eq_true rfl) (Nat.le_of_ble_eq_true rfl) D_L_law_0.2.2.2.2.1 (fun mm K_8 I_8 Q_8 fmm eK_8 eI_8 eQ_8 => ?_)
  have hk8 : K_8 mm = 9 := by rw [eK_8, x_up_s]
  refine x_dup C D_L_law_0.2.2.2.2.2.1 (by first | rfl | exact x_crf _) ?_
  refine x_callI (ret := none) C (y := yX9_init) (c_X9_initF l G mm hk8) k_900 k_67 k_898 k_899 rfl hd_X9_init ⟨(Nat.le_of_ble_eq_true rfl), (Nat.le_of_ble_eq_true rfl)⟩ rfl (by first | exact Nat.le_of_ble_eq_true rfl | simp [x_crf, Value.category]) rfl rfl D_L_law_0.2.2.2.2.2.2.1 ⟨(Nat.le_of_ble_eq_true rfl), (Nat.le_of_ble_eq_true rfl)⟩ (fun _ S_12 h_12 => ?_)
  obtain ⟨ar, K2, N2, I2, Q2, rfl, hz2, him2, hfr2, hf02⟩ := h_12
  have kp2 : KPT (K1, N1, I1, Q1, J1) (K2, N2, I2, Q2, J1) := KPT.new (ci := 8) fmm (by rw [← eK_8, ← eI_8, ← eQ_8]; exact hfr2)
  have hF2 := kp2.fro 9 ow1
  have hS2 := hS1.frd hF2 (by omega)
  have im2 : ∀ j, I2 mm j = nI 0 := fun j => by rw [him2, eI_8, x_up_s]; rfl
  have hM2 : KM (owN K1 ow1 9) (K2, N2, I2, Q2, J1) mm ar 0 (fun _ => 0) (fun _ => false) (fun _ => 0) (fun _ => 0) (fun _ => 0) 0 (fun _ => 0) (fun _ => false) (fun _ => 0) (nI 0) (nI 0) (nI 0) (nI 0) (nI 0) := ⟨hz2, ⟨im2 0, by omega, fun i h => by omega, fun i h => by omega, fun i h => by omega, fun i h => by omega, fun i h => by omega⟩, ⟨im2 10, by omega, fun i h => by omega, fun i h => by omega, fun i h => by omega, fun i h => by omega⟩, ⟨owN_n fmm, fun j hj => owN_n (up_0 (by rw [← eK_8]; exact hf02 j hj)).2⟩, im2 1, im2 2, im2 3, im2 4, im2 11⟩
  refine x_astore_n C (lv' := [_, _, _, _, _, _, _, _, _]) D_L_law_0.2.2.2.2.2.2.2.1 rfl (Nat.le_of_ble_eq_true rfl) (by first | rfl | exact x_ok_q rfl) (by first | exact Or.inr ⟨_, rfl⟩ | exact va_rf_or _ | exact Or.inl rfl) rfl ?_
  refine x_iconst C (v := nI 1) D_L_law_0.2.2.2.2.2.2.2.2.1 (by decide +kernel) ?_
  refine x_newJ C 1 rfl (by decide) k_1209 (Nat.le_of_ble_eq_true rfl) (Nat.le_of_ble_eq_true rfl) D_L_law_0.2.2.2.2.2.2.2.2.2.1 (fun o K_17 N_17 J_17 fo eK_17 eN_17 eJ_17 => ?_)
  have nko : ∀ q, K2 q ≠ 0 → q ≠ o := fun q hq e => hq (by rw [e]; exact fo)
  have hF3 : FRO 10 (owN K1 ow1 9) (owN K2 (owN K1 ow1 9) 10) (K2, N2, I2, Q2, J1) (K_17, N_17, I2, Q2, J1) := FRO.of rfl (fun q hq => ⟨owN_o hq, by rw [eK_17]; exact x_up_n _ _ (nko q hq), by rw [eN_17]; exact x_up_n _ _ (nko q hq), fun _ => ⟨rfl, rfl⟩⟩)
  have hS3 := (hS2.frd hF3 (by omega)).J (J1 := J_17)
  have hM3 := (hM2.frd hF3 (by omega)).J (J1 := J_17)
  have hO3 : K_17 o = 24 ∧ N_17 o = 1 ∧ owN K2 (owN K1 ow1 9) 10 o = 10 := ⟨by rw [eK_17, x_up_s], by rw [eN_17, x_up_s], owN_n fo⟩
  refine x_astore_n C (lv' := [_, _, _, _, _, _, _, _, _]) D_L_law_0.2.2.2.2.2.2.2.2.2.2.1 rfl (Nat.le_of_ble_eq_true rfl) (by first | rfl | exact x_ok_q rfl) (by first | exact Or.inr ⟨_, rfl⟩ | exact va_rf_or _ | exact Or.inl rfl) rfl ?_
  refine x_iconst C (v := nI 0) D_L_law_0.2.2.2.2.2.2.2.2.2.2.2 (by decide +kernel) ?_
  refine x_istore C (lv' := [_, _, _, _, _, _, _, _, _]) D_L_law_1.1 (Nat.le_of_ble_eq_true rfl) (by first | rfl | exact x_ok_q rfl) rfl ?_
  exact x_widen (Nat.le_of_ble_eq_true rfl) (Nat.le_of_ble_eq_true rfl) (kk x mm o _ _ (INV.mk hS3 hM3 hO3 ⟨by omega, by simp [cn], fun i h => by omega, by omega, by simp [cn]⟩))
