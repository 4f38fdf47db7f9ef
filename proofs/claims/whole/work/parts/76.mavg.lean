theorem D_X9_averageDepth_0 : decode cX9_averageDepth 0 = .ok (.aload_n 0, 1) ∧ decode cX9_averageDepth 1 = .ok (.iconst 0, 1) ∧ decode cX9_averageDepth 2 = .ok (.putfield 44, 3) ∧ decode cX9_averageDepth 5 = .ok (.iconst 0, 1) ∧ decode cX9_averageDepth 6 = .ok (.istore_n 1, 1) ∧ decode cX9_averageDepth 7 = .ok (.iconst 0, 1) ∧ decode cX9_averageDepth 8 = .ok (.istore_n 2, 1) ∧ decode cX9_averageDepth 9 = .ok (.iload_n 2, 1) ∧ decode cX9_averageDepth 10 = .ok (.aload_n 0, 1) ∧ decode cX9_averageDepth 11 = .ok (.getfield 60, 3) ∧ decode cX9_averageDepth 14 = .ok (.if_icmp .ge 21, 3) ∧ decode cX9_averageDepth 17 = .ok (.iload_n 1, 1) := by decide +kernel
theorem D_X9_averageDepth_1 : decode cX9_averageDepth 18 = .ok (.aload_n 0, 1) ∧ decode cX9_averageDepth 19 = .ok (.getfield 17, 3) ∧ decode cX9_averageDepth 22 = .ok (.iload_n 2, 1) ∧ decode cX9_averageDepth 23 = .ok (.iaload, 1) ∧ decode cX9_averageDepth 24 = .ok (.invokestatic 48, 3) ∧ decode cX9_averageDepth 27 = .ok (.iadd, 1) ∧ decode cX9_averageDepth 28 = .ok (.istore_n 1, 1) ∧ decode cX9_averageDepth 29 = .ok (.iinc 2 1, 3) ∧ decode cX9_averageDepth 32 = .ok (.goto (-23), 3) ∧ decode cX9_averageDepth 35 = .ok (.aload_n 0, 1) ∧ decode cX9_averageDepth 36 = .ok (.getfield 60, 3) ∧ decode cX9_averageDepth 39 = .ok (.ifCond .ne 7, 3) := by decide +kernel
theorem D_X9_averageDepth_2 : decode cX9_averageDepth 42 = .ok (.fconst 0, 1) ∧ decode cX9_averageDepth 43 = .ok (.goto 11, 3) ∧ decode cX9_averageDepth 46 = .ok (.iload_n 1, 1) ∧ decode cX9_averageDepth 47 = .ok (.i2f, 1) ∧ decode cX9_averageDepth 48 = .ok (.aload_n 0, 1) ∧ decode cX9_averageDepth 49 = .ok (.getfield 60, 3) ∧ decode cX9_averageDepth 52 = .ok (.i2f, 1) ∧ decode cX9_averageDepth 53 = .ok (.fdiv, 1) ∧ decode cX9_averageDepth 54 = .ok (.freturn, 1) := by decide +kernel
abbrev rm_X9_averageDepth : Room := { frames := 1, cells := 0, slots := 0, locals := 22 }
set_option maxHeartbeats 4000000 in
set_option maxRecDepth 100000 in
theorem c_X9_averageDepth (l : Launch) (G : xG) {K N : Nat → Nat} {I : Nat → Nat → Int32} {Q : Nat → Nat → Option Nat} {J : Nat → Nat → Int64} (m n : Nat) (ar kc sp tu pt : Nat → Nat) (al : Nat → Bool) (hM : MZ K N Q m ar) (hK : KV I m ar n kc al sp tu pt) (hsb : ∀ i, i < n → sp i < 2 ^ 30)  : XM l yX9_averageDepth cX9_averageDepth 3 (some .float) rm_X9_averageDepth G Rf [.ref m] (K, N, I, Q, J) (fun r S1 => r = avgF (smd sp n) n ∧ S1 = (K, N, x_u2 I m 18 (nI 0), Q, J)) := by
  refine x_metf (lv := [_, _, _]) (by decide +kernel) (x_cc (by first | rfl | exact x_crf _) x_cn) (Nat.le_of_ble_eq_true rfl) rfl ?_
  intro pP eE sS mM aA bB hH cC Z C hini ret
  have hk9 := hM.1
  obtain ⟨hn, hn201, hk5, hk6, hk7, hk8, hk9_⟩ := hK
  have h202 := hM.nk 7 (by decide)
  have hm7 := hM.nm 7 (by decide)
  have hn00 : nI 0 = nI 0 := rfl
  refine x_aload_n C D_X9_averageDepth_0.1 rfl rfl (by first | exact Or.inr ⟨_, rfl⟩ | exact va_rf_or _ | exact Or.inl rfl) ?_
  refine x_iconst C (v := nI 0) D_X9_averageDepth_0.2.1 (by decide +kernel) ?_
  refine x_putI C (ci := 8) (k0 := 18) (by assumption) (by decide) rfl (by decide) in_X9 k_920 rfl tyX9 tyX9_ok nmX9 rfl (by rfl) rfl rfl rfl D_X9_averageDepth_0.2.2.1 (fun I2 eI2 => ?_)
  have i2 : ∀ a, a ≠ m → I2 a = I a := fun a ha => by rw [eI2, x_u2_a _ _ ha]
  have hn1 : I2 m 0 = nI n := by rw [eI2, x_u2_j _ _ (by omega)]; exact hn
  refine x_iconst C (v := nI 0) D_X9_averageDepth_0.2.2.2.1 (by decide +kernel) ?_
  refine x_istore_n C (lv' := [_, _, _]) D_X9_averageDepth_0.2.2.2.2.1 rfl (Nat.le_of_ble_eq_true rfl) (by first | rfl | exact x_ok_q rfl) rfl ?_
  refine x_iconst C (v := nI 0) D_X9_averageDepth_0.2.2.2.2.2.1 (by decide +kernel) ?_
  refine x_istore_n C (lv' := [_, _, _]) D_X9_averageDepth_0.2.2.2.2.2.2.1 rfl (Nat.le_of_ble_eq_true rfl) (by first | rfl | exact x_ok_q rfl) rfl ?_
  have L_9 : ∀ (w_9 : Nat) (k0 : Nat), n - k0 < w_9 → (k0 ≤ n) → XW pP l eE rm_X9_averageDepth sS mM aA bB hH cC G Z 0 0 (K, N, I2, Q, J) 9 [some (.ref m), some (.int (nI (smd sp k0))), some (.int (nI k0))] [] := by
    intro w_9
    induction w_9 with
    | zero =>
      intro k0 hw_9
      exact absurd hw_9 (Nat.not_lt_zero _)
    | succ w_9 ih_9 =>
      intro k0 hw_9 hk0
      refine x_iload_n C D_X9_averageDepth_0.2.2.2.2.2.2.2.1 rfl rfl ?_
      refine x_aload_n C D_X9_averageDepth_0.2.2.2.2.2.2.2.2.1 rfl rfl (by first | exact Or.inr ⟨_, rfl⟩ | exact va_rf_or _ | exact Or.inl rfl) ?_
      refine x_getI C (ci := 8) (k0 := 0) (by assumption) (by decide) rfl (by decide) in_X9 k_902 rfl rfl D_X9_averageDepth_0.2.2.2.2.2.2.2.2.2.1 ?_
      first
      | refine x_eqi _ (hn1) ?_
      | refine x_eqi _ (hs1) ?_
      | skip
      refine x_icmp_ge C 35 D_X9_averageDepth_0.2.2.2.2.2.2.2.2.2.2.1 (by decide) (fun c_14 => ?_) (fun c_14 => ?_)
      · skip
        first
        | have d_14 := cv_le c_14 (by omega) (by omega)
        | skip
        obtain rfl : n = k0 := by omega
        refine x_aload_n C D_X9_averageDepth_1.2.2.2.2.2.2.2.2.2.1 rfl rfl (by first | exact Or.inr ⟨_, rfl⟩ | exact va_rf_or _ | exact Or.inl rfl) ?_
        refine x_getI C (ci := 8) (k0 := 0) (by assumption) (by decide) rfl (by decide) in_X9 k_902 rfl rfl D_X9_averageDepth_1.2.2.2.2.2.2.2.2.2.2.1 ?_
        first
        | refine x_eqi _ (hn1) ?_
        | refine x_eqi _ (hs1) ?_
        | skip
        refine x_if_ne C 46 D_X9_averageDepth_1.2.2.2.2.2.2.2.2.2.2.2 (by decide) (fun c_39 => ?_) (fun c_39 => ?_)
        · skip
          first
          | have d_39 := cz_ne c_39 (by omega)
          | have d_39 := cb_ne c_39
          | skip
          refine x_iload_n C D_X9_averageDepth_2.2.2.1 rfl rfl ?_
          refine x_i2f C D_X9_averageDepth_2.2.2.2.1 ?_
          refine x_aload_n C D_X9_averageDepth_2.2.2.2.2.1 rfl rfl (by first | exact Or.inr ⟨_, rfl⟩ | exact va_rf_or _ | exact Or.inl rfl) ?_
          refine x_getI C (ci := 8) (k0 := 0) (by assumption) (by decide) rfl (by decide) in_X9 k_902 rfl rfl D_X9_averageDepth_2.2.2.2.2.2.1 ?_
          first
          | refine x_eqi _ (hn1) ?_
          | refine x_eqi _ (hs1) ?_
          | skip
          refine x_i2f C D_X9_averageDepth_2.2.2.2.2.2.2.1 ?_
          refine x_fdiv C D_X9_averageDepth_2.2.2.2.2.2.2.2.1 (fl_avg _ _ (fun e => absurd (cz_eq e (by omega)) (by omega))) ?_
          refine ret _ _ _ _ _ _ rfl D_X9_averageDepth_2.2.2.2.2.2.2.2.2 (Nat.le_of_ble_eq_true rfl) (Nat.le_of_ble_eq_true rfl) ?_
          exact ⟨by unfold avgF; rw [if_neg (by omega)], by rw [eI2]⟩
        · skip
          first
          | have d_39 := cz_eq c_39 (by omega)
          | have d_39 := cb_eq c_39
          | skip
          refine x_fconst0 C D_X9_averageDepth_2.1 ?_
          refine x_goto C 54 D_X9_averageDepth_2.2.1 (by decide) ?_
          refine ret _ _ _ _ _ _ rfl D_X9_averageDepth_2.2.2.2.2.2.2.2.2 (Nat.le_of_ble_eq_true rfl) (Nat.le_of_ble_eq_true rfl) ?_
          exact ⟨by unfold avgF; rw [if_pos d_39], by rw [eI2]⟩
      · skip
        first
        | have d_14 := cv_nle c_14 (by omega) (by omega)
        | skip
        have hsk := hsb k0 (by omega)
        have hs1 : I2 (ar 7) k0 = nI (sp k0) := by rw [i2 _ hm7]; exact hk7 k0 (by omega)
        have hsl := smd_le (f := sp) (n := k0) (fun i hi => hsb i (by omega))
        refine x_iload_n C D_X9_averageDepth_0.2.2.2.2.2.2.2.2.2.2.2 rfl rfl ?_
        refine x_aload_n C D_X9_averageDepth_1.1 rfl rfl (by first | exact Or.inr ⟨_, rfl⟩ | exact va_rf_or _ | exact Or.inl rfl) ?_
        refine x_getQ C (ci := 8) (k0 := 7) (by assumption) (by decide) rfl (by decide) in_X9 k_909 rfl rfl D_X9_averageDepth_1.2.1 ?_
        refine x_eqr (hM.2.1 7 (by decide)).1 ?_
        refine x_iload_n C D_X9_averageDepth_1.2.2.1 rfl rfl ?_
        refine x_iald C _ (by first | assumption | exact (hM.2.1 _ (by decide)).2.1) rfl (by first | omega | (rw [hM.nk _ (by decide)]; omega) | (rw [hM.np _ (by decide)]; omega)) (by first | omega | (rw [hM.nk _ (by decide)]; omega) | (rw [hM.np _ (by decide)]; omega)) D_X9_averageDepth_1.2.2.2.1 ?_
        first
        | refine x_eqi _ (hn1) ?_
        | refine x_eqi _ (hs1) ?_
        | skip
        refine x_callSi C (y := yX9_depthOf) (c_X9_depthOf l G (sp k0) hsk) k_1011 k_1012 k_67 k_1013 hd_X9_depthOf ⟨(Nat.le_of_ble_eq_true rfl), (Nat.le_of_ble_eq_true rfl)⟩ rfl (by first | exact Nat.le_of_ble_eq_true rfl | simp [x_crf, Value.category]) rfl rfl D_X9_averageDepth_1.2.2.2.2.1 ⟨(Nat.le_of_ble_eq_true rfl), (Nat.le_of_ble_eq_true rfl)⟩ (fun r_24 S_24 h_24 => ?_)
        obtain ⟨rfl, rfl⟩ := h_24
        refine x_iadd C D_X9_averageDepth_1.2.2.2.2.2.1 ?_
        first
        | refine x_eqi _ (nI_add _ _) ?_
        | skip
        refine x_istore_n C (lv' := [_, _, _]) D_X9_averageDepth_1.2.2.2.2.2.2.1 rfl (Nat.le_of_ble_eq_true rfl) (by first | rfl | exact x_ok_q rfl) rfl ?_
        first
        | refine x_iinc C (lv' := [_, _, _]) D_X9_averageDepth_1.2.2.2.2.2.2.2.1 rfl (x_incN_1 _) (by first | rfl | exact x_ok_q rfl) rfl ?_
        | refine x_iinc C (lv' := [_, _, _]) D_X9_averageDepth_1.2.2.2.2.2.2.2.1 rfl (x_inc_1 _) (by first | rfl | exact x_ok_q rfl) rfl ?_
        refine x_goto C 9 D_X9_averageDepth_1.2.2.2.2.2.2.2.2.1 (by decide) ?_
        exact ih_9 (k0 + 1) (by omega) (by omega)
  exact L_9 _ 0 (Nat.lt_succ_self _) (Nat.zero_le _)
