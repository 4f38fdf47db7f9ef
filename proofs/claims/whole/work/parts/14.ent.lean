abbrev rm_X2_rebuild_1 : Room := { frames := 44, cells := 0, slots := 0, locals := 1028 }
set_option maxHeartbeats 4000000 in
set_option maxRecDepth 100000 in
theorem c_X2_rebuild_1 (l : Launch) (G : xG) {K N : Nat → Nat} {I : Nat → Nat → Int32} {Q : Nat → Nat → Option Nat} {J : Nat → Nat → Int64} (t pq pn rw rn cap : Nat) (c k0 : Nat) (A : Tr) (cd : Nat → Nat) (hL : LTI cv1 1999 K N I Q t 2 pq pn rw rn cap cd A) (hA : ht A ≤ 32) (hpl : I pq 1 = nI (spath od1 cd c A 0).length) (hsg : SEG (Q pn) 0 (spath od1 cd c A 0)) (hk : k0 < (spath od1 cd c A 0).length) : XM l yX2_rebuild cX2_rebuild 5 none rm_X2_rebuild_1 G Rv [.ref t, .int (nI k0)] (K, N, I, Q, J) (fun _ S1 => ∃ I1 Q1, S1 = (K, N, I1, Q1, J) ∧ LTI cv1 1999 K N I1 Q1 t 2 pq pn rw rn cap cd (updp od1 cd c (kdl od1 cd 8 k0 (ino (subp od1 cd c A 0 k0))) A 0 k0) ∧ FRL K t pq pn rw rn (ino A) I I1 Q Q1 ∧ (∀ q ∈ ino A, I1 q 0 = I q 0 ∧ I1 q 1 = I q 1) ∧ I1 t 3 = I t 3 ∧ I1 t 4 = I t 4 + nI (sz (subp od1 cd c A 0 k0)) ∧ I1 t 5 = I t 5) := by
  refine x_metv (lv := [_, _, _, _, _]) (by decide +kernel) (x_cc (by first | rfl | exact x_crf _) (x_cc (by first | rfl | exact x_crf _) x_cn)) (Nat.le_of_ble_eq_true rfl) rfl ?_
  intro pP eE sS mM aA bB hH cC Z C hini ret
  have hz := hL.1
  have hT := hL.2.1
  have hW := hL.2.2.1
  have hnA := hL.2.2.2.1
  have hN := hL.2.2.2.2.1
  have hinj := hL.2.2.2.2.2.1
  have hszc := hL.2.2.2.2.2.2.1
  have hc256 := hL.2.2.2.2.2.2.2
  have hne := hz.ne
  have hPl : (spath od1 cd c A 0).length ≤ ht A := spath_len _ _ _ _ _
  have hrow : RowOK K N I Q pq pn 40 (spath od1 cd c A 0).length := hz.2.2.2.2.1.ok hpl (by omega)
  obtain ⟨q0, l0, r0, hq0, hsu, hTs, hWs, hsA, hns, hss, hhs⟩ := subp_facts (od := od1) (cd := cd) (c := c) A 0 k0 _ hT hW hnA hk
  obtain ⟨SU, eSU⟩ : ∃ SU, SU = subp od1 cd c A 0 k0 := ⟨_, rfl⟩
  rw [← eSU] at hsu
  have hTS : TP K Q SU (some q0) := by rw [hsu]; exact hTs
  have hWS : WT I SU := by rw [hsu]; exact hWs
  have hsA' : ∀ a ∈ ino SU, a ∈ ino A := by rw [hsu]; exact hsA
  have hnS : (ino SU).Nodup := by rw [hsu]; exact hns
  have hsS : sz SU ≤ sz A := by rw [hsu]; exact hss
  have hhS : ht SU ≤ ht A := by rw [hsu]; omega
  have hlS : (ino SU).length = sz SU := ino_len SU
  have hq0K : K q0 = 3 := hTs.2.1
  have hq0w : wOf I (some q0) = nI (sz SU) := by rw [hsu]; exact hWs.1
  have hkp := hz.2.2.2.2.1.1
  have hkn := hz.2.2.2.2.2.1.2.2.1
  refine x_aload_n C D_X2_rebuild_0.1 rfl rfl (by first | exact Or.inr ⟨_, rfl⟩ | exact va_rf_or _ | exact Or.inl rfl) ?_
  refine x_getQ C (ci := 1) (k0 := 0) hz.1 (by decide) rfl (by decide) in_X1 k_110 rfl rfl D_X2_rebuild_0.2.1 ?_
  refine x_eqr hz.2.2.1 ?_
  refine x_iload_n C D_X2_rebuild_0.2.2.1 rfl rfl ?_
  refine x_callVq C (y := yX4_at) (c_X4_at l G pq pn 40 (spath od1 cd c A 0).length (nI k0) hrow) (ci := 3) hkp (by decide) rfl rfl k_272 k_273 k_274 k_63 k_275 hd_X4_at ⟨(Nat.le_of_ble_eq_true rfl), (Nat.le_of_ble_eq_true rfl)⟩ rfl (by first | exact Nat.le_of_ble_eq_true rfl | simp [x_crf, Value.category]) rfl rfl D_X2_rebuild_0.2.2.2.1 ⟨(Nat.le_of_ble_eq_true rfl), (Nat.le_of_ble_eq_true rfl)⟩ (fun r_5 S_5 h_5 => ?_)
  obtain ⟨hr5, rfl⟩ := h_5
  rw [atv_in _ hk (by omega), ← Nat.zero_add k0, hsg k0 hk, hq0] at hr5
  subst hr5
  rw [Nat.zero_add]
  refine x_astore_n C (lv' := [_, _, _, _, _]) D_X2_rebuild_0.2.2.2.2.1 rfl (Nat.le_of_ble_eq_true rfl) (by first | rfl | exact x_ok_q rfl) (by first | exact Or.inr ⟨_, rfl⟩ | exact va_rf_or _ | exact Or.inl rfl) rfl ?_
  refine x_aload_n C D_X2_rebuild_0.2.2.2.2.2.1 rfl rfl (by first | exact Or.inr ⟨_, rfl⟩ | exact va_rf_or _ | exact Or.inl rfl) ?_
  refine x_getQ C (ci := 1) (k0 := 0) hz.1 (by decide) rfl (by decide) in_X1 k_110 rfl rfl D_X2_rebuild_0.2.2.2.2.2.2.1 ?_
  refine x_eqr hz.2.2.1 ?_
  refine x_iload_n C D_X2_rebuild_0.2.2.2.2.2.2.2.1 rfl rfl ?_
  refine x_iconst C (v := nI 1) D_X2_rebuild_0.2.2.2.2.2.2.2.2.1 (by decide +kernel) ?_
  refine x_isub C D_X2_rebuild_0.2.2.2.2.2.2.2.2.2.1 ?_
  refine x_callVq C (y := yX4_at) (c_X4_at l G pq pn 40 (spath od1 cd c A 0).length (nI k0 - nI 1) hrow) (ci := 3) hkp (by decide) rfl rfl k_272 k_273 k_274 k_63 k_275 hd_X4_at ⟨(Nat.le_of_ble_eq_true rfl), (Nat.le_of_ble_eq_true rfl)⟩ rfl (by first | exact Nat.le_of_ble_eq_true rfl | simp [x_crf, Value.category]) rfl rfl D_X2_rebuild_0.2.2.2.2.2.2.2.2.2.2.1 ⟨(Nat.le_of_ble_eq_true rfl), (Nat.le_of_ble_eq_true rfl)⟩ (fun r_16 S_16 h_16 => ?_)
  obtain ⟨hr16, rfl⟩ := h_16
  refine x_astore_n C (lv' := [_, _, _, _, _]) D_X2_rebuild_0.2.2.2.2.2.2.2.2.2.2.2 rfl (Nat.le_of_ble_eq_true rfl) (by first | rfl | exact x_ok_q rfl) (by first | exact Or.inr ⟨_, rfl⟩ | exact va_rf_or _ | exact Or.inl rfl) rfl ?_
  refine x_aload_n C D_X2_rebuild_1.1 rfl rfl (by first | exact Or.inr ⟨_, rfl⟩ | exact va_rf_or _ | exact Or.inl rfl) ?_
  refine x_dup C D_X2_rebuild_1.2.1 (by first | rfl | exact x_crf _) ?_
  refine x_getI C (ci := 1) (k0 := 4) hz.1 (by decide) rfl (by decide) in_X1 k_114 rfl rfl D_X2_rebuild_1.2.2.1 ?_
  refine x_aload_n C D_X2_rebuild_1.2.2.2.1 rfl rfl (by first | exact Or.inr ⟨_, rfl⟩ | exact va_rf_or _ | exact Or.inl rfl) ?_
  refine x_callSi C (y := yX3_weightOf) (c_X3_weightOf l G (some q0) (fun a ha => by cases ha; exact hq0K)) k_247 k_248 k_73 k_249 hd_X3_weightOf ⟨(Nat.le_of_ble_eq_true rfl), (Nat.le_of_ble_eq_true rfl)⟩ rfl (by first | exact Nat.le_of_ble_eq_true rfl | simp [x_crf, Value.category]) rfl rfl D_X2_rebuild_1.2.2.2.2.1 ⟨(Nat.le_of_ble_eq_true rfl), (Nat.le_of_ble_eq_true rfl)⟩ (fun r_26 S_26 h_26 => ?_)
  obtain ⟨rfl, rfl⟩ := h_26
  refine x_eqi _ hq0w ?_
  refine x_iadd C D_X2_rebuild_1.2.2.2.2.2.1 ?_
  refine x_putI C (ci := 1) (k0 := 4) hz.1 (by decide) rfl (by decide) in_X1 k_114 rfl tyX1 tyX1_ok nmX1 rfl (by rfl) rfl rfl rfl D_X2_rebuild_1.2.2.2.2.2.2.1 (fun I30 eI30 => ?_)
  refine x_aload_n C D_X2_rebuild_1.2.2.2.2.2.2.2.1 rfl rfl (by first | exact Or.inr ⟨_, rfl⟩ | exact va_rf_or _ | exact Or.inl rfl) ?_
  refine x_aload_n C D_X2_rebuild_1.2.2.2.2.2.2.2.2.1 rfl rfl (by first | exact Or.inr ⟨_, rfl⟩ | exact va_rf_or _ | exact Or.inl rfl) ?_
  refine x_iconst C (v := nI 1) D_X2_rebuild_1.2.2.2.2.2.2.2.2.2.1 (by decide +kernel) ?_
  have h65 := (rfl : nI 1 = xb true)
  rw [h65]
  refine x_callUv C (x := ⟨"ScapegoatSpur$LazyTree", "gather", "(LScapegoatSpur$Node;Z)V"⟩) (y := yX2_gather) (owner := "ScapegoatSpur$LazyTree") (c_X2_gather_1 l G t pq pn rw rn cap SU true (some q0) hz hTS (by omega) (by rw [apd_true, hlS]; omega)) (ci := 1) hz.1 (by decide) rfl k_254 k_12 k_13 k_256 k_61 k_257 rfl hu_X2_gather ⟨(Nat.le_of_ble_eq_true rfl), (Nat.le_of_ble_eq_true rfl)⟩ rfl (by first | exact Nat.le_of_ble_eq_true rfl | simp [x_crf, Value.category]) rfl rfl D_X2_rebuild_1.2.2.2.2.2.2.2.2.2.2.1 ⟨(Nat.le_of_ble_eq_true rfl), (Nat.le_of_ble_eq_true rfl)⟩ (fun _ S_36 h_36 => ?_)
  obtain ⟨g, rfl, hs⟩ := h_36
  rw [apd_true] at hs ⊢
  refine x_aload_n C D_X2_rebuild_1.2.2.2.2.2.2.2.2.2.2.2 rfl rfl (by first | exact Or.inr ⟨_, rfl⟩ | exact va_rf_or _ | exact Or.inl rfl) ?_
  refine x_iconst C (v := nI 0) D_X2_rebuild_2.1 (by decide +kernel) ?_
  refine x_aload_n C D_X2_rebuild_2.2.1 rfl rfl (by first | exact Or.inr ⟨_, rfl⟩ | exact va_rf_or _ | exact Or.inl rfl) ?_
  refine x_getQ C (ci := 1) (k0 := 1) hz.1 (by decide) rfl (by decide) in_X1 k_111 rfl rfl D_X2_rebuild_2.2.2.1 ?_
  refine x_eqr (hz.row g).2.2.2.1 ?_
  refine x_callVi C (y := yX4_length) (c_X4_length l G rw hz.2.2.2.2.2.1.1) (ci := 3) hz.2.2.2.2.2.1.1 (by decide) rfl rfl k_220 k_221 k_222 k_63 k_223 hd_X4_length ⟨(Nat.le_of_ble_eq_true rfl), (Nat.le_of_ble_eq_true rfl)⟩ rfl (by first | exact Nat.le_of_ble_eq_true rfl | simp [x_crf, Value.category]) rfl rfl D_X2_rebuild_2.2.2.2.1 ⟨(Nat.le_of_ble_eq_true rfl), (Nat.le_of_ble_eq_true rfl)⟩ (fun r_45 S_45 h_45 => ?_)
  obtain ⟨rfl, rfl⟩ := h_45
  refine x_eqi _ (x_u2_s _ _ _ _) ?_
  refine x_iload_n C D_X2_rebuild_2.2.2.2.2.1 rfl rfl ?_
  refine x_callSq C (y := yX2_layOut) (c_X2_layOut_1 l G t pq pn rw rn cap (ino SU).length cd (by rw [hlS]; omega) 8 (ino SU) k0 0 (ino SU).length (x_u2 I30 rw 1 (nI (ino SU).length)) (x_up Q rn g) (hz.row g) (x_u2_s _ _ _ _) (Nat.zero_add _).symm (Nat.le_refl _) (by omega) (by rw [hlS]; omega) hnS (fun q hq => by have h9 := hN q (hsA' q hq); have h8 := hz.nn h9.1; exact ⟨h9.1, by rw [x_u2_a _ _ h8.2.2.2.1, eI30, x_u2_a _ _ h8.1]; exact h9.2.1, h9.2.2⟩) (fun u hu v hv => hinj u (hsA' u hu) v (hsA' v hv)) (by rw [x_up_s]; exact hs)) k_261 k_262 k_61 k_263 hd_X2_layOut ⟨(Nat.le_of_ble_eq_true rfl), (Nat.le_of_ble_eq_true rfl)⟩ rfl (by first | exact Nat.le_of_ble_eq_true rfl | simp [x_crf, Value.category]) rfl rfl D_X2_rebuild_2.2.2.2.2.2.1 ⟨(Nat.le_of_ble_eq_true rfl), (Nat.le_of_ble_eq_true rfl)⟩ (fun r_49 S_49 h_49 => ?_)
  obtain ⟨I3, Q3, rfl, hlay⟩ := h_49
  refine x_astore C (lv' := [_, _, _, _, _]) D_X2_rebuild_2.2.2.2.2.2.2.1 (Nat.le_of_ble_eq_true rfl) (by first | rfl | exact x_ok_q rfl) (by first | exact Or.inr ⟨_, rfl⟩ | exact va_rf_or _ | exact Or.inl rfl) rfl ?_
  refine x_aload_n C D_X2_rebuild_2.2.2.2.2.2.2.2.1 rfl rfl (by first | exact Or.inr ⟨_, rfl⟩ | exact va_rf_or _ | exact Or.inl rfl) ?_
  refine x_ifnonnull C 67 D_X2_rebuild_2.2.2.2.2.2.2.2.2.1 (by decide) (fun p0 e_55 => ?_) (fun e_55 => ?_)
  · skip
    subst e_55
    obtain ⟨k1, rfl⟩ : ∃ k1, k0 = k1 + 1 := by
      cases k0 with
      | zero => rw [atv_out _ (Or.inl (by decide)) (by omega)] at hr16; cases hr16
      | succ k => exact ⟨k, rfl⟩
    obtain ⟨p1, q1, hp1, hq1, hp0K, hp0A, hp0s, hlnk⟩ := plink_path (od := od1) (cd := cd) (c := c) A 0 k1 _ hT hnA hk
    rw [pk_sub (by omega), Nat.add_sub_cancel, atv_in _ (by omega) (by omega), ← Nat.zero_add k1, hsg k1 (by omega), hp1] at hr16
    cases hr16
    obtain rfl : q1 = q0 := Option.some.inj (hq1.symm.trans hq0)
    have hp0S : p0 ∉ ino SU := by rw [eSU]; exact hp0s
    have hp0r : p0 ≠ rn := (hz.nn hp0K).2.2.2.2
    have hq3p : Q3 p0 3 = Q p0 3 := by rw [hlay.2.2.1 p0 hp0S hp0r, x_up_n _ _ hp0r]
    refine x_aload_n C D_X2_rebuild_3.2.1 rfl rfl (by first | exact Or.inr ⟨_, rfl⟩ | exact va_rf_or _ | exact Or.inl rfl) ?_
    refine x_getQ C (ci := 2) (k0 := 3) hp0K (by decide) rfl (by decide) in_X3 k_622 rfl rfl D_X2_rebuild_3.2.2.1 ?_
    refine x_eqq _ hq3p ?_
    refine x_aload_n C D_X2_rebuild_3.2.2.2.1 rfl rfl (by first | exact Or.inr ⟨_, rfl⟩ | exact va_rf_or _ | exact Or.inl rfl) ?_
    refine x_eqq2 (some q1) rfl ?_
    refine x_acmp_ne C 84 D_X2_rebuild_3.2.2.2.2.1 (by decide) (fun c_72 => ?_) (fun c_72 => ?_)
    · skip
      obtain ⟨hlk, hp4⟩ : plink od1 cd c A 0 (k1 + 1) = some (p0, 4) ∧ Q p0 4 = some q1 := by
        rcases hlnk with ⟨h1, h2⟩ | ⟨h1, h2, h3⟩
        · exact absurd h2 c_72
        · exact ⟨h1, h2⟩
      refine x_aload_n C D_X2_rebuild_3.2.2.2.2.2.2.2.2.2.1 rfl rfl (by first | exact Or.inr ⟨_, rfl⟩ | exact va_rf_or _ | exact Or.inl rfl) ?_
      refine x_aload C D_X2_rebuild_3.2.2.2.2.2.2.2.2.2.2.1 rfl (by first | exact Or.inr ⟨_, rfl⟩ | exact va_rf_or _ | exact Or.inl rfl) ?_
      refine x_putQ C (ci := 2) (k0 := 4) hp0K (by decide) rfl (by decide) in_X3 k_625 rfl tyX3 tyX3_ok nmX3 rfl (by first | exact rfl | exact (rfl : _ = va_rf (some _)) | exact (rfl : _ = va_rf none)) (by rfl) (by first | rfl | exact x_narq _ _) (by first | rfl | exact x_fitq _ _) rfl D_X2_rebuild_3.2.2.2.2.2.2.2.2.2.2.2 (fun Q_87 eQ_87 => ?_)
      refine ret _ _ _ _ _ rfl D_X2_rebuild_4 (Nat.le_of_ble_eq_true rfl) (Nat.le_of_ble_eq_true rfl) ?_
      have hI1 : ∀ q, q ≠ t → q ≠ rw → x_u2 I30 rw 1 (nI (ino SU).length) q = I q := fun q h1 h2 => by rw [x_u2_a _ _ h2, eI30, x_u2_a _ _ h1]
      have hp8 : (ino (kdl od1 cd 8 (k1 + 1) (ino SU))).Perm (ino (subp od1 cd c A 0 (k1 + 1))) := by rw [← eSU]; exact kdl_perm 8 (k1 + 1) _ (by rw [hlS]; omega)
      have hQ4 : ∀ q j, q ∉ ino (subp od1 cd c A 0 (k1 + 1)) → q ≠ rn → ¬ (q = t ∧ j = 2) → plink od1 cd c A 0 (k1 + 1) ≠ some (q, j) → Q_87 q j = Q3 q j := by
        intro q j h1 h2 h3 h4
        rw [eQ_87]
        by_cases hqt : q = p0
        · subst hqt; rw [x_u2_j _ _ (fun e => h4 (by rw [hlk, e]))]
        · rw [x_u2_a _ _ hqt]
      have hQ4n : ∀ q ∈ ino SU, Q_87 q = Q3 q := fun q hq => by
        have hqp : q ≠ p0 := fun e => hp0s (by rw [← eSU, ← e]; exact hq)
        rw [eQ_87, x_u2_a _ _ hqp]
      have hx4 : ∀ x, plink od1 cd c A 0 (k1 + 1) = some x → Q_87 x.1 x.2 = r_49 ∧ (x.2 = 3 ∨ x.2 = 4) ∧ (k1 + 1) ≠ 0 := fun x hx1 => by
        rw [hlk] at hx1
        cases hx1
        exact ⟨by rw [eQ_87, x_u2_s], by omega, by omega⟩
      have hr4 : Q_87 t 2 = if (k1 + 1) = 0 then r_49 else Q t 2 := by
        have htp : t ≠ p0 := fun e => (hz.nn hp0K).1 e.symm
        have hts : t ∉ ino SU := fun h => (hz.nn (hN t (hsA' t h)).1).1 rfl
        rw [if_neg (by omega), eQ_87, x_u2_a _ _ htp, hlay.2.2.1 t hts hne.2.2.2.1, x_up_n _ _ hne.2.2.2.1]
      have hq4o : ∀ q, q ∉ ino A → q ≠ t → Q_87 q = Q3 q := fun q hq _ => by
        have hqp : q ≠ p0 := fun e => hq (e ▸ hp0A)
        rw [eQ_87, x_u2_a _ _ hqp]
      have hfin := LTI.upd (c := c) (k := (k1 + 1)) (od := od1) hL hk hp8 (by rw [← eSU]; exact hlay) rfl hI1 hQ4 (by rw [← eSU]; exact hQ4n) hx4 hr4
      refine ⟨I3, Q_87, rfl, ?_, ?_, hfin.2, ?_, ?_, ?_⟩
      · rw [← eSU]; exact hfin.1
      · intro q h0 hA1 h1 h2 h3 h4 h5
        have hs : q ∉ ino SU := fun h => hA1 (hsA' q h)
        refine ⟨by rw [hlay.2.2.2.2.1 q hs, hI1 q h1 h4], ?_⟩
        rw [hq4o q hA1 h1, hlay.2.2.1 q hs h5, x_up_n _ _ h5]
      · rw [hlay.2.2.2.2.2.1 t 3 (by omega), x_u2_a _ _ hne.2.2.1, eI30, x_u2_j _ _ (by omega)]
      · rw [hlay.2.2.2.2.2.1 t 4 (by omega), x_u2_a _ _ hne.2.2.1, eI30, x_u2_s, ← eSU]
      · rw [hlay.2.2.2.2.2.1 t 5 (by omega), x_u2_a _ _ hne.2.2.1, eI30, x_u2_j _ _ (by omega)]
    · skip
      have hlk : plink od1 cd c A 0 (k1 + 1) = some (p0, 3) := by
        rcases hlnk with ⟨h1, h2⟩ | ⟨h1, h2, h3⟩
        · exact h1
        · exact absurd c_72 h3
      refine x_aload_n C D_X2_rebuild_3.2.2.2.2.2.1 rfl rfl (by first | exact Or.inr ⟨_, rfl⟩ | exact va_rf_or _ | exact Or.inl rfl) ?_
      refine x_aload C D_X2_rebuild_3.2.2.2.2.2.2.1 rfl (by first | exact Or.inr ⟨_, rfl⟩ | exact va_rf_or _ | exact Or.inl rfl) ?_
      refine x_putQ C (ci := 2) (k0 := 3) hp0K (by decide) rfl (by decide) in_X3 k_622 rfl tyX3 tyX3_ok nmX3 rfl (by first | exact rfl | exact (rfl : _ = va_rf (some _)) | exact (rfl : _ = va_rf none)) (by rfl) (by first | rfl | exact x_narq _ _) (by first | rfl | exact x_fitq _ _) rfl D_X2_rebuild_3.2.2.2.2.2.2.2.1 (fun Q_78 eQ_78 => ?_)
      refine x_goto C 90 D_X2_rebuild_3.2.2.2.2.2.2.2.2.1 (by decide) ?_
      refine ret _ _ _ _ _ rfl D_X2_rebuild_4 (Nat.le_of_ble_eq_true rfl) (Nat.le_of_ble_eq_true rfl) ?_
      have hI1 : ∀ q, q ≠ t → q ≠ rw → x_u2 I30 rw 1 (nI (ino SU).length) q = I q := fun q h1 h2 => by rw [x_u2_a _ _ h2, eI30, x_u2_a _ _ h1]
      have hp8 : (ino (kdl od1 cd 8 (k1 + 1) (ino SU))).Perm (ino (subp od1 cd c A 0 (k1 + 1))) := by rw [← eSU]; exact kdl_perm 8 (k1 + 1) _ (by rw [hlS]; omega)
      have hQ4 : ∀ q j, q ∉ ino (subp od1 cd c A 0 (k1 + 1)) → q ≠ rn → ¬ (q = t ∧ j = 2) → plink od1 cd c A 0 (k1 + 1) ≠ some (q, j) → Q_78 q j = Q3 q j := by
        intro q j h1 h2 h3 h4
        rw [eQ_78]
        by_cases hqt : q = p0
        · subst hqt; rw [x_u2_j _ _ (fun e => h4 (by rw [hlk, e]))]
        · rw [x_u2_a _ _ hqt]
      have hQ4n : ∀ q ∈ ino SU, Q_78 q = Q3 q := fun q hq => by
        have hqp : q ≠ p0 := fun e => hp0s (by rw [← eSU, ← e]; exact hq)
        rw [eQ_78, x_u2_a _ _ hqp]
      have hx4 : ∀ x, plink od1 cd c A 0 (k1 + 1) = some x → Q_78 x.1 x.2 = r_49 ∧ (x.2 = 3 ∨ x.2 = 4) ∧ (k1 + 1) ≠ 0 := fun x hx1 => by
        rw [hlk] at hx1
        cases hx1
        exact ⟨by rw [eQ_78, x_u2_s], by omega, by omega⟩
      have hr4 : Q_78 t 2 = if (k1 + 1) = 0 then r_49 else Q t 2 := by
        have htp : t ≠ p0 := fun e => (hz.nn hp0K).1 e.symm
        have hts : t ∉ ino SU := fun h => (hz.nn (hN t (hsA' t h)).1).1 rfl
        rw [if_neg (by omega), eQ_78, x_u2_a _ _ htp, hlay.2.2.1 t hts hne.2.2.2.1, x_up_n _ _ hne.2.2.2.1]
      have hq4o : ∀ q, q ∉ ino A → q ≠ t → Q_78 q = Q3 q := fun q hq _ => by
        have hqp : q ≠ p0 := fun e => hq (e ▸ hp0A)
        rw [eQ_78, x_u2_a _ _ hqp]
      have hfin := LTI.upd (c := c) (k := (k1 + 1)) (od := od1) hL hk hp8 (by rw [← eSU]; exact hlay) rfl hI1 hQ4 (by rw [← eSU]; exact hQ4n) hx4 hr4
      refine ⟨I3, Q_78, rfl, ?_, ?_, hfin.2, ?_, ?_, ?_⟩
      · rw [← eSU]; exact hfin.1
      · intro q h0 hA1 h1 h2 h3 h4 h5
        have hs : q ∉ ino SU := fun h => hA1 (hsA' q h)
        refine ⟨by rw [hlay.2.2.2.2.1 q hs, hI1 q h1 h4], ?_⟩
        rw [hq4o q hA1 h1, hlay.2.2.1 q hs h5, x_up_n _ _ h5]
      · rw [hlay.2.2.2.2.2.1 t 3 (by omega), x_u2_a _ _ hne.2.2.1, eI30, x_u2_j _ _ (by omega)]
      · rw [hlay.2.2.2.2.2.1 t 4 (by omega), x_u2_a _ _ hne.2.2.1, eI30, x_u2_s, ← eSU]
      · rw [hlay.2.2.2.2.2.1 t 5 (by omega), x_u2_a _ _ hne.2.2.1, eI30, x_u2_j _ _ (by omega)]
  · skip
    subst e_55
    have hk0e : k0 = 0 := by
      rcases Nat.eq_zero_or_pos k0 with h | h
      · exact h
      · exfalso
        rw [pk_sub (by omega), atv_in _ (by omega) (by omega), ← Nat.zero_add (k0 - 1), hsg (k0 - 1) (by omega), List.getElem?_eq_getElem (by omega)] at hr16
        cases hr16
    refine x_aload_n C D_X2_rebuild_2.2.2.2.2.2.2.2.2.2.1 rfl rfl (by first | exact Or.inr ⟨_, rfl⟩ | exact va_rf_or _ | exact Or.inl rfl) ?_
    refine x_aload C D_X2_rebuild_2.2.2.2.2.2.2.2.2.2.2.1 rfl (by first | exact Or.inr ⟨_, rfl⟩ | exact va_rf_or _ | exact Or.inl rfl) ?_
    refine x_putQ C (ci := 1) (k0 := 2) hz.1 (by decide) rfl (by decide) in_X1 k_112 rfl tyX1 tyX1_ok nmX1 rfl (by first | exact rfl | exact (rfl : _ = va_rf (some _)) | exact (rfl : _ = va_rf none)) (by rfl) (by first | rfl | exact x_narq _ _) (by first | rfl | exact x_fitq _ _) rfl D_X2_rebuild_2.2.2.2.2.2.2.2.2.2.2.2 (fun Q_61 eQ_61 => ?_)
    refine x_goto C 90 D_X2_rebuild_3.1 (by decide) ?_
    refine ret _ _ _ _ _ rfl D_X2_rebuild_4 (Nat.le_of_ble_eq_true rfl) (Nat.le_of_ble_eq_true rfl) ?_
    have hI1 : ∀ q, q ≠ t → q ≠ rw → x_u2 I30 rw 1 (nI (ino SU).length) q = I q := fun q h1 h2 => by rw [x_u2_a _ _ h2, eI30, x_u2_a _ _ h1]
    have hp8 : (ino (kdl od1 cd 8 k0 (ino SU))).Perm (ino (subp od1 cd c A 0 k0)) := by rw [← eSU]; exact kdl_perm 8 k0 _ (by rw [hlS]; omega)
    have hk0 : k0 = 0 := hk0e
    have hpl0 : plink od1 cd c A 0 k0 = none := by rw [hk0]; cases A <;> simp [plink]
    have hQ4 : ∀ q j, q ∉ ino (subp od1 cd c A 0 k0) → q ≠ rn → ¬ (q = t ∧ j = 2) → plink od1 cd c A 0 k0 ≠ some (q, j) → Q_61 q j = Q3 q j := by
      intro q j h1 h2 h3 h4
      rw [eQ_61]
      by_cases hqt : q = t
      · subst hqt; rw [x_u2_j _ _ (fun e => h3 ⟨rfl, e⟩)]
      · rw [x_u2_a _ _ hqt]
    have hnT : ∀ q ∈ ino SU, q ≠ t := fun q hq => (hz.nn (hN q (hsA' q hq)).1).1
    have hQ4n : ∀ q ∈ ino SU, Q_61 q = Q3 q := fun q hq => by rw [eQ_61, x_u2_a _ _ (hnT q hq)]
    have hx4 : ∀ x, plink od1 cd c A 0 k0 = some x → Q_61 x.1 x.2 = r_49 ∧ (x.2 = 3 ∨ x.2 = 4) ∧ k0 ≠ 0 := fun x hx1 => by rw [hpl0] at hx1; cases hx1
    have hr4 : Q_61 t 2 = if k0 = 0 then r_49 else Q t 2 := by rw [if_pos hk0, eQ_61, x_u2_s]
    have hq4o : ∀ q, q ∉ ino A → q ≠ t → Q_61 q = Q3 q := fun q _ h1 => by rw [eQ_61, x_u2_a _ _ h1]
    have hfin := LTI.upd (c := c) (k := k0) (od := od1) hL hk hp8 (by rw [← eSU]; exact hlay) rfl hI1 hQ4 (by rw [← eSU]; exact hQ4n) hx4 hr4
    refine ⟨I3, Q_61, rfl, ?_, ?_, hfin.2, ?_, ?_, ?_⟩
    · rw [← eSU]; exact hfin.1
    · intro q h0 hA1 h1 h2 h3 h4 h5
      have hs : q ∉ ino SU := fun h => hA1 (hsA' q h)
      refine ⟨by rw [hlay.2.2.2.2.1 q hs, hI1 q h1 h4], ?_⟩
      rw [hq4o q hA1 h1, hlay.2.2.1 q hs h5, x_up_n _ _ h5]
    · rw [hlay.2.2.2.2.2.1 t 3 (by omega), x_u2_a _ _ hne.2.2.1, eI30, x_u2_j _ _ (by omega)]
    · rw [hlay.2.2.2.2.2.1 t 4 (by omega), x_u2_a _ _ hne.2.2.1, eI30, x_u2_s, ← eSU]
    · rw [hlay.2.2.2.2.2.1 t 5 (by omega), x_u2_a _ _ hne.2.2.1, eI30, x_u2_j _ _ (by omega)]
abbrev rm_X2_rebuild_5 : Room := { frames := 44, cells := 0, slots := 0, locals := 1028 }
set_option maxHeartbeats 4000000 in
set_option maxRecDepth 100000 in
theorem c_X2_rebuild_5 (l : Launch) (G : xG) {K N : Nat → Nat} {I : Nat → Nat → Int32} {Q : Nat → Nat → Option Nat} {J : Nat → Nat → Int64} (t pq pn rw rn cap : Nat) (c k0 : Nat) (A : Tr) (cd : Nat → Nat) (hL : LTI cv5 10000 K N I Q t 5 pq pn rw rn cap cd A) (hA : ht A ≤ 32) (hpl : I pq 1 = nI (spath od5 cd c A 0).length) (hsg : SEG (Q pn) 0 (spath od5 cd c A 0)) (hk : k0 < (spath od5 cd c A 0).length) : XM l yX2_rebuild cX2_rebuild 5 none rm_X2_rebuild_5 G Rv [.ref t, .int (nI k0)] (K, N, I, Q, J) (fun _ S1 => ∃ I1 Q1, S1 = (K, N, I1, Q1, J) ∧ LTI cv5 10000 K N I1 Q1 t 5 pq pn rw rn cap cd (updp od5 cd c (kdl od5 cd 8 k0 (ino (subp od5 cd c A 0 k0))) A 0 k0) ∧ FRL K t pq pn rw rn (ino A) I I1 Q Q1 ∧ (∀ q ∈ ino A, I1 q 0 = I q 0 ∧ I1 q 1 = I q 1) ∧ I1 t 3 = I t 3 ∧ I1 t 4 = I t 4 + nI (sz (subp od5 cd c A 0 k0)) ∧ I1 t 5 = I t 5) := by
  refine x_metv (lv := [_, _, _, _, _]) (by decide +kernel) (x_cc (by first | rfl | exact x_crf _) (x_cc (by first | rfl | exact x_crf _) x_cn)) (Nat.le_of_ble_eq_true rfl) rfl ?_
  intro pP eE sS mM aA bB hH cC Z C hini ret
  have hz := hL.1
  have hT := hL.2.1
  have hW := hL.2.2.1
  have hnA := hL.2.2.2.1
  have hN := hL.2.2.2.2.1
  have hinj := hL.2.2.2.2.2.1
  have hszc := hL.2.2.2.2.2.2.1
  have hc256 := hL.2.2.2.2.2.2.2
  have hne := hz.ne
  have hPl : (spath od5 cd c A 0).length ≤ ht A := spath_len _ _ _ _ _
  have hrow : RowOK K N I Q pq pn 40 (spath od5 cd c A 0).length := hz.2.2.2.2.1.ok hpl (by omega)
  obtain ⟨q0, l0, r0, hq0, hsu, hTs, hWs, hsA, hns, hss, hhs⟩ := subp_facts (od := od5) (cd := cd) (c := c) A 0 k0 _ hT hW hnA hk
  obtain ⟨SU, eSU⟩ : ∃ SU, SU = subp od5 cd c A 0 k0 := ⟨_, rfl⟩
  rw [← eSU] at hsu
  have hTS : TP K Q SU (some q0) := by rw [hsu]; exact hTs
  have hWS : WT I SU := by rw [hsu]; exact hWs
  have hsA' : ∀ a ∈ ino SU, a ∈ ino A := by rw [hsu]; exact hsA
  have hnS : (ino SU).Nodup := by rw [hsu]; exact hns
  have hsS : sz SU ≤ sz A := by rw [hsu]; exact hss
  have hhS : ht SU ≤ ht A := by rw [hsu]; omega
  have hlS : (ino SU).length = sz SU := ino_len SU
  have hq0K : K q0 = 3 := hTs.2.1
  have hq0w : wOf I (some q0) = nI (sz SU) := by rw [hsu]; exact hWs.1
  have hkp := hz.2.2.2.2.1.1
  have hkn := hz.2.2.2.2.2.1.2.2.1
  refine x_aload_n C D_X2_rebuild_0.1 rfl rfl (by first | exact Or.inr ⟨_, rfl⟩ | exact va_rf_or _ | exact Or.inl rfl) ?_
  refine x_getQ C (ci := 4) (k0 := 0) hz.1 (by decide) rfl (by decide) in_X5 k_110 rfl rfl D_X2_rebuild_0.2.1 ?_
  refine x_eqr hz.2.2.1 ?_
  refine x_iload_n C D_X2_rebuild_0.2.2.1 rfl rfl ?_
  refine x_callVq C (y := yX4_at) (c_X4_at l G pq pn 40 (spath od5 cd c A 0).length (nI k0) hrow) (ci := 3) hkp (by decide) rfl rfl k_272 k_273 k_274 k_63 k_275 hd_X4_at ⟨(Nat.le_of_ble_eq_true rfl), (Nat.le_of_ble_eq_true rfl)⟩ rfl (by first | exact Nat.le_of_ble_eq_true rfl | simp [x_crf, Value.category]) rfl rfl D_X2_rebuild_0.2.2.2.1 ⟨(Nat.le_of_ble_eq_true rfl), (Nat.le_of_ble_eq_true rfl)⟩ (fun r_5 S_5 h_5 => ?_)
  obtain ⟨hr5, rfl⟩ := h_5
  rw [atv_in _ hk (by omega), ← Nat.zero_add k0, hsg k0 hk, hq0] at hr5
  subst hr5
  rw [Nat.zero_add]
  refine x_astore_n C (lv' := [_, _, _, _, _]) D_X2_rebuild_0.2.2.2.2.1 rfl (Nat.le_of_ble_eq_true rfl) (by first | rfl | exact x_ok_q rfl) (by first | exact Or.inr ⟨_, rfl⟩ | exact va_rf_or _ | exact Or.inl rfl) rfl ?_
  refine x_aload_n C D_X2_rebuild_0.2.2.2.2.2.1 rfl rfl (by first | exact Or.inr ⟨_, rfl⟩ | exact va_rf_or _ | exact Or.inl rfl) ?_
  refine x_getQ C (ci := 4) (k0 := 0) hz.1 (by decide) rfl (by decide) in_X5 k_110 rfl rfl D_X2_rebuild_0.2.2.2.2.2.2.1 ?_
  refine x_eqr hz.2.2.1 ?_
  refine x_iload_n C D_X2_rebuild_0.2.2.2.2.2.2.2.1 rfl rfl ?_
  refine x_iconst C (v := nI 1) D_X2_rebuild_0.2.2.2.2.2.2.2.2.1 (by decide +kernel) ?_
  refine x_isub C D_X2_rebuild_0.2.2.2.2.2.2.2.2.2.1 ?_
  refine x_callVq C (y := yX4_at) (c_X4_at l G pq pn 40 (spath od5 cd c A 0).length (nI k0 - nI 1) hrow) (ci := 3) hkp (by decide) rfl rfl k_272 k_273 k_274 k_63 k_275 hd_X4_at ⟨(Nat.le_of_ble_eq_true rfl), (Nat.le_of_ble_eq_true rfl)⟩ rfl (by first | exact Nat.le_of_ble_eq_true rfl | simp [x_crf, Value.category]) rfl rfl D_X2_rebuild_0.2.2.2.2.2.2.2.2.2.2.1 ⟨(Nat.le_of_ble_eq_true rfl), (Nat.le_of_ble_eq_true rfl)⟩ (fun r_16 S_16 h_16 => ?_)
  obtain ⟨hr16, rfl⟩ := h_16
  refine x_astore_n C (lv' := [_, _, _, _, _]) D_X2_rebuild_0.2.2.2.2.2.2.2.2.2.2.2 rfl (Nat.le_of_ble_eq_true rfl) (by first | rfl | exact x_ok_q rfl) (by first | exact Or.inr ⟨_, rfl⟩ | exact va_rf_or _ | exact Or.inl rfl) rfl ?_
  refine x_aload_n C D_X2_rebuild_1.1 rfl rfl (by first | exact Or.inr ⟨_, rfl⟩ | exact va_rf_or _ | exact Or.inl rfl) ?_
  refine x_dup C D_X2_rebuild_1.2.1 (by first | rfl | exact x_crf _) ?_
  refine x_getI C (ci := 4) (k0 := 4) hz.1 (by decide) rfl (by decide) in_X5 k_114 rfl rfl D_X2_rebuild_1.2.2.1 ?_
  refine x_aload_n C D_X2_rebuild_1.2.2.2.1 rfl rfl (by first | exact Or.inr ⟨_, rfl⟩ | exact va_rf_or _ | exact Or.inl rfl) ?_
  refine x_callSi C (y := yX3_weightOf) (c_X3_weightOf l G (some q0) (fun a ha => by cases ha; exact hq0K)) k_247 k_248 k_73 k_249 hd_X3_weightOf ⟨(Nat.le_of_ble_eq_true rfl), (Nat.le_of_ble_eq_true rfl)⟩ rfl (by first | exact Nat.le_of_ble_eq_true rfl | simp [x_crf, Value.category]) rfl rfl D_X2_rebuild_1.2.2.2.2.1 ⟨(Nat.le_of_ble_eq_true rfl), (Nat.le_of_ble_eq_true rfl)⟩ (fun r_26 S_26 h_26 => ?_)
  obtain ⟨rfl, rfl⟩ := h_26
  refine x_eqi _ hq0w ?_
  refine x_iadd C D_X2_rebuild_1.2.2.2.2.2.1 ?_
  refine x_putI C (ci := 4) (k0 := 4) hz.1 (by decide) rfl (by decide) in_X5 k_114 rfl tyX5 tyX5_ok nmX5 rfl (by rfl) rfl rfl rfl D_X2_rebuild_1.2.2.2.2.2.2.1 (fun I30 eI30 => ?_)
  refine x_aload_n C D_X2_rebuild_1.2.2.2.2.2.2.2.1 rfl rfl (by first | exact Or.inr ⟨_, rfl⟩ | exact va_rf_or _ | exact Or.inl rfl) ?_
  refine x_aload_n C D_X2_rebuild_1.2.2.2.2.2.2.2.2.1 rfl rfl (by first | exact Or.inr ⟨_, rfl⟩ | exact va_rf_or _ | exact Or.inl rfl) ?_
  refine x_iconst C (v := nI 1) D_X2_rebuild_1.2.2.2.2.2.2.2.2.2.1 (by decide +kernel) ?_
  have h65 := (rfl : nI 1 = xb true)
  rw [h65]
  refine x_callUv C (x := ⟨"ScapegoatSpur$LazyTree", "gather", "(LScapegoatSpur$Node;Z)V"⟩) (y := yX2_gather) (owner := "ScapegoatSpur$LazyTree") (c_X2_gather_5 l G t pq pn rw rn cap SU true (some q0) hz hTS (by omega) (by rw [apd_true, hlS]; omega)) (ci := 4) hz.1 (by decide) rfl k_254 k_12 k_14 k_256 k_61 k_257 rfl hu_X2_gather ⟨(Nat.le_of_ble_eq_true rfl), (Nat.le_of_ble_eq_true rfl)⟩ rfl (by first | exact Nat.le_of_ble_eq_true rfl | simp [x_crf, Value.category]) rfl rfl D_X2_rebuild_1.2.2.2.2.2.2.2.2.2.2.1 ⟨(Nat.le_of_ble_eq_true rfl), (Nat.le_of_ble_eq_true rfl)⟩ (fun _ S_36 h_36 => ?_)
  obtain ⟨g, rfl, hs⟩ := h_36
  rw [apd_true] at hs ⊢
  refine x_aload_n C D_X2_rebuild_1.2.2.2.2.2.2.2.2.2.2.2 rfl rfl (by first | exact Or.inr ⟨_, rfl⟩ | exact va_rf_or _ | exact Or.inl rfl) ?_
  refine x_iconst C (v := nI 0) D_X2_rebuild_2.1 (by decide +kernel) ?_
  refine x_aload_n C D_X2_rebuild_2.2.1 rfl rfl (by first | exact Or.inr ⟨_, rfl⟩ | exact va_rf_or _ | exact Or.inl rfl) ?_
  refine x_getQ C (ci := 4) (k0 := 1) hz.1 (by decide) rfl (by decide) in_X5 k_111 rfl rfl D_X2_rebuild_2.2.2.1 ?_
  refine x_eqr (hz.row g).2.2.2.1 ?_
  refine x_callVi C (y := yX4_length) (c_X4_length l G rw hz.2.2.2.2.2.1.1) (ci := 3) hz.2.2.2.2.2.1.1 (by decide) rfl rfl k_220 k_221 k_222 k_63 k_223 hd_X4_length ⟨(Nat.le_of_ble_eq_true rfl), (Nat.le_of_ble_eq_true rfl)⟩ rfl (by first | exact Nat.le_of_ble_eq_true rfl | simp [x_crf, Value.category]) rfl rfl D_X2_rebuild_2.2.2.2.1 ⟨(Nat.le_of_ble_eq_true rfl), (Nat.le_of_ble_eq_true rfl)⟩ (fun r_45 S_45 h_45 => ?_)
  obtain ⟨rfl, rfl⟩ := h_45
  refine x_eqi _ (x_u2_s _ _ _ _) ?_
  refine x_iload_n C D_X2_rebuild_2.2.2.2.2.1 rfl rfl ?_
  refine x_callSq C (y := yX2_layOut) (c_X2_layOut_5 l G t pq pn rw rn cap (ino SU).length cd (by rw [hlS]; omega) 8 (ino SU) k0 0 (ino SU).length (x_u2 I30 rw 1 (nI (ino SU).length)) (x_up Q rn g) (hz.row g) (x_u2_s _ _ _ _) (Nat.zero_add _).symm (Nat.le_refl _) (by omega) (by rw [hlS]; omega) hnS (fun q hq => by have h9 := hN q (hsA' q hq); have h8 := hz.nn h9.1; exact ⟨h9.1, by rw [x_u2_a _ _ h8.2.2.2.1, eI30, x_u2_a _ _ h8.1]; exact h9.2.1, h9.2.2⟩) (fun u hu v hv => hinj u (hsA' u hu) v (hsA' v hv)) (by rw [x_up_s]; exact hs)) k_261 k_262 k_61 k_263 hd_X2_layOut ⟨(Nat.le_of_ble_eq_true rfl), (Nat.le_of_ble_eq_true rfl)⟩ rfl (by first | exact Nat.le_of_ble_eq_true rfl | simp [x_crf, Value.category]) rfl rfl D_X2_rebuild_2.2.2.2.2.2.1 ⟨(Nat.le_of_ble_eq_true rfl), (Nat.le_of_ble_eq_true rfl)⟩ (fun r_49 S_49 h_49 => ?_)
  obtain ⟨I3, Q3, rfl, hlay⟩ := h_49
  refine x_astore C (lv' := [_, _, _, _, _]) D_X2_rebuild_2.2.2.2.2.2.2.1 (Nat.le_of_ble_eq_true rfl) (by first | rfl | exact x_ok_q rfl) (by first | exact Or.inr ⟨_, rfl⟩ | exact va_rf_or _ | exact Or.inl rfl) rfl ?_
  refine x_aload_n C D_X2_rebuild_2.2.2.2.2.2.2.2.1 rfl rfl (by first | exact Or.inr ⟨_, rfl⟩ | exact va_rf_or _ | exact Or.inl rfl) ?_
  refine x_ifnonnull C 67 D_X2_rebuild_2.2.2.2.2.2.2.2.2.1 (by decide) (fun p0 e_55 => ?_) (fun e_55 => ?_)
  · skip
    subst e_55
    obtain ⟨k1, rfl⟩ : ∃ k1, k0 = k1 + 1 := by
      cases k0 with
      | zero => rw [atv_out _ (Or.inl (by decide)) (by omega)] at hr16; cases hr16
      | succ k => exact ⟨k, rfl⟩
    obtain ⟨p1, q1, hp1, hq1, hp0K, hp0A, hp0s, hlnk⟩ := plink_path (od := od5) (cd := cd) (c := c) A 0 k1 _ hT hnA hk
    rw [pk_sub (by omega), Nat.add_sub_cancel, atv_in _ (by omega) (by omega), ← Nat.zero_add k1, hsg k1 (by omega), hp1] at hr16
    cases hr16
    obtain rfl : q1 = q0 := Option.some.inj (hq1.symm.trans hq0)
    have hp0S : p0 ∉ ino SU := by rw [eSU]; exact hp0s
    have hp0r : p0 ≠ rn := (hz.nn hp0K).2.2.2.2
    have hq3p : Q3 p0 3 = Q p0 3 := by rw [hlay.2.2.1 p0 hp0S hp0r, x_up_n _ _ hp0r]
    refine x_aload_n C D_X2_rebuild_3.2.1 rfl rfl (by first | exact Or.inr ⟨_, rfl⟩ | exact va_rf_or _ | exact Or.inl rfl) ?_
    refine x_getQ C (ci := 2) (k0 := 3) hp0K (by decide) rfl (by decide) in_X3 k_622 rfl rfl D_X2_rebuild_3.2.2.1 ?_
    refine x_eqq _ hq3p ?_
    refine x_aload_n C D_X2_rebuild_3.2.2.2.1 rfl rfl (by first | exact Or.inr ⟨_, rfl⟩ | exact va_rf_or _ | exact Or.inl rfl) ?_
    refine x_eqq2 (some q1) rfl ?_
    refine x_acmp_ne C 84 D_X2_rebuild_3.2.2.2.2.1 (by decide) (fun c_72 => ?_) (fun c_72 => ?_)
    · skip
      obtain ⟨hlk, hp4⟩ : plink od5 cd c A 0 (k1 + 1) = some (p0, 4) ∧ Q p0 4 = some q1 := by
        rcases hlnk with ⟨h1, h2⟩ | ⟨h1, h2, h3⟩
        · exact absurd h2 c_72
        · exact ⟨h1, h2⟩
      refine x_aload_n C D_X2_rebuild_3.2.2.2.2.2.2.2.2.2.1 rfl rfl (by first | exact Or.inr ⟨_, rfl⟩ | exact va_rf_or _ | exact Or.inl rfl) ?_
      refine x_aload C D_X2_rebuild_3.2.2.2.2.2.2.2.2.2.2.1 rfl (by first | exact Or.inr ⟨_, rfl⟩ | exact va_rf_or _ | exact Or.inl rfl) ?_
      refine x_putQ C (ci := 2) (k0 := 4) hp0K (by decide) rfl (by decide) in_X3 k_625 rfl tyX3 tyX3_ok nmX3 rfl (by first | exact rfl | exact (rfl : _ = va_rf (some _)) | exact (rfl : _ = va_rf none)) (by rfl) (by first | rfl | exact x_narq _ _) (by first | rfl | exact x_fitq _ _) rfl D_X2_rebuild_3.2.2.2.2.2.2.2.2.2.2.2 (fun Q_87 eQ_87 => ?_)
      refine ret _ _ _ _ _ rfl D_X2_rebuild_4 (Nat.le_of_ble_eq_true rfl) (Nat.le_of_ble_eq_true rfl) ?_
      have hI1 : ∀ q, q ≠ t → q ≠ rw → x_u2 I30 rw 1 (nI (ino SU).length) q = I q := fun q h1 h2 => by rw [x_u2_a _ _ h2, eI30, x_u2_a _ _ h1]
      have hp8 : (ino (kdl od5 cd 8 (k1 + 1) (ino SU))).Perm (ino (subp od5 cd c A 0 (k1 + 1))) := by rw [← eSU]; exact kdl_perm 8 (k1 + 1) _ (by rw [hlS]; omega)
      have hQ4 : ∀ q j, q ∉ ino (subp od5 cd c A 0 (k1 + 1)) → q ≠ rn → ¬ (q = t ∧ j = 2) → plink od5 cd c A 0 (k1 + 1) ≠ some (q, j) → Q_87 q j = Q3 q j := by
        intro q j h1 h2 h3 h4
        rw [eQ_87]
        by_cases hqt : q = p0
        · subst hqt; rw [x_u2_j _ _ (fun e => h4 (by rw [hlk, e]))]
        · rw [x_u2_a _ _ hqt]
      have hQ4n : ∀ q ∈ ino SU, Q_87 q = Q3 q := fun q hq => by
        have hqp : q ≠ p0 := fun e => hp0s (by rw [← eSU, ← e]; exact hq)
        rw [eQ_87, x_u2_a _ _ hqp]
      have hx4 : ∀ x, plink od5 cd c A 0 (k1 + 1) = some x → Q_87 x.1 x.2 = r_49 ∧ (x.2 = 3 ∨ x.2 = 4) ∧ (k1 + 1) ≠ 0 := fun x hx1 => by
        rw [hlk] at hx1
        cases hx1
        exact ⟨by rw [eQ_87, x_u2_s], by omega, by omega⟩
      have hr4 : Q_87 t 2 = if (k1 + 1) = 0 then r_49 else Q t 2 := by
        have htp : t ≠ p0 := fun e => (hz.nn hp0K).1 e.symm
        have hts : t ∉ ino SU := fun h => (hz.nn (hN t (hsA' t h)).1).1 rfl
        rw [if_neg (by omega), eQ_87, x_u2_a _ _ htp, hlay.2.2.1 t hts hne.2.2.2.1, x_up_n _ _ hne.2.2.2.1]
      have hq4o : ∀ q, q ∉ ino A → q ≠ t → Q_87 q = Q3 q := fun q hq _ => by
        have hqp : q ≠ p0 := fun e => hq (e ▸ hp0A)
        rw [eQ_87, x_u2_a _ _ hqp]
      have hfin := LTI.upd (c := c) (k := (k1 + 1)) (od := od5) hL hk hp8 (by rw [← eSU]; exact hlay) rfl hI1 hQ4 (by rw [← eSU]; exact hQ4n) hx4 hr4
      refine ⟨I3, Q_87, rfl, ?_, ?_, hfin.2, ?_, ?_, ?_⟩
      · rw [← eSU]; exact hfin.1
      · intro q h0 hA1 h1 h2 h3 h4 h5
        have hs : q ∉ ino SU := fun h => hA1 (hsA' q h)
        refine ⟨by rw [hlay.2.2.2.2.1 q hs, hI1 q h1 h4], ?_⟩
        rw [hq4o q hA1 h1, hlay.2.2.1 q hs h5, x_up_n _ _ h5]
      · rw [hlay.2.2.2.2.2.1 t 3 (by omega), x_u2_a _ _ hne.2.2.1, eI30, x_u2_j _ _ (by omega)]
      · rw [hlay.2.2.2.2.2.1 t 4 (by omega), x_u2_a _ _ hne.2.2.1, eI30, x_u2_s, ← eSU]
      · rw [hlay.2.2.2.2.2.1 t 5 (by omega), x_u2_a _ _ hne.2.2.1, eI30, x_u2_j _ _ (by omega)]
    · skip
      have hlk : plink od5 cd c A 0 (k1 + 1) = some (p0, 3) := by
        rcases hlnk with ⟨h1, h2⟩ | ⟨h1, h2, h3⟩
        · exact h1
        · exact absurd c_72 h3
      refine x_aload_n C D_X2_rebuild_3.2.2.2.2.2.1 rfl rfl (by first | exact Or.inr ⟨_, rfl⟩ | exact va_rf_or _ | exact Or.inl rfl) ?_
      refine x_aload C D_X2_rebuild_3.2.2.2.2.2.2.1 rfl (by first | exact Or.inr ⟨_, rfl⟩ | exact va_rf_or _ | exact Or.inl rfl) ?_
      refine x_putQ C (ci := 2) (k0 := 3) hp0K (by decide) rfl (by decide) in_X3 k_622 rfl tyX3 tyX3_ok nmX3 rfl (by first | exact rfl | exact (rfl : _ = va_rf (some _)) | exact (rfl : _ = va_rf none)) (by rfl) (by first | rfl | exact x_narq _ _) (by first | rfl | exact x_fitq _ _) rfl D_X2_rebuild_3.2.2.2.2.2.2.2.1 (fun Q_78 eQ_78 => ?_)
      refine x_goto C 90 D_X2_rebuild_3.2.2.2.2.2.2.2.2.1 (by decide) ?_
      refine ret _ _ _ _ _ rfl D_X2_rebuild_4 (Nat.le_of_ble_eq_true rfl) (Nat.le_of_ble_eq_true rfl) ?_
      have hI1 : ∀ q, q ≠ t → q ≠ rw → x_u2 I30 rw 1 (nI (ino SU).length) q = I q := fun q h1 h2 => by rw [x_u2_a _ _ h2, eI30, x_u2_a _ _ h1]
      have hp8 : (ino (kdl od5 cd 8 (k1 + 1) (ino SU))).Perm (ino (subp od5 cd c A 0 (k1 + 1))) := by rw [← eSU]; exact kdl_perm 8 (k1 + 1) _ (by rw [hlS]; omega)
      have hQ4 : ∀ q j, q ∉ ino (subp od5 cd c A 0 (k1 + 1)) → q ≠ rn → ¬ (q = t ∧ j = 2) → plink od5 cd c A 0 (k1 + 1) ≠ some (q, j) → Q_78 q j = Q3 q j := by
        intro q j h1 h2 h3 h4
        rw [eQ_78]
        by_cases hqt : q = p0
        · subst hqt; rw [x_u2_j _ _ (fun e => h4 (by rw [hlk, e]))]
        · rw [x_u2_a _ _ hqt]
      have hQ4n : ∀ q ∈ ino SU, Q_78 q = Q3 q := fun q hq => by
        have hqp : q ≠ p0 := fun e => hp0s (by rw [← eSU, ← e]; exact hq)
        rw [eQ_78, x_u2_a _ _ hqp]
      have hx4 : ∀ x, plink od5 cd c A 0 (k1 + 1) = some x → Q_78 x.1 x.2 = r_49 ∧ (x.2 = 3 ∨ x.2 = 4) ∧ (k1 + 1) ≠ 0 := fun x hx1 => by
        rw [hlk] at hx1
        cases hx1
        exact ⟨by rw [eQ_78, x_u2_s], by omega, by omega⟩
      have hr4 : Q_78 t 2 = if (k1 + 1) = 0 then r_49 else Q t 2 := by
        have htp : t ≠ p0 := fun e => (hz.nn hp0K).1 e.symm
        have hts : t ∉ ino SU := fun h => (hz.nn (hN t (hsA' t h)).1).1 rfl
        rw [if_neg (by omega), eQ_78, x_u2_a _ _ htp, hlay.2.2.1 t hts hne.2.2.2.1, x_up_n _ _ hne.2.2.2.1]
      have hq4o : ∀ q, q ∉ ino A → q ≠ t → Q_78 q = Q3 q := fun q hq _ => by
        have hqp : q ≠ p0 := fun e => hq (e ▸ hp0A)
        rw [eQ_78, x_u2_a _ _ hqp]
      have hfin := LTI.upd (c := c) (k := (k1 + 1)) (od := od5) hL hk hp8 (by rw [← eSU]; exact hlay) rfl hI1 hQ4 (by rw [← eSU]; exact hQ4n) hx4 hr4
      refine ⟨I3, Q_78, rfl, ?_, ?_, hfin.2, ?_, ?_, ?_⟩
      · rw [← eSU]; exact hfin.1
      · intro q h0 hA1 h1 h2 h3 h4 h5
        have hs : q ∉ ino SU := fun h => hA1 (hsA' q h)
        refine ⟨by rw [hlay.2.2.2.2.1 q hs, hI1 q h1 h4], ?_⟩
        rw [hq4o q hA1 h1, hlay.2.2.1 q hs h5, x_up_n _ _ h5]
      · rw [hlay.2.2.2.2.2.1 t 3 (by omega), x_u2_a _ _ hne.2.2.1, eI30, x_u2_j _ _ (by omega)]
      · rw [hlay.2.2.2.2.2.1 t 4 (by omega), x_u2_a _ _ hne.2.2.1, eI30, x_u2_s, ← eSU]
      · rw [hlay.2.2.2.2.2.1 t 5 (by omega), x_u2_a _ _ hne.2.2.1, eI30, x_u2_j _ _ (by omega)]
  · skip
    subst e_55
    have hk0e : k0 = 0 := by
      rcases Nat.eq_zero_or_pos k0 with h | h
      · exact h
      · exfalso
        rw [pk_sub (by omega), atv_in _ (by omega) (by omega), ← Nat.zero_add (k0 - 1), hsg (k0 - 1) (by omega), List.getElem?_eq_getElem (by omega)] at hr16
        cases hr16
    refine x_aload_n C D_X2_rebuild_2.2.2.2.2.2.2.2.2.2.1 rfl rfl (by first | exact Or.inr ⟨_, rfl⟩ | exact va_rf_or _ | exact Or.inl rfl) ?_
    refine x_aload C D_X2_rebuild_2.2.2.2.2.2.2.2.2.2.2.1 rfl (by first | exact Or.inr ⟨_, rfl⟩ | exact va_rf_or _ | exact Or.inl rfl) ?_
    refine x_putQ C (ci := 4) (k0 := 2) hz.1 (by decide) rfl (by decide) in_X5 k_112 rfl tyX5 tyX5_ok nmX5 rfl (by first | exact rfl | exact (rfl : _ = va_rf (some _)) | exact (rfl : _ = va_rf none)) (by rfl) (by first | rfl | exact x_narq _ _) (by first | rfl | exact x_fitq _ _) rfl D_X2_rebuild_2.2.2.2.2.2.2.2.2.2.2.2 (fun Q_61 eQ_61 => ?_)
    refine x_goto C 90 D_X2_rebuild_3.1 (by decide) ?_
    refine ret _ _ _ _ _ rfl D_X2_rebuild_4 (Nat.le_of_ble_eq_true rfl) (Nat.le_of_ble_eq_true rfl) ?_
    have hI1 : ∀ q, q ≠ t → q ≠ rw → x_u2 I30 rw 1 (nI (ino SU).length) q = I q := fun q h1 h2 => by rw [x_u2_a _ _ h2, eI30, x_u2_a _ _ h1]
    have hp8 : (ino (kdl od5 cd 8 k0 (ino SU))).Perm (ino (subp od5 cd c A 0 k0)) := by rw [← eSU]; exact kdl_perm 8 k0 _ (by rw [hlS]; omega)
    have hk0 : k0 = 0 := hk0e
    have hpl0 : plink od5 cd c A 0 k0 = none := by rw [hk0]; cases A <;> simp [plink]
    have hQ4 : ∀ q j, q ∉ ino (subp od5 cd c A 0 k0) → q ≠ rn → ¬ (q = t ∧ j = 2) → plink od5 cd c A 0 k0 ≠ some (q, j) → Q_61 q j = Q3 q j := by
      intro q j h1 h2 h3 h4
      rw [eQ_61]
      by_cases hqt : q = t
      · subst hqt; rw [x_u2_j _ _ (fun e => h3 ⟨rfl, e⟩)]
      · rw [x_u2_a _ _ hqt]
    have hnT : ∀ q ∈ ino SU, q ≠ t := fun q hq => (hz.nn (hN q (hsA' q hq)).1).1
    have hQ4n : ∀ q ∈ ino SU, Q_61 q = Q3 q := fun q hq => by rw [eQ_61, x_u2_a _ _ (hnT q hq)]
    have hx4 : ∀ x, plink od5 cd c A 0 k0 = some x → Q_61 x.1 x.2 = r_49 ∧ (x.2 = 3 ∨ x.2 = 4) ∧ k0 ≠ 0 := fun x hx1 => by rw [hpl0] at hx1; cases hx1
    have hr4 : Q_61 t 2 = if k0 = 0 then r_49 else Q t 2 := by rw [if_pos hk0, eQ_61, x_u2_s]
    have hq4o : ∀ q, q ∉ ino A → q ≠ t → Q_61 q = Q3 q := fun q _ h1 => by rw [eQ_61, x_u2_a _ _ h1]
    have hfin := LTI.upd (c := c) (k := k0) (od := od5) hL hk hp8 (by rw [← eSU]; exact hlay) rfl hI1 hQ4 (by rw [← eSU]; exact hQ4n) hx4 hr4
    refine ⟨I3, Q_61, rfl, ?_, ?_, hfin.2, ?_, ?_, ?_⟩
    · rw [← eSU]; exact hfin.1
    · intro q h0 hA1 h1 h2 h3 h4 h5
      have hs : q ∉ ino SU := fun h => hA1 (hsA' q h)
      refine ⟨by rw [hlay.2.2.2.2.1 q hs, hI1 q h1 h4], ?_⟩
      rw [hq4o q hA1 h1, hlay.2.2.1 q hs h5, x_up_n _ _ h5]
    · rw [hlay.2.2.2.2.2.1 t 3 (by omega), x_u2_a _ _ hne.2.2.1, eI30, x_u2_j _ _ (by omega)]
    · rw [hlay.2.2.2.2.2.1 t 4 (by omega), x_u2_a _ _ hne.2.2.1, eI30, x_u2_s, ← eSU]
    · rw [hlay.2.2.2.2.2.1 t 5 (by omega), x_u2_a _ _ hne.2.2.1, eI30, x_u2_j _ _ (by omega)]
