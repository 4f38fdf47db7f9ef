abbrev rm_X2_dropDead_1 : Room := { frames := 44, cells := 0, slots := 0, locals := 1028 }
set_option maxHeartbeats 4000000 in
set_option maxRecDepth 100000 in
theorem c_X2_dropDead_1 (l : Launch) (G : xG) {K N : Nat → Nat} {I : Nat → Nat → Int32} {Q : Nat → Nat → Option Nat} {J : Nat → Nat → Int64} (t pq pn rw rn cap : Nat) (A : Tr) (cd : Nat → Nat) (hL : LTI cv1 1999 K N I Q t 2 pq pn rw rn cap cd A) (hA : ht A ≤ 40) : XM l yX2_dropDead cX2_dropDead 1 none rm_X2_dropDead_1 G Rv [.ref t] (K, N, I, Q, J) (fun _ S1 => ∃ I1 Q1, S1 = (K, N, I1, Q1, J) ∧ LTI cv1 1999 K N I1 Q1 t 2 pq pn rw rn cap cd (kdl od1 cd 8 0 (apd false I A)) ∧ FRL K t pq pn rw rn (ino A) I I1 Q Q1 ∧ (∀ q ∈ ino A, I1 q 0 = I q 0 ∧ I1 q 1 = I q 1) ∧ I1 t 3 = I t 3 ∧ I1 t 4 = I t 4 ∧ I1 t 5 = I t 5 + nI 1) := by
  refine x_metv (lv := [_]) (by decide +kernel) (x_cc (by first | rfl | exact x_crf _) x_cn) (Nat.le_of_ble_eq_true rfl) rfl ?_
  intro pP eE sS mM aA bB hH cC Z C hini ret
  have hz := hL.1
  have hT := hL.2.1
  have hW := hL.2.2.1
  have hnA := hL.2.2.2.1
  have hN := hL.2.2.2.2.1
  have hinj := hL.2.2.2.2.2.1
  have hszc := hL.2.2.2.2.2.2.1
  have hc256 := hL.2.2.2.2.2.2.2
  have hne := hz.ne
  obtain ⟨ls, els⟩ : ∃ ls, ls = apd false I A := ⟨_, rfl⟩
  have hll : ls.length ≤ sz A := by rw [els]; exact apd_le
  have hlm : ∀ a ∈ ls, a ∈ ino A := fun a ha => by rw [els] at ha; exact apd_mem ha
  have hln : ls.Nodup := by rw [els]; exact apd_nodup hnA
  refine x_aload_n C D_X2_dropDead_0.1 rfl rfl (by first | exact Or.inr ⟨_, rfl⟩ | exact va_rf_or _ | exact Or.inl rfl) ?_
  refine x_aload_n C D_X2_dropDead_0.2.1 rfl rfl (by first | exact Or.inr ⟨_, rfl⟩ | exact va_rf_or _ | exact Or.inl rfl) ?_
  refine x_getQ C (ci := 1) (k0 := 2) hz.1 (by decide) rfl (by decide) in_X1 k_112 rfl rfl D_X2_dropDead_0.2.2.1 ?_
  refine x_eqq _ (rfl : Q t 2 = Q t 2) ?_
  refine x_iconst C (v := nI 0) D_X2_dropDead_0.2.2.2.1 (by decide +kernel) ?_
  have h65 := (rfl : nI 0 = xb false)
  rw [h65]
  refine x_callUv C (x := ⟨"ScapegoatSpur$LazyTree", "gather", "(LScapegoatSpur$Node;Z)V"⟩) (y := yX2_gather) (owner := "ScapegoatSpur$LazyTree") (c_X2_gather_1 l G t pq pn rw rn cap A false _ hz hT hA (by rw [← els]; omega)) (ci := 1) hz.1 (by decide) rfl k_254 k_12 k_13 k_256 k_61 k_257 rfl hu_X2_gather ⟨(Nat.le_of_ble_eq_true rfl), (Nat.le_of_ble_eq_true rfl)⟩ rfl (by first | exact Nat.le_of_ble_eq_true rfl | simp [x_crf, Value.category]) rfl rfl D_X2_dropDead_0.2.2.2.2.1 ⟨(Nat.le_of_ble_eq_true rfl), (Nat.le_of_ble_eq_true rfl)⟩ (fun _ S_6 h_6 => ?_)
  obtain ⟨g, rfl, hs⟩ := h_6
  rw [← els] at hs ⊢
  refine x_aload_n C D_X2_dropDead_0.2.2.2.2.2.1 rfl rfl (by first | exact Or.inr ⟨_, rfl⟩ | exact va_rf_or _ | exact Or.inl rfl) ?_
  refine x_aload_n C D_X2_dropDead_0.2.2.2.2.2.2.1 rfl rfl (by first | exact Or.inr ⟨_, rfl⟩ | exact va_rf_or _ | exact Or.inl rfl) ?_
  refine x_iconst C (v := nI 0) D_X2_dropDead_0.2.2.2.2.2.2.2.1 (by decide +kernel) ?_
  refine x_aload_n C D_X2_dropDead_0.2.2.2.2.2.2.2.2.1 rfl rfl (by first | exact Or.inr ⟨_, rfl⟩ | exact va_rf_or _ | exact Or.inl rfl) ?_
  refine x_getQ C (ci := 1) (k0 := 1) hz.1 (by decide) rfl (by decide) in_X1 k_111 rfl rfl D_X2_dropDead_0.2.2.2.2.2.2.2.2.2.1 ?_
  refine x_eqr (hz.row g).2.2.2.1 ?_
  refine x_callVi C (y := yX4_length) (c_X4_length l G rw hz.2.2.2.2.2.1.1) (ci := 3) hz.2.2.2.2.2.1.1 (by decide) rfl rfl k_220 k_221 k_222 k_63 k_223 hd_X4_length ⟨(Nat.le_of_ble_eq_true rfl), (Nat.le_of_ble_eq_true rfl)⟩ rfl (by first | exact Nat.le_of_ble_eq_true rfl | simp [x_crf, Value.category]) rfl rfl D_X2_dropDead_0.2.2.2.2.2.2.2.2.2.2.1 ⟨(Nat.le_of_ble_eq_true rfl), (Nat.le_of_ble_eq_true rfl)⟩ (fun r_16 S_16 h_16 => ?_)
  obtain ⟨rfl, rfl⟩ := h_16
  refine x_eqi _ (x_u2_s _ _ _ _) ?_
  refine x_iconst C (v := nI 0) D_X2_dropDead_0.2.2.2.2.2.2.2.2.2.2.2 (by decide +kernel) ?_
  refine x_callSq C (y := yX2_layOut) (c_X2_layOut_1 l G t pq pn rw rn cap ls.length cd (by omega) 8 ls 0 0 ls.length (x_u2 I rw 1 (nI ls.length)) (x_up Q rn g) (hz.row g) (x_u2_s _ _ _ _) (Nat.zero_add _).symm (Nat.le_refl _) (by omega) (by omega) hln (fun q hq => by have h9 := hN q (hlm q hq); have h8 := hz.nn h9.1; exact ⟨h9.1, by rw [x_u2_a _ _ h8.2.2.2.1]; exact h9.2.1, h9.2.2⟩) (fun u hu v hv => hinj u (hlm u hu) v (hlm v hv)) (by rw [x_up_s]; exact hs)) k_261 k_262 k_61 k_263 hd_X2_layOut ⟨(Nat.le_of_ble_eq_true rfl), (Nat.le_of_ble_eq_true rfl)⟩ rfl (by first | exact Nat.le_of_ble_eq_true rfl | simp [x_crf, Value.category]) rfl rfl D_X2_dropDead_1.1 ⟨(Nat.le_of_ble_eq_true rfl), (Nat.le_of_ble_eq_true rfl)⟩ (fun r_20 S_20 h_20 => ?_)
  obtain ⟨I3, Q3, rfl, hlay⟩ := h_20
  refine x_putQ C (ci := 1) (k0 := 2) hz.1 (by decide) rfl (by decide) in_X1 k_112 rfl tyX1 tyX1_ok nmX1 rfl (by first | exact rfl | exact (rfl : _ = va_rf (some _)) | exact (rfl : _ = va_rf none)) (by rfl) (by first | rfl | exact x_narq _ _) (by first | rfl | exact x_fitq _ _) rfl D_X2_dropDead_1.2.1 (fun Q4 eQ4 => ?_)
  refine x_aload_n C D_X2_dropDead_1.2.2.1 rfl rfl (by first | exact Or.inr ⟨_, rfl⟩ | exact va_rf_or _ | exact Or.inl rfl) ?_
  refine x_dup C D_X2_dropDead_1.2.2.2.1 (by first | rfl | exact x_crf _) ?_
  refine x_getI C (ci := 1) (k0 := 5) hz.1 (by decide) rfl (by decide) in_X1 k_115 rfl rfl D_X2_dropDead_1.2.2.2.2.1 ?_
  refine x_iconst C (v := nI 1) D_X2_dropDead_1.2.2.2.2.2.1 (by decide +kernel) ?_
  refine x_iadd C D_X2_dropDead_1.2.2.2.2.2.2.1 ?_
  refine x_putI C (ci := 1) (k0 := 5) hz.1 (by decide) rfl (by decide) in_X1 k_115 rfl tyX1 tyX1_ok nmX1 rfl (by rfl) rfl rfl rfl D_X2_dropDead_1.2.2.2.2.2.2.2.1 (fun I4 eI4 => ?_)
  refine ret _ _ _ _ _ rfl D_X2_dropDead_1.2.2.2.2.2.2.2.2 (Nat.le_of_ble_eq_true rfl) (Nat.le_of_ble_eq_true rfl) ?_
  have hI1 : ∀ q, q ≠ t → q ≠ rw → x_u2 I rw 1 (nI ls.length) q = I q := fun q h1 h2 => x_u2_a _ _ h2
  have hp8 : (ino (kdl od1 cd 8 0 ls)).Perm ls := kdl_perm 8 0 _ (by omega)
  have hfin := LTI.drop hL hlm hp8 hln hll hlay rfl hI1 eQ4
  have hi4 : ∀ q, q ≠ t → I4 q = I3 q := fun q hq => by rw [eI4, x_u2_a _ _ hq]
  have hnt : ∀ q ∈ ino A, q ≠ t := fun q hq => (hz.nn (hN q hq).1).1
  refine ⟨I4, Q4, rfl, ?_, ?_, ?_, ?_, ?_, ?_⟩
  · rw [← els]
    refine hfin.congr (fun q hq => ?_) (fun q _ _ => rfl)
    rw [hi4 q (hnt q (hlm q (hp8.mem_iff.mp hq)))]; exact ⟨rfl, rfl⟩
  · intro q h0 hA1 h1 h2 h3 h4 h5
    have hs : q ∉ ls := fun h => hA1 (hlm q h)
    exact ⟨by rw [hi4 q h1, hlay.2.2.2.2.1 q hs, hI1 q h1 h4], by rw [eQ4, x_u2_a _ _ h1, hlay.2.2.1 q hs h5, x_up_n _ _ h5]⟩
  · intro q hq
    have h8 := hz.nn (hN q hq).1
    rw [hi4 q h8.1, hlay.2.2.2.2.2.1 q 0 (by omega), hlay.2.2.2.2.2.1 q 1 (by omega), hI1 q h8.1 h8.2.2.2.1]; exact ⟨rfl, rfl⟩
  · rw [eI4, x_u2_j _ _ (by omega), hlay.2.2.2.2.2.1 t 3 (by omega), x_u2_a _ _ hne.2.2.1]
  · rw [eI4, x_u2_j _ _ (by omega), hlay.2.2.2.2.2.1 t 4 (by omega), x_u2_a _ _ hne.2.2.1]
  · rw [eI4, x_u2_s, hlay.2.2.2.2.2.1 t 5 (by omega), x_u2_a _ _ hne.2.2.1]
abbrev rm_X2_retire_1 : Room := { frames := 45, cells := 0, slots := 0, locals := 1048 }
theorem hd_X2_dropDead : yX2_dropDead.cls ≠ "java/lang/invoke/MethodHandle" ∧ yX2_dropDead.cls ≠ "java/lang/invoke/VarHandle" ∧ (parseMethodDescriptor yX2_dropDead.desc).map (fun d => d.parameters.length) = some 0 := by decide +kernel
theorem hu_X2_dropDead : "ScapegoatSpur$LazyTree" ≠ "java/lang/invoke/MethodHandle" ∧ "ScapegoatSpur$LazyTree" ≠ "java/lang/invoke/VarHandle" ∧ (parseMethodDescriptor "()V").map (fun d => d.parameters.length) = some 0 := by decide +kernel
set_option maxHeartbeats 4000000 in
set_option maxRecDepth 100000 in
theorem c_X2_retire_1 (l : Launch) (G : xG) {K N : Nat → Nat} {I : Nat → Nat → Int32} {Q : Nat → Nat → Option Nat} {J : Nat → Nat → Int64} (t pq pn rw rn cap : Nat) (c q0 lv : Nat) (A : Tr) (cd : Nat → Nat) (hL : LTI cv1 1999 K N I Q t 2 pq pn rw rn cap cd A) (hA : ht A ≤ 40) (hc : c < 1999) (hf : sfind od1 cd c A 0 = some q0) (ha : alv I q0 = true) (hlv : I t 3 = nI (lv + 1)) (hle : lv < sz A) : XM l yX2_retire cX2_retire 3 none rm_X2_retire_1 G Rv [.ref t, .int (cv1 c)] (K, N, I, Q, J) (fun _ S1 => ∃ I1 Q1, S1 = (K, N, I1, Q1, J) ∧ LTI cv1 1999 K N I1 Q1 t 2 pq pn rw rn cap cd (if lv < sz A - lv then kdl od1 cd 8 0 (apd false I1 A) else A) ∧ FRL K t pq pn rw rn (ino A) I I1 Q Q1 ∧ (∀ q ∈ ino A, I1 q 0 = I q 0 ∧ I1 q 1 = if q = q0 then nI 0 else I q 1) ∧ I1 t 3 = nI lv ∧ I1 t 4 = I t 4 ∧ I1 t 5 = if lv < sz A - lv then I t 5 + nI 1 else I t 5) := by
  refine x_metv (lv := [_, _, _]) (by decide +kernel) (x_cc (by first | rfl | exact x_crf _) (x_cc (by first | rfl | exact x_crf _) x_cn)) (Nat.le_of_ble_eq_true rfl) rfl ?_
  intro pP eE sS mM aA bB hH cC Z C hini ret
  have hz := hL.1
  have hT := hL.2.1
  have hW := hL.2.2.1
  have hnA := hL.2.2.2.1
  have hN := hL.2.2.2.2.1
  have hinj := hL.2.2.2.2.2.1
  have hszc := hL.2.2.2.2.2.2.1
  have hc256 := hL.2.2.2.2.2.2.2
  have hne := hz.ne
  have hq0A : q0 ∈ ino A := sfind_mem _ _ _ _ _ _ hf
  have hq03 := (hN q0 hq0A).1
  have h8 := hz.nn hq03
  refine x_aload_n C D_X2_retire_0.1 rfl rfl (by first | exact Or.inr ⟨_, rfl⟩ | exact va_rf_or _ | exact Or.inl rfl) ?_
  refine x_iload_n C D_X2_retire_0.2.1 rfl rfl ?_
  refine x_callUq C (x := ⟨"ScapegoatSpur$LazyTree", "find", "(I)LScapegoatSpur$Node;"⟩) (y := yX2_find) (owner := "ScapegoatSpur$LazyTree") (c_X2_find_1 l G t pq pn rw rn cap c A cd hz hT hN hA hc) (ci := 1) hz.1 (by decide) rfl k_210 k_212 k_213 k_211 k_61 k_215 rfl hu_X2_find ⟨(Nat.le_of_ble_eq_true rfl), (Nat.le_of_ble_eq_true rfl)⟩ rfl (by first | exact Nat.le_of_ble_eq_true rfl | simp [x_crf, Value.category]) rfl rfl D_X2_retire_0.2.2.1 ⟨(Nat.le_of_ble_eq_true rfl), (Nat.le_of_ble_eq_true rfl)⟩ (fun r_2 S_2 h_2 => ?_)
  obtain ⟨hr, g, rfl, hsg⟩ := h_2
  rw [hf] at hr
  subst hr
  obtain ⟨I2, eI2⟩ : ∃ I2, I2 = x_u2 I pq 1 (nI (spath od1 cd c A 0).length) := ⟨_, rfl⟩
  rw [← eI2]
  have i2 : ∀ q, q ≠ pq → I2 q = I q := fun q hq => by rw [eI2, x_u2_a _ _ hq]
  have hq2t : x_up Q pn g t = Q t := x_up_n _ _ hne.2.1
  refine x_astore_n C (lv' := [_, _, _]) D_X2_retire_0.2.2.2.1 rfl (Nat.le_of_ble_eq_true rfl) (by first | rfl | exact x_ok_q rfl) (by first | exact Or.inr ⟨_, rfl⟩ | exact va_rf_or _ | exact Or.inl rfl) rfl ?_
  refine x_aload_n C D_X2_retire_0.2.2.2.2.1 rfl rfl (by first | exact Or.inr ⟨_, rfl⟩ | exact va_rf_or _ | exact Or.inl rfl) ?_
  refine x_ifnull C 17 D_X2_retire_0.2.2.2.2.2.1 (by decide) (fun e_7 => ?_) (fun q9 e_7 => ?_)
  · skip
    exact absurd e_7 (by simp)
    --end
  · skip
    obtain rfl : q0 = q9 := Option.some.inj e_7
    refine x_aload_n C D_X2_retire_0.2.2.2.2.2.2.1 rfl rfl (by first | exact Or.inr ⟨_, rfl⟩ | exact va_rf_or _ | exact Or.inl rfl) ?_
    refine x_getI C (ci := 2) (k0 := 1) hq03 (by decide) rfl (by decide) in_X3 k_614 rfl rfl D_X2_retire_0.2.2.2.2.2.2.2.1 ?_
    refine x_eqi _ (show I2 q0 1 = I q0 1 by rw [i2 q0 h8.2.1]) ?_
    refine x_if_ne C 18 D_X2_retire_0.2.2.2.2.2.2.2.2.1 (by decide) (fun c_14 => ?_) (fun c_14 => ?_)
    · skip
      refine x_aload_n C D_X2_retire_0.2.2.2.2.2.2.2.2.2.2.1 rfl rfl (by first | exact Or.inr ⟨_, rfl⟩ | exact va_rf_or _ | exact Or.inl rfl) ?_
      refine x_iconst C (v := nI 0) D_X2_retire_0.2.2.2.2.2.2.2.2.2.2.2 (by decide +kernel) ?_
      refine x_putI C (ci := 2) (k0 := 1) hq03 (by decide) rfl (by decide) in_X3 k_614 rfl tyX3 tyX3_ok nmX3 rfl (by rfl) rfl rfl rfl D_X2_retire_1.1 (fun I3 eI3 => ?_)
      refine x_aload_n C D_X2_retire_1.2.1 rfl rfl (by first | exact Or.inr ⟨_, rfl⟩ | exact va_rf_or _ | exact Or.inl rfl) ?_
      refine x_dup C D_X2_retire_1.2.2.1 (by first | rfl | exact x_crf _) ?_
      refine x_getI C (ci := 1) (k0 := 3) hz.1 (by decide) rfl (by decide) in_X1 k_113 rfl rfl D_X2_retire_1.2.2.2.1 ?_
      refine x_eqi _ (show I3 t 3 = nI (lv + 1) by rw [eI3, x_u2_a _ _ h8.1.symm, i2 t hne.1]; exact hlv) ?_
      refine x_iconst C (v := nI 1) D_X2_retire_1.2.2.2.2.1 (by decide +kernel) ?_
      refine x_isub C D_X2_retire_1.2.2.2.2.2.1 ?_
      refine x_eqi _ (show nI (lv + 1) - nI 1 = nI lv by rw [pk_sub (by omega)]; rfl) ?_
      refine x_putI C (ci := 1) (k0 := 3) hz.1 (by decide) rfl (by decide) in_X1 k_113 rfl tyX1 tyX1_ok nmX1 rfl (by rfl) rfl rfl rfl D_X2_retire_1.2.2.2.2.2.2.1 (fun I4 eI4 => ?_)
      have i4 : ∀ q j, q ≠ pq → ¬ (q = t ∧ j = 3) → ¬ (q = q0 ∧ j = 1) → I4 q j = I q j := fun q j h1 h2 h3 => by
        have e3 : I3 q j = I q j := by
          rw [eI3]
          by_cases hqq : q = q0
          · subst hqq; rw [x_u2_j _ _ (fun e => h3 ⟨rfl, e⟩), i2 q h1]
          · rw [x_u2_a _ _ hqq, i2 q h1]
        rw [eI4]
        by_cases hqt : q = t
        · subst hqt; rw [x_u2_j _ _ (fun e => h2 ⟨rfl, e⟩), e3]
        · rw [x_u2_a _ _ hqt, e3]
      have i4t : I4 t 3 = nI lv := by rw [eI4, x_u2_s]
      have i4q : I4 q0 1 = nI 0 := by rw [eI4, x_u2_a _ _ h8.1, eI3, x_u2_s]
      have hL4 : LTI cv1 1999 K N I4 (x_up Q pn g) t 2 pq pn rw rn cap cd A := hL.congr (fun q hq => by have h7 := hz.nn (hN q hq).1; rw [i4 q 0 h7.2.1 (fun e => h7.1 e.1) (fun e => by omega), i4 q 2 h7.2.1 (fun e => h7.1 e.1) (fun e => by omega)]; exact ⟨rfl, rfl⟩) (fun q h1 _ => x_up_n _ _ h1)
      have hfr4 : FRL K t pq pn rw rn (ino A) I I4 Q (x_up Q pn g) := fun q h0 hA1 h1 h2 h3 h4 h5 => ⟨by funext j; exact i4 q j h2 (fun e => h1 e.1) (fun e => hA1 (by rw [e.1]; exact hq0A)), x_up_n _ _ h3⟩
      have hal4 : ∀ q ∈ ino A, I4 q 0 = I q 0 ∧ I4 q 1 = if q = q0 then nI 0 else I q 1 := fun q hq => by
        have h7 := hz.nn (hN q hq).1
        refine ⟨i4 q 0 h7.2.1 (fun e => h7.1 e.1) (fun e => by omega), ?_⟩
        by_cases hqq : q = q0
        · subst hqq; rw [if_pos rfl]; exact i4q
        · rw [if_neg hqq]; exact i4 q 1 h7.2.1 (fun e => h7.1 e.1) (fun e => hqq e.1)
      refine x_aload_n C D_X2_retire_1.2.2.2.2.2.2.2.1 rfl rfl (by first | exact Or.inr ⟨_, rfl⟩ | exact va_rf_or _ | exact Or.inl rfl) ?_
      refine x_callUi C (x := ⟨"ScapegoatSpur$LazyTree", "nodeCount", "()I"⟩) (y := yX2_nodeCount) (owner := "ScapegoatSpur$LazyTree") (c_X2_nodeCount_1 l G t hz.1 (fun q hq => by have h7 := hL4.2.1; rw [hq] at h7; exact h7.some.choose_spec.choose_spec.2.1)) (ci := 1) hz.1 (by decide) rfl k_241 k_243 k_244 k_242 k_61 k_246 rfl hu_X2_nodeCount ⟨(Nat.le_of_ble_eq_true rfl), (Nat.le_of_ble_eq_true rfl)⟩ rfl (by first | exact Nat.le_of_ble_eq_true rfl | simp [x_crf, Value.category]) rfl rfl D_X2_retire_1.2.2.2.2.2.2.2.2.1 ⟨(Nat.le_of_ble_eq_true rfl), (Nat.le_of_ble_eq_true rfl)⟩ (fun r_34 S_34 h_34 => ?_)
      obtain ⟨rfl, rfl⟩ := h_34
      refine x_eqi _ (wOf_TP hL4.2.1 hL4.2.2.1) ?_
      refine x_aload_n C D_X2_retire_1.2.2.2.2.2.2.2.2.2.1 rfl rfl (by first | exact Or.inr ⟨_, rfl⟩ | exact va_rf_or _ | exact Or.inl rfl) ?_
      refine x_getI C (ci := 1) (k0 := 3) hz.1 (by decide) rfl (by decide) in_X1 k_113 rfl rfl D_X2_retire_1.2.2.2.2.2.2.2.2.2.2.1 ?_
      refine x_eqi _ i4t ?_
      refine x_isub C D_X2_retire_1.2.2.2.2.2.2.2.2.2.2.2 ?_
      refine x_eqi _ (pk_sub (by omega)) ?_
      refine x_aload_n C D_X2_retire_2.1 rfl rfl (by first | exact Or.inr ⟨_, rfl⟩ | exact va_rf_or _ | exact Or.inl rfl) ?_
      refine x_getI C (ci := 1) (k0 := 3) hz.1 (by decide) rfl (by decide) in_X1 k_113 rfl rfl D_X2_retire_2.2.1 ?_
      refine x_eqi _ i4t ?_
      refine x_icmp_le C 53 D_X2_retire_2.2.2.1 (by decide) (fun c_46 => ?_) (fun c_46 => ?_)
      · skip
        have c1 : ¬ lv < sz A - lv := by
          have h9 := (nI_leI (by omega) (by omega)).mp c_46
          omega
        refine ret _ _ _ _ _ rfl D_X2_retire_2.2.2.2.2.2 (Nat.le_of_ble_eq_true rfl) (Nat.le_of_ble_eq_true rfl) ?_
        refine ⟨I4, _, rfl, ?_, hfr4, hal4, i4t, ?_, ?_⟩
        · rw [if_neg c1]; exact hL4
        · exact i4 t 4 hne.1 (fun e => by omega) (fun e => h8.1 e.1.symm)
        · rw [if_neg c1]; exact i4 t 5 hne.1 (fun e => by omega) (fun e => h8.1 e.1.symm)
      · skip
        have c1 : lv < sz A - lv := by
          rcases Nat.lt_or_ge lv (sz A - lv) with h | h
          · exact h
          · exact absurd ((nI_leI (by omega) (by omega)).mpr h) c_46
        refine x_aload_n C D_X2_retire_2.2.2.2.1 rfl rfl (by first | exact Or.inr ⟨_, rfl⟩ | exact va_rf_or _ | exact Or.inl rfl) ?_
        refine x_callUv C (x := ⟨"ScapegoatSpur$LazyTree", "dropDead", "()V"⟩) (y := yX2_dropDead) (owner := "ScapegoatSpur$LazyTree") (c_X2_dropDead_1 l G t pq pn rw rn cap A cd hL4 hA) (ci := 1) hz.1 (by decide) rfl k_250 k_9 k_10 k_252 k_61 k_253 rfl hu_X2_dropDead ⟨(Nat.le_of_ble_eq_true rfl), (Nat.le_of_ble_eq_true rfl)⟩ rfl (by first | exact Nat.le_of_ble_eq_true rfl | simp [x_crf, Value.category]) rfl rfl D_X2_retire_2.2.2.2.2.1 ⟨(Nat.le_of_ble_eq_true rfl), (Nat.le_of_ble_eq_true rfl)⟩ (fun _ S_50 h_50 => ?_)
        obtain ⟨I5, Q5, rfl, hL5, hfr5, hal5, d3, d4, d5⟩ := h_50
        refine ret _ _ _ _ _ rfl D_X2_retire_2.2.2.2.2.2 (Nat.le_of_ble_eq_true rfl) (Nat.le_of_ble_eq_true rfl) ?_
        refine ⟨I5, Q5, rfl, ?_, ?_, ?_, ?_, ?_, ?_⟩
        · rw [if_pos c1, apd_congr (fun a ha => (hal5 a ha).2)]; exact hL5
        · intro q h0 hA1 h1 h2 h3 h4 h5
          have h6 := hfr5 q h0 hA1 h1 h2 h3 h4 h5
          have h7 := hfr4 q h0 hA1 h1 h2 h3 h4 h5
          exact ⟨h6.1.trans h7.1, h6.2.trans h7.2⟩
        · intro q hq
          rw [(hal5 q hq).1, (hal5 q hq).2]; exact hal4 q hq
        · rw [d3]; exact i4t
        · rw [d4]; exact i4 t 4 hne.1 (fun e => by omega) (fun e => h8.1 e.1.symm)
        · rw [d5, if_pos c1, i4 t 5 hne.1 (fun e => by omega) (fun e => h8.1 e.1.symm)]
    · skip
      exact absurd ha (by simp only [alv]; simp; simpa using c_14)
      --end
abbrev rm_X2_enterF_1 : Room := { frames := 3, cells := 0, slots := 0, locals := 68 }
set_option maxHeartbeats 4000000 in
set_option maxRecDepth 100000 in
theorem c_X2_enterF_1 (l : Launch) (G : xG) {K N : Nat → Nat} {I : Nat → Nat → Int32} {Q : Nat → Nat → Option Nat} {J : Nat → Nat → Int64} (t pq pn rw rn cap : Nat) (c q0 lv : Nat) (A : Tr) (cd : Nat → Nat) (hL : LTI cv1 1999 K N I Q t 2 pq pn rw rn cap cd A) (hA : ht A ≤ 40) (hc : c < 1999) (hf : sfind od1 cd c A 0 = some q0) (hlv : I t 3 = nI lv) : XM l yX2_enter cX2_enter 4 none rm_X2_enterF_1 G Rv [.ref t, .int (cv1 c)] (K, N, I, Q, J) (fun _ S1 => ∃ I1 Q1, S1 = (K, N, I1, Q1, J) ∧ LTI cv1 1999 K N I1 Q1 t 2 pq pn rw rn cap cd A ∧ FRL K t pq pn rw rn (ino A) I I1 Q Q1 ∧ (∀ q ∈ ino A, I1 q 0 = I q 0 ∧ I1 q 1 = if q = q0 then nI 1 else I q 1) ∧ I1 t 3 = nI (lv + 1) ∧ I1 t 4 = I t 4 ∧ I1 t 5 = I t 5) := by
  refine x_metv (lv := [_, _, _, _]) (by decide +kernel) (x_cc (by first | rfl | exact x_crf _) (x_cc (by first | rfl | exact x_crf _) x_cn)) (Nat.le_of_ble_eq_true rfl) rfl ?_
  intro pP eE sS mM aA bB hH cC Z C hini ret
  have hz := hL.1
  have hT := hL.2.1
  have hW := hL.2.2.1
  have hnA := hL.2.2.2.1
  have hN := hL.2.2.2.2.1
  have hinj := hL.2.2.2.2.2.1
  have hszc := hL.2.2.2.2.2.2.1
  have hc256 := hL.2.2.2.2.2.2.2
  have hne := hz.ne
  have hq0A : q0 ∈ ino A := sfind_mem _ _ _ _ _ _ hf
  have hq03 := (hN q0 hq0A).1
  have h8 := hz.nn hq03
  refine x_aload_n C D_X2_enter_0.1 rfl rfl (by first | exact Or.inr ⟨_, rfl⟩ | exact va_rf_or _ | exact Or.inl rfl) ?_
  refine x_iload_n C D_X2_enter_0.2.1 rfl rfl ?_
  refine x_callUq C (x := ⟨"ScapegoatSpur$LazyTree", "find", "(I)LScapegoatSpur$Node;"⟩) (y := yX2_find) (owner := "ScapegoatSpur$LazyTree") (c_X2_find_1 l G t pq pn rw rn cap c A cd hz hT hN hA hc) (ci := 1) hz.1 (by decide) rfl k_210 k_212 k_213 k_211 k_61 k_215 rfl hu_X2_find ⟨(Nat.le_of_ble_eq_true rfl), (Nat.le_of_ble_eq_true rfl)⟩ rfl (by first | exact Nat.le_of_ble_eq_true rfl | simp [x_crf, Value.category]) rfl rfl D_X2_enter_0.2.2.1 ⟨(Nat.le_of_ble_eq_true rfl), (Nat.le_of_ble_eq_true rfl)⟩ (fun r_2 S_2 h_2 => ?_)
  obtain ⟨hr, g, rfl, hsg⟩ := h_2
  rw [hf] at hr
  subst hr
  obtain ⟨I2, eI2⟩ : ∃ I2, I2 = x_u2 I pq 1 (nI (spath od1 cd c A 0).length) := ⟨_, rfl⟩
  rw [← eI2]
  have i2 : ∀ q, q ≠ pq → I2 q = I q := fun q hq => by rw [eI2, x_u2_a _ _ hq]
  refine x_astore_n C (lv' := [_, _, _, _]) D_X2_enter_0.2.2.2.1 rfl (Nat.le_of_ble_eq_true rfl) (by first | rfl | exact x_ok_q rfl) (by first | exact Or.inr ⟨_, rfl⟩ | exact va_rf_or _ | exact Or.inl rfl) rfl ?_
  refine x_aload_n C D_X2_enter_0.2.2.2.2.1 rfl rfl (by first | exact Or.inr ⟨_, rfl⟩ | exact va_rf_or _ | exact Or.inl rfl) ?_
  refine x_dup C D_X2_enter_0.2.2.2.2.2.1 (by first | rfl | exact x_crf _) ?_
  refine x_getI C (ci := 1) (k0 := 3) hz.1 (by decide) rfl (by decide) in_X1 k_113 rfl rfl D_X2_enter_0.2.2.2.2.2.2.1 ?_
  refine x_eqi _ (show I2 t 3 = nI lv by rw [i2 t hne.1]; exact hlv) ?_
  refine x_iconst C (v := nI 1) D_X2_enter_0.2.2.2.2.2.2.2.1 (by decide +kernel) ?_
  refine x_iadd C D_X2_enter_0.2.2.2.2.2.2.2.2.1 ?_
  refine x_eqi _ (nI_add _ _) ?_
  refine x_putI C (ci := 1) (k0 := 3) hz.1 (by decide) rfl (by decide) in_X1 k_113 rfl tyX1 tyX1_ok nmX1 rfl (by rfl) rfl rfl rfl D_X2_enter_0.2.2.2.2.2.2.2.2.2.1 (fun I3 eI3 => ?_)
  refine x_aload_n C D_X2_enter_0.2.2.2.2.2.2.2.2.2.2.1 rfl rfl (by first | exact Or.inr ⟨_, rfl⟩ | exact va_rf_or _ | exact Or.inl rfl) ?_
  refine x_ifnull C 26 D_X2_enter_0.2.2.2.2.2.2.2.2.2.2.2 (by decide) (fun e_17 => ?_) (fun q9 e_17 => ?_)
  · skip
    exact absurd e_17 (by simp)
    --end
  · skip
    obtain rfl : q0 = q9 := Option.some.inj e_17
    refine x_aload_n C D_X2_enter_1.1 rfl rfl (by first | exact Or.inr ⟨_, rfl⟩ | exact va_rf_or _ | exact Or.inl rfl) ?_
    refine x_iconst C (v := nI 1) D_X2_enter_1.2.1 (by decide +kernel) ?_
    refine x_putI C (ci := 2) (k0 := 1) hq03 (by decide) rfl (by decide) in_X3 k_614 rfl tyX3 tyX3_ok nmX3 rfl (by rfl) rfl rfl rfl D_X2_enter_1.2.2.1 (fun I4 eI4 => ?_)
    have i4 : ∀ q j, q ≠ pq → ¬ (q = t ∧ j = 3) → ¬ (q = q0 ∧ j = 1) → I4 q j = I q j := fun q j h1 h2 h3 => by
      have e3 : I3 q j = I q j := by
        rw [eI3]
        by_cases hqq : q = t
        · subst hqq; rw [x_u2_j _ _ (fun e => h2 ⟨rfl, e⟩), i2 q h1]
        · rw [x_u2_a _ _ hqq, i2 q h1]
      rw [eI4]
      by_cases hqt : q = q0
      · subst hqt; rw [x_u2_j _ _ (fun e => h3 ⟨rfl, e⟩), e3]
      · rw [x_u2_a _ _ hqt, e3]
    refine ret _ _ _ _ _ rfl D_X2_enter_1.2.2.2.1 (Nat.le_of_ble_eq_true rfl) (Nat.le_of_ble_eq_true rfl) ?_
    refine ⟨I4, _, rfl, ?_, ?_, ?_, ?_, ?_, ?_⟩
    · exact hL.congr (fun q hq => by have h7 := hz.nn (hN q hq).1; rw [i4 q 0 h7.2.1 (fun e => h7.1 e.1) (fun e => by omega), i4 q 2 h7.2.1 (fun e => h7.1 e.1) (fun e => by omega)]; exact ⟨rfl, rfl⟩) (fun q h1 _ => x_up_n _ _ h1)
    · exact fun q h0 hA1 h1 h2 h3 h4 h5 => ⟨by funext j; exact i4 q j h2 (fun e => h1 e.1) (fun e => hA1 (by rw [e.1]; exact hq0A)), x_up_n _ _ h3⟩
    · intro q hq
      have h7 := hz.nn (hN q hq).1
      refine ⟨i4 q 0 h7.2.1 (fun e => h7.1 e.1) (fun e => by omega), ?_⟩
      by_cases hqq : q = q0
      · subst hqq; rw [if_pos rfl, eI4, x_u2_s]
      · rw [if_neg hqq]; exact i4 q 1 h7.2.1 (fun e => h7.1 e.1) (fun e => hqq e.1)
    · rw [eI4, x_u2_a _ _ h8.1.symm, eI3, x_u2_s]
    · exact i4 t 4 hne.1 (fun e => by omega) (fun e => h8.1 e.1.symm)
    · exact i4 t 5 hne.1 (fun e => by omega) (fun e => h8.1 e.1.symm)
abbrev rm_X2_enterN_1 : Room := { frames := 45, cells := 1, slots := 5, locals := 1052 }
theorem hd_X1_depthToRebuild : yX1_depthToRebuild.cls ≠ "java/lang/invoke/MethodHandle" ∧ yX1_depthToRebuild.cls ≠ "java/lang/invoke/VarHandle" ∧ (parseMethodDescriptor yX1_depthToRebuild.desc).map (fun d => d.parameters.length) = some 1 := by decide +kernel
theorem hd_X2_addLeaf : yX2_addLeaf.cls ≠ "java/lang/invoke/MethodHandle" ∧ yX2_addLeaf.cls ≠ "java/lang/invoke/VarHandle" ∧ (parseMethodDescriptor yX2_addLeaf.desc).map (fun d => d.parameters.length) = some 1 := by decide +kernel
theorem hd_X2_rebuild : yX2_rebuild.cls ≠ "java/lang/invoke/MethodHandle" ∧ yX2_rebuild.cls ≠ "java/lang/invoke/VarHandle" ∧ (parseMethodDescriptor yX2_rebuild.desc).map (fun d => d.parameters.length) = some 1 := by decide +kernel
theorem hu_X1_depthToRebuild : "ScapegoatSpur$LazyTree" ≠ "java/lang/invoke/MethodHandle" ∧ "ScapegoatSpur$LazyTree" ≠ "java/lang/invoke/VarHandle" ∧ (parseMethodDescriptor "(LScapegoatSpur$NodeRow;)I").map (fun d => d.parameters.length) = some 1 := by decide +kernel
theorem hu_X2_addLeaf : "ScapegoatSpur$LazyTree" ≠ "java/lang/invoke/MethodHandle" ∧ "ScapegoatSpur$LazyTree" ≠ "java/lang/invoke/VarHandle" ∧ (parseMethodDescriptor "(I)V").map (fun d => d.parameters.length) = some 1 := by decide +kernel
theorem hu_X2_rebuild : "ScapegoatSpur$LazyTree" ≠ "java/lang/invoke/MethodHandle" ∧ "ScapegoatSpur$LazyTree" ≠ "java/lang/invoke/VarHandle" ∧ (parseMethodDescriptor "(I)V").map (fun d => d.parameters.length) = some 1 := by decide +kernel
set_option maxHeartbeats 4000000 in
set_option maxRecDepth 100000 in
theorem c_X2_enterN_1 (l : Launch) (G : xG) {K N : Nat → Nat} {I : Nat → Nat → Int32} {Q : Nat → Nat → Option Nat} {J : Nat → Nat → Int64} (t pq pn rw rn cap : Nat) (c lv : Nat) (A : Tr) (cd : Nat → Nat) (hL : LTI cv1 1999 K N I Q t 2 pq pn rw rn cap cd A) (hA : ht A < 32) (hc : c < 1999) (hf : sfind od1 cd c A 0 = none) (hnew : ∀ a ∈ ino A, cd a ≠ c) (hcap : sz A + 1 ≤ cap) (hlv : I t 3 = nI lv) : XM l yX2_enter cX2_enter 4 none rm_X2_enterN_1 G Rv [.ref t, .int (cv1 c)] (K, N, I, Q, J) (fun _ S1 => ∃ v K1 I1 Q1, S1 = (K1, N, I1, Q1, J) ∧ K v = 0 ∧ K1 = x_up K v 3 ∧ LTI cv1 1999 K1 N I1 Q1 t 2 pq pn rw rn cap (x_up cd v c) (rebt od1 (x_up cd v c) c (insA od1 cd c v A 0) (rdep1 (x_up cd v c) c (insA od1 cd c v A 0) (spath od1 cd c A 0).length)) ∧ FRL K t pq pn rw rn (ino A) I I1 Q Q1 ∧ (∀ q ∈ ino A, I1 q 0 = I q 0 ∧ I1 q 1 = I q 1) ∧ I1 v 1 = nI 1 ∧ I1 t 3 = nI (lv + 1) ∧ I1 t 4 = I t 4 + nI (rebw od1 (x_up cd v c) c (insA od1 cd c v A 0) (rdep1 (x_up cd v c) c (insA od1 cd c v A 0) (spath od1 cd c A 0).length)) ∧ I1 t 5 = I t 5) := by
  refine x_metv (lv := [_, _, _, _]) (by decide +kernel) (x_cc (by first | rfl | exact x_crf _) (x_cc (by first | rfl | exact x_crf _) x_cn)) (Nat.le_of_ble_eq_true rfl) rfl ?_
  intro pP eE sS mM aA bB hH cC Z C hini ret
  have hz := hL.1
  have hT := hL.2.1
  have hW := hL.2.2.1
  have hnA := hL.2.2.2.1
  have hN := hL.2.2.2.2.1
  have hinj := hL.2.2.2.2.2.1
  have hszc := hL.2.2.2.2.2.2.1
  have hc256 := hL.2.2.2.2.2.2.2
  have hne := hz.ne
  refine x_aload_n C D_X2_enter_0.1 rfl rfl (by first | exact Or.inr ⟨_, rfl⟩ | exact va_rf_or _ | exact Or.inl rfl) ?_
  refine x_iload_n C D_X2_enter_0.2.1 rfl rfl ?_
  refine x_callUq C (x := ⟨"ScapegoatSpur$LazyTree", "find", "(I)LScapegoatSpur$Node;"⟩) (y := yX2_find) (owner := "ScapegoatSpur$LazyTree") (c_X2_find_1 l G t pq pn rw rn cap c A cd hz hT hN (by omega) hc) (ci := 1) hz.1 (by decide) rfl k_210 k_212 k_213 k_211 k_61 k_215 rfl hu_X2_find ⟨(Nat.le_of_ble_eq_true rfl), (Nat.le_of_ble_eq_true rfl)⟩ rfl (by first | exact Nat.le_of_ble_eq_true rfl | simp [x_crf, Value.category]) rfl rfl D_X2_enter_0.2.2.1 ⟨(Nat.le_of_ble_eq_true rfl), (Nat.le_of_ble_eq_true rfl)⟩ (fun r_2 S_2 h_2 => ?_)
  obtain ⟨hr, g, rfl, hsg⟩ := h_2
  rw [hf] at hr
  subst hr
  obtain ⟨I2, eI2⟩ : ∃ I2, I2 = x_u2 I pq 1 (nI (spath od1 cd c A 0).length) := ⟨_, rfl⟩
  rw [← eI2]
  have i2 : ∀ q, q ≠ pq → I2 q = I q := fun q hq => by rw [eI2, x_u2_a _ _ hq]
  refine x_astore_n C (lv' := [_, _, _, _]) D_X2_enter_0.2.2.2.1 rfl (Nat.le_of_ble_eq_true rfl) (by first | rfl | exact x_ok_q rfl) (by first | exact Or.inr ⟨_, rfl⟩ | exact va_rf_or _ | exact Or.inl rfl) rfl ?_
  refine x_aload_n C D_X2_enter_0.2.2.2.2.1 rfl rfl (by first | exact Or.inr ⟨_, rfl⟩ | exact va_rf_or _ | exact Or.inl rfl) ?_
  refine x_dup C D_X2_enter_0.2.2.2.2.2.1 (by first | rfl | exact x_crf _) ?_
  refine x_getI C (ci := 1) (k0 := 3) hz.1 (by decide) rfl (by decide) in_X1 k_113 rfl rfl D_X2_enter_0.2.2.2.2.2.2.1 ?_
  refine x_eqi _ (show I2 t 3 = nI lv by rw [i2 t hne.1]; exact hlv) ?_
  refine x_iconst C (v := nI 1) D_X2_enter_0.2.2.2.2.2.2.2.1 (by decide +kernel) ?_
  refine x_iadd C D_X2_enter_0.2.2.2.2.2.2.2.2.1 ?_
  refine x_eqi _ (nI_add _ _) ?_
  refine x_putI C (ci := 1) (k0 := 3) hz.1 (by decide) rfl (by decide) in_X1 k_113 rfl tyX1 tyX1_ok nmX1 rfl (by rfl) rfl rfl rfl D_X2_enter_0.2.2.2.2.2.2.2.2.2.1 (fun I3 eI3 => ?_)
  have i3 : ∀ q, q ≠ pq → q ≠ t → I3 q = I q := fun q h1 h2 => by rw [eI3, x_u2_a _ _ h2, i2 q h1]
  have i3t : ∀ j, j ≠ 3 → I3 t j = I t j := fun j hj => by rw [eI3, x_u2_j _ _ hj, i2 t hne.1]
  have hL3 : LTI cv1 1999 K N I3 (x_up Q pn g) t 2 pq pn rw rn cap cd A := hL.congr (fun q hq => by have h7 := hz.nn (hN q hq).1; rw [i3 q h7.2.1 h7.1]; exact ⟨rfl, rfl⟩) (fun q h1 _ => x_up_n _ _ h1)
  have hpl3 : I3 pq 1 = nI (spath od1 cd c A 0).length := by rw [eI3, x_u2_a _ _ hne.1.symm, eI2, x_u2_s]
  refine x_aload_n C D_X2_enter_0.2.2.2.2.2.2.2.2.2.2.1 rfl rfl (by first | exact Or.inr ⟨_, rfl⟩ | exact va_rf_or _ | exact Or.inl rfl) ?_
  refine x_ifnull C 26 D_X2_enter_0.2.2.2.2.2.2.2.2.2.2.2 (by decide) (fun e_17 => ?_) (fun q_17 e_17 => ?_)
  · skip
    refine x_aload_n C D_X2_enter_1.2.2.2.2.1 rfl rfl (by first | exact Or.inr ⟨_, rfl⟩ | exact va_rf_or _ | exact Or.inl rfl) ?_
    refine x_iload_n C D_X2_enter_1.2.2.2.2.2.1 rfl rfl ?_
    refine x_callUv C (x := ⟨"ScapegoatSpur$LazyTree", "addLeaf", "(I)V"⟩) (y := yX2_addLeaf) (owner := "ScapegoatSpur$LazyTree") (c_X2_addLeaf_1 l G t pq pn rw rn cap c A cd hL3.1 hL3.2.1 hL3.2.2.1 hnA hL3.2.2.2.2.1 (by omega) hc hf hpl3 (by rw [x_up_s]; exact hsg)) (ci := 1) hz.1 (by decide) rfl k_598 k_3 k_4 k_600 k_61 k_601 rfl hu_X2_addLeaf ⟨(Nat.le_of_ble_eq_true rfl), (Nat.le_of_ble_eq_true rfl)⟩ rfl (by first | exact Nat.le_of_ble_eq_true rfl | simp [x_crf, Value.category]) rfl rfl D_X2_enter_1.2.2.2.2.2.2.1 ⟨(Nat.le_of_ble_eq_true rfl), (Nat.le_of_ble_eq_true rfl)⟩ (fun _ S_28 h_28 => ?_)
    obtain ⟨v, K1, I5, Q5, rfl, fv, eK1, b1, b2, b3, b4, b5, b6, b7, b8, b9, b10, b11⟩ := h_28
    have hLB : LTI cv1 1999 K1 N I5 Q5 t 2 pq pn rw rn cap (x_up cd v c) (insA od1 cd c v A 0) := LTI.ins hL3 hcap hc hnew fv eK1 b1 b2 b3 b6 b8 b9
    obtain ⟨hpB, hsB⟩ := ins_path (od := od1) (cd := cd) (cd' := (x_up cd v c)) (c := c) (v := v) (x_up_s _ _ _) A 0 hf (fun a ha => x_up_n _ _ (fun e => by have h7 := (hN a ha).1; rw [e, fv] at h7; omega))
    have hlB : (spath od1 cd c A 0 ++ [v]).length = (spath od1 cd c A 0).length + 1 := by simp
    have hrowB : RowOK K1 N I5 Q5 pq pn 40 (spath od1 cd c A 0 ++ [v]).length := hLB.1.2.2.2.2.1.ok (by rw [hlB]; exact b10) (by rw [hlB]; have := spath_len od1 cd c A 0; omega)
    have hsgB : SEG (Q5 pn) 0 (spath od1 cd c A 0 ++ [v]) := b11
    have hpth : ∀ j q, (spath od1 cd c A 0 ++ [v])[j]? = some q → K1 q = 3 ∧ I5 q 2 = nI (sz (subp od1 (x_up cd v c) c (insA od1 cd c v A 0) 0 j)) ∧ sz (subp od1 (x_up cd v c) c (insA od1 cd c v A 0) 0 j) < 1000 ∧ wOf I5 (Q5 q 3) = nI (sz (ltr (subp od1 (x_up cd v c) c (insA od1 cd c v A 0) 0 j))) ∧ wOf I5 (Q5 q 4) = nI (sz (rtr (subp od1 (x_up cd v c) c (insA od1 cd c v A 0) 0 j))) ∧ (∀ a, Q5 q 3 = some a → K1 a = 3) ∧ (∀ a, Q5 q 4 = some a → K1 a = 3) ∧ sz (ltr (subp od1 (x_up cd v c) c (insA od1 cd c v A 0) 0 j)) < 1000 ∧ sz (rtr (subp od1 (x_up cd v c) c (insA od1 cd c v A 0) 0 j)) < 1000 := by
      intro j q hj
      have hjl : j < (spath od1 (x_up cd v c) c (insA od1 cd c v A 0) 0).length := by rw [hpB]; exact (List.getElem?_eq_some_iff.mp hj).1
      obtain ⟨q1, l1, r1, f1, f2, f3, f4, f5, f6, f7, f8⟩ := subp_facts (od := od1) (cd := (x_up cd v c)) (c := c) (insA od1 cd c v A 0) 0 j _ hLB.2.1 hLB.2.2.1 hLB.2.2.2.1 hjl
      rw [hpB, hj] at f1
      cases f1
      have h7 := hLB.2.2.2.2.2.2
      obtain ⟨-, f9, f10, f11⟩ := f3
      obtain ⟨g1, g2, g3⟩ := f4
      simp only [sz] at f7
      rw [f2]
      simp only [ltr, rtr, sz]
      exact ⟨f9, g1, by omega, wOf_TP f10 g2, wOf_TP f11 g3, fun a ha => by rw [ha] at f10; exact f10.some.choose_spec.choose_spec.2.1, fun a ha => by rw [ha] at f11; exact f11.some.choose_spec.choose_spec.2.1, by omega, by omega⟩
    have k1 : ∀ q, K q ≠ 0 → K1 q = K q := fun q hq => by rw [eK1, x_up_n _ _ (fun e => hq (by rw [e]; exact fv))]
    have vne : ∀ q, K q ≠ 0 → q ≠ v := fun q hq e => hq (by rw [e]; exact fv)
    have hfr5 : FRL K t pq pn rw rn (ino A) I I5 Q Q5 := fun q h0 hA1 h1 h2 h3 h4 h5 => ⟨by rw [b5 q hA1 (vne q h0) h2, i3 q h2 h1], by rw [b8 q hA1 (vne q h0) h3 h1, x_up_n _ _ h3]⟩
    have hal5 : ∀ q ∈ ino A, I5 q 0 = I q 0 ∧ I5 q 1 = I q 1 := fun q hq => by
      have h7 := hz.nn (hN q hq).1
      have h9 := vne q (by rw [(hN q hq).1]; omega)
      rw [b6 q 0 h9 h7.2.1 (by omega), b6 q 1 h9 h7.2.1 (by omega), i3 q h7.2.1 h7.1]; exact ⟨rfl, rfl⟩
    have htv : t ≠ v := vne t (by have := hz.1; omega)
    have i5t : ∀ j, j ≠ 2 → I5 t j = I3 t j := fun j hj => b6 t j htv hne.1 hj
    refine x_aload_n C D_X2_enter_1.2.2.2.2.2.2.2.1 rfl rfl (by first | exact Or.inr ⟨_, rfl⟩ | exact va_rf_or _ | exact Or.inl rfl) ?_
    refine x_aload_n C D_X2_enter_1.2.2.2.2.2.2.2.2.1 rfl rfl (by first | exact Or.inr ⟨_, rfl⟩ | exact va_rf_or _ | exact Or.inl rfl) ?_
    refine x_getQ C (ci := 1) (k0 := 0) hLB.1.1 (by decide) rfl (by decide) in_X1 k_110 rfl rfl D_X2_enter_1.2.2.2.2.2.2.2.2.2.1 ?_
    refine x_eqr hLB.1.2.2.1 ?_
    refine x_callAi C (x := ⟨"ScapegoatSpur$LazyTree", "depthToRebuild", "(LScapegoatSpur$NodeRow;)I"⟩) (y := yX1_depthToRebuild) (owner := "ScapegoatSpur$LazyTree") (c_X1_depthToRebuild l G t pq pn (spath od1 cd c A 0).length (sz (insA od1 cd c v A 0)) (spath od1 cd c A 0 ++ [v]) (fun j => sz (subp od1 (x_up cd v c) c (insA od1 cd c v A 0) 0 j)) (hLB.1.1) hrowB hsgB (by simp) (wOf_TP hLB.2.1 hLB.2.2.1) (by have h7 := hLB.2.2.2.2.2.2; omega) (fun q hq => by have h7 := hLB.2.1; rw [hq] at h7; exact h7.some.choose_spec.choose_spec.2.1) (fun j q hj => by obtain ⟨h1, h2, h3⟩ := hpth j q hj; exact ⟨h1, h2, h3.1⟩)) (ci := 1) hLB.1.1 (by decide) rfl k_637 k_639 k_640 k_641 k_62 k_642 C.2.2.2.2.2.1.2.2.1 hu_X1_depthToRebuild ⟨(Nat.le_of_ble_eq_true rfl), (Nat.le_of_ble_eq_true rfl)⟩ rfl (by first | exact Nat.le_of_ble_eq_true rfl | simp [x_crf, Value.category]) rfl rfl D_X2_enter_1.2.2.2.2.2.2.2.2.2.2.1 ⟨(Nat.le_of_ble_eq_true rfl), (Nat.le_of_ble_eq_true rfl)⟩ (fun r_36 S_36 h_36 => ?_)
    obtain ⟨rfl, rfl⟩ := h_36
    refine x_eqi _ (show _ = oI (rdep1 (x_up cd v c) c (insA od1 cd c v A 0) (spath od1 cd c A 0).length) from rfl) ?_
    obtain ⟨rd, erd⟩ : ∃ rd, rd = rdep1 (x_up cd v c) c (insA od1 cd c v A 0) (spath od1 cd c A 0).length := ⟨_, rfl⟩
    rw [← erd]
    refine x_istore_n C (lv' := [_, _, _, _]) D_X2_enter_1.2.2.2.2.2.2.2.2.2.2.2 rfl (Nat.le_of_ble_eq_true rfl) (by first | rfl | exact x_ok_q rfl) rfl ?_
    refine x_iload_n C D_X2_enter_2.1 rfl rfl ?_
    refine x_iconst C (v := (-1)) D_X2_enter_2.2.1 (by decide +kernel) ?_
    refine x_icmp_eq C 50 D_X2_enter_2.2.2.1 (by decide) (fun c_42 => ?_) (fun c_42 => ?_)
    · skip
      have hrd : rd = none := oI_none c_42 (fun k0 hk0 => by have h7 := rdep1_lt (erd ▸ hk0); have := spath_len od1 cd c A 0; omega)
      refine ret _ _ _ _ _ rfl D_X2_enter_2.2.2.2.2.2.2 (Nat.le_of_ble_eq_true rfl) (Nat.le_of_ble_eq_true rfl) ?_
      refine ⟨v, K1, I5, Q5, rfl, fv, eK1, ?_, hfr5, hal5, b4, ?_, ?_, ?_⟩
      · rw [← erd, hrd]; exact hLB
      · rw [i5t 3 (by omega), eI3, x_u2_s]
      · rw [← erd, hrd, i5t 4 (by omega), i3t 4 (by omega)]; simp [rebw, nI_0]
      · rw [i5t 5 (by omega), i3t 5 (by omega)]
    · skip
      obtain ⟨k0, hrd⟩ := oI_some c_42
      have hk0l := rdep1_lt (erd ▸ hrd)
      rw [hrd]
      refine x_aload_n C D_X2_enter_2.2.2.2.1 rfl rfl (by first | exact Or.inr ⟨_, rfl⟩ | exact va_rf_or _ | exact Or.inl rfl) ?_
      refine x_iload_n C D_X2_enter_2.2.2.2.2.1 rfl rfl ?_
      refine x_callUv C (x := ⟨"ScapegoatSpur$LazyTree", "rebuild", "(I)V"⟩) (y := yX2_rebuild) (owner := "ScapegoatSpur$LazyTree") (c_X2_rebuild_1 l G t pq pn rw rn cap c k0 (insA od1 cd c v A 0) (x_up cd v c) hLB (by have := insA_ht (od := od1) (cd := cd) (c := c) (v := v) A 0; omega) (by rw [hpB, hlB]; exact b10) (by rw [hpB]; exact hsgB) (by rw [hpB, hlB]; exact hk0l)) (ci := 1) hLB.1.1 (by decide) rfl k_658 k_6 k_7 k_660 k_61 k_661 rfl hu_X2_rebuild ⟨(Nat.le_of_ble_eq_true rfl), (Nat.le_of_ble_eq_true rfl)⟩ rfl (by first | exact Nat.le_of_ble_eq_true rfl | simp [x_crf, Value.category]) rfl rfl D_X2_enter_2.2.2.2.2.2.1 ⟨(Nat.le_of_ble_eq_true rfl), (Nat.le_of_ble_eq_true rfl)⟩ (fun _ S_47 h_47 => ?_)
      obtain ⟨I6, Q6, rfl, hL6, hfr6, hal6, d3, d4, d5⟩ := h_47
      refine ret _ _ _ _ _ rfl D_X2_enter_2.2.2.2.2.2.2 (Nat.le_of_ble_eq_true rfl) (Nat.le_of_ble_eq_true rfl) ?_
      refine ⟨v, K1, I6, Q6, rfl, fv, eK1, ?_, ?_, ?_, ?_, ?_, ?_, ?_⟩
      · rw [← erd, hrd]; exact hL6
      · intro q h0 hA1 h1 h2 h3 h4 h5
        have h9 := vne q h0
        have hqB : q ∉ ino (insA od1 cd c v A 0) := fun hm => ((insA_mem A 0 q).mp hm).elim h9 hA1
        have h6 := hfr6 q (by rw [k1 q h0]; exact h0) hqB h1 h2 h3 h4 h5
        have h7 := hfr5 q h0 hA1 h1 h2 h3 h4 h5
        exact ⟨h6.1.trans h7.1, h6.2.trans h7.2⟩
      · intro q hq
        have h6 := hal6 q ((insA_mem A 0 q).mpr (Or.inr hq))
        have h7 := hal5 q hq
        exact ⟨h6.1.trans h7.1, h6.2.trans h7.2⟩
      · rw [(hal6 v ((insA_mem A 0 v).mpr (Or.inl rfl))).2]; exact b4
      · rw [d3, i5t 3 (by omega), eI3, x_u2_s]
      · rw [d4, ← erd, hrd, i5t 4 (by omega), i3t 4 (by omega)]; rfl
      · rw [d5, i5t 5 (by omega), i3t 5 (by omega)]
  · skip
    exact absurd e_17 (by simp)
    --end
abbrev rm_X2_dropDead_5 : Room := { frames := 44, cells := 0, slots := 0, locals := 1028 }
set_option maxHeartbeats 4000000 in
set_option maxRecDepth 100000 in
theorem c_X2_dropDead_5 (l : Launch) (G : xG) {K N : Nat → Nat} {I : Nat → Nat → Int32} {Q : Nat → Nat → Option Nat} {J : Nat → Nat → Int64} (t pq pn rw rn cap : Nat) (A : Tr) (cd : Nat → Nat) (hL : LTI cv5 10000 K N I Q t 5 pq pn rw rn cap cd A) (hA : ht A ≤ 40) : XM l yX2_dropDead cX2_dropDead 1 none rm_X2_dropDead_5 G Rv [.ref t] (K, N, I, Q, J) (fun _ S1 => ∃ I1 Q1, S1 = (K, N, I1, Q1, J) ∧ LTI cv5 10000 K N I1 Q1 t 5 pq pn rw rn cap cd (kdl od5 cd 8 0 (apd false I A)) ∧ FRL K t pq pn rw rn (ino A) I I1 Q Q1 ∧ (∀ q ∈ ino A, I1 q 0 = I q 0 ∧ I1 q 1 = I q 1) ∧ I1 t 3 = I t 3 ∧ I1 t 4 = I t 4 ∧ I1 t 5 = I t 5 + nI 1) := by
  refine x_metv (lv := [_]) (by decide +kernel) (x_cc (by first | rfl | exact x_crf _) x_cn) (Nat.le_of_ble_eq_true rfl) rfl ?_
  intro pP eE sS mM aA bB hH cC Z C hini ret
  have hz := hL.1
  have hT := hL.2.1
  have hW := hL.2.2.1
  have hnA := hL.2.2.2.1
  have hN := hL.2.2.2.2.1
  have hinj := hL.2.2.2.2.2.1
  have hszc := hL.2.2.2.2.2.2.1
  have hc256 := hL.2.2.2.2.2.2.2
  have hne := hz.ne
  obtain ⟨ls, els⟩ : ∃ ls, ls = apd false I A := ⟨_, rfl⟩
  have hll : ls.length ≤ sz A := by rw [els]; exact apd_le
  have hlm : ∀ a ∈ ls, a ∈ ino A := fun a ha => by rw [els] at ha; exact apd_mem ha
  have hln : ls.Nodup := by rw [els]; exact apd_nodup hnA
  refine x_aload_n C D_X2_dropDead_0.1 rfl rfl (by first | exact Or.inr ⟨_, rfl⟩ | exact va_rf_or _ | exact Or.inl rfl) ?_
  refine x_aload_n C D_X2_dropDead_0.2.1 rfl rfl (by first | exact Or.inr ⟨_, rfl⟩ | exact va_rf_or _ | exact Or.inl rfl) ?_
  refine x_getQ C (ci := 4) (k0 := 2) hz.1 (by decide) rfl (by decide) in_X5 k_112 rfl rfl D_X2_dropDead_0.2.2.1 ?_
  refine x_eqq _ (rfl : Q t 2 = Q t 2) ?_
  refine x_iconst C (v := nI 0) D_X2_dropDead_0.2.2.2.1 (by decide +kernel) ?_
  have h65 := (rfl : nI 0 = xb false)
  rw [h65]
  refine x_callUv C (x := ⟨"ScapegoatSpur$LazyTree", "gather", "(LScapegoatSpur$Node;Z)V"⟩) (y := yX2_gather) (owner := "ScapegoatSpur$LazyTree") (c_X2_gather_5 l G t pq pn rw rn cap A false _ hz hT hA (by rw [← els]; omega)) (ci := 4) hz.1 (by decide) rfl k_254 k_12 k_14 k_256 k_61 k_257 rfl hu_X2_gather ⟨(Nat.le_of_ble_eq_true rfl), (Nat.le_of_ble_eq_true rfl)⟩ rfl (by first | exact Nat.le_of_ble_eq_true rfl | simp [x_crf, Value.category]) rfl rfl D_X2_dropDead_0.2.2.2.2.1 ⟨(Nat.le_of_ble_eq_true rfl), (Nat.le_of_ble_eq_true rfl)⟩ (fun _ S_6 h_6 => ?_)
  obtain ⟨g, rfl, hs⟩ := h_6
  rw [← els] at hs ⊢
  refine x_aload_n C D_X2_dropDead_0.2.2.2.2.2.1 rfl rfl (by first | exact Or.inr ⟨_, rfl⟩ | exact va_rf_or _ | exact Or.inl rfl) ?_
  refine x_aload_n C D_X2_dropDead_0.2.2.2.2.2.2.1 rfl rfl (by first | exact Or.inr ⟨_, rfl⟩ | exact va_rf_or _ | exact Or.inl rfl) ?_
  refine x_iconst C (v := nI 0) D_X2_dropDead_0.2.2.2.2.2.2.2.1 (by decide +kernel) ?_
  refine x_aload_n C D_X2_dropDead_0.2.2.2.2.2.2.2.2.1 rfl rfl (by first | exact Or.inr ⟨_, rfl⟩ | exact va_rf_or _ | exact Or.inl rfl) ?_
  refine x_getQ C (ci := 4) (k0 := 1) hz.1 (by decide) rfl (by decide) in_X5 k_111 rfl rfl D_X2_dropDead_0.2.2.2.2.2.2.2.2.2.1 ?_
  refine x_eqr (hz.row g).2.2.2.1 ?_
  refine x_callVi C (y := yX4_length) (c_X4_length l G rw hz.2.2.2.2.2.1.1) (ci := 3) hz.2.2.2.2.2.1.1 (by decide) rfl rfl k_220 k_221 k_222 k_63 k_223 hd_X4_length ⟨(Nat.le_of_ble_eq_true rfl), (Nat.le_of_ble_eq_true rfl)⟩ rfl (by first | exact Nat.le_of_ble_eq_true rfl | simp [x_crf, Value.category]) rfl rfl D_X2_dropDead_0.2.2.2.2.2.2.2.2.2.2.1 ⟨(Nat.le_of_ble_eq_true rfl), (Nat.le_of_ble_eq_true rfl)⟩ (fun r_16 S_16 h_16 => ?_)
  obtain ⟨rfl, rfl⟩ := h_16
  refine x_eqi _ (x_u2_s _ _ _ _) ?_
  refine x_iconst C (v := nI 0) D_X2_dropDead_0.2.2.2.2.2.2.2.2.2.2.2 (by decide +kernel) ?_
  refine x_callSq C (y := yX2_layOut) (c_X2_layOut_5 l G t pq pn rw rn cap ls.length cd (by omega) 8 ls 0 0 ls.length (x_u2 I rw 1 (nI ls.length)) (x_up Q rn g) (hz.row g) (x_u2_s _ _ _ _) (Nat.zero_add _).symm (Nat.le_refl _) (by omega) (by omega) hln (fun q hq => by have h9 := hN q (hlm q hq); have h8 := hz.nn h9.1; exact ⟨h9.1, by rw [x_u2_a _ _ h8.2.2.2.1]; exact h9.2.1, h9.2.2⟩) (fun u hu v hv => hinj u (hlm u hu) v (hlm v hv)) (by rw [x_up_s]; exact hs)) k_261 k_262 k_61 k_263 hd_X2_layOut ⟨(Nat.le_of_ble_eq_true rfl), (Nat.le_of_ble_eq_true rfl)⟩ rfl (by first | exact Nat.le_of_ble_eq_true rfl | simp [x_crf, Value.category]) rfl rfl D_X2_dropDead_1.1 ⟨(Nat.le_of_ble_eq_true rfl), (Nat.le_of_ble_eq_true rfl)⟩ (fun r_20 S_20 h_20 => ?_)
  obtain ⟨I3, Q3, rfl, hlay⟩ := h_20
  refine x_putQ C (ci := 4) (k0 := 2) hz.1 (by decide) rfl (by decide) in_X5 k_112 rfl tyX5 tyX5_ok nmX5 rfl (by first | exact rfl | exact (rfl : _ = va_rf (some _)) | exact (rfl : _ = va_rf none)) (by rfl) (by first | rfl | exact x_narq _ _) (by first | rfl | exact x_fitq _ _) rfl D_X2_dropDead_1.2.1 (fun Q4 eQ4 => ?_)
  refine x_aload_n C D_X2_dropDead_1.2.2.1 rfl rfl (by first | exact Or.inr ⟨_, rfl⟩ | exact va_rf_or _ | exact Or.inl rfl) ?_
  refine x_dup C D_X2_dropDead_1.2.2.2.1 (by first | rfl | exact x_crf _) ?_
  refine x_getI C (ci := 4) (k0 := 5) hz.1 (by decide) rfl (by decide) in_X5 k_115 rfl rfl D_X2_dropDead_1.2.2.2.2.1 ?_
  refine x_iconst C (v := nI 1) D_X2_dropDead_1.2.2.2.2.2.1 (by decide +kernel) ?_
  refine x_iadd C D_X2_dropDead_1.2.2.2.2.2.2.1 ?_
  refine x_putI C (ci := 4) (k0 := 5) hz.1 (by decide) rfl (by decide) in_X5 k_115 rfl tyX5 tyX5_ok nmX5 rfl (by rfl) rfl rfl rfl D_X2_dropDead_1.2.2.2.2.2.2.2.1 (fun I4 eI4 => ?_)
  refine ret _ _ _ _ _ rfl D_X2_dropDead_1.2.2.2.2.2.2.2.2 (Nat.le_of_ble_eq_true rfl) (Nat.le_of_ble_eq_true rfl) ?_
  have hI1 : ∀ q, q ≠ t → q ≠ rw → x_u2 I rw 1 (nI ls.length) q = I q := fun q h1 h2 => x_u2_a _ _ h2
  have hp8 : (ino (kdl od5 cd 8 0 ls)).Perm ls := kdl_perm 8 0 _ (by omega)
  have hfin := LTI.drop hL hlm hp8 hln hll hlay rfl hI1 eQ4
  have hi4 : ∀ q, q ≠ t → I4 q = I3 q := fun q hq => by rw [eI4, x_u2_a _ _ hq]
  have hnt : ∀ q ∈ ino A, q ≠ t := fun q hq => (hz.nn (hN q hq).1).1
  refine ⟨I4, Q4, rfl, ?_, ?_, ?_, ?_, ?_, ?_⟩
  · rw [← els]
    refine hfin.congr (fun q hq => ?_) (fun q _ _ => rfl)
    rw [hi4 q (hnt q (hlm q (hp8.mem_iff.mp hq)))]; exact ⟨rfl, rfl⟩
  · intro q h0 hA1 h1 h2 h3 h4 h5
    have hs : q ∉ ls := fun h => hA1 (hlm q h)
    exact ⟨by rw [hi4 q h1, hlay.2.2.2.2.1 q hs, hI1 q h1 h4], by rw [eQ4, x_u2_a _ _ h1, hlay.2.2.1 q hs h5, x_up_n _ _ h5]⟩
  · intro q hq
    have h8 := hz.nn (hN q hq).1
    rw [hi4 q h8.1, hlay.2.2.2.2.2.1 q 0 (by omega), hlay.2.2.2.2.2.1 q 1 (by omega), hI1 q h8.1 h8.2.2.2.1]; exact ⟨rfl, rfl⟩
  · rw [eI4, x_u2_j _ _ (by omega), hlay.2.2.2.2.2.1 t 3 (by omega), x_u2_a _ _ hne.2.2.1]
  · rw [eI4, x_u2_j _ _ (by omega), hlay.2.2.2.2.2.1 t 4 (by omega), x_u2_a _ _ hne.2.2.1]
  · rw [eI4, x_u2_s, hlay.2.2.2.2.2.1 t 5 (by omega), x_u2_a _ _ hne.2.2.1]
abbrev rm_X2_retire_5 : Room := { frames := 45, cells := 0, slots := 0, locals := 1048 }
set_option maxHeartbeats 4000000 in
set_option maxRecDepth 100000 in
theorem c_X2_retire_5 (l : Launch) (G : xG) {K N : Nat → Nat} {I : Nat → Nat → Int32} {Q : Nat → Nat → Option Nat} {J : Nat → Nat → Int64} (t pq pn rw rn cap : Nat) (c q0 lv : Nat) (A : Tr) (cd : Nat → Nat) (hL : LTI cv5 10000 K N I Q t 5 pq pn rw rn cap cd A) (hA : ht A ≤ 40) (hc : c < 10000) (hf : sfind od5 cd c A 0 = some q0) (ha : alv I q0 = true) (hlv : I t 3 = nI (lv + 1)) (hle : lv < sz A) : XM l yX2_retire cX2_retire 3 none rm_X2_retire_5 G Rv [.ref t, .int (cv5 c)] (K, N, I, Q, J) (fun _ S1 => ∃ I1 Q1, S1 = (K, N, I1, Q1, J) ∧ LTI cv5 10000 K N I1 Q1 t 5 pq pn rw rn cap cd (if lv < sz A - lv then kdl od5 cd 8 0 (apd false I1 A) else A) ∧ FRL K t pq pn rw rn (ino A) I I1 Q Q1 ∧ (∀ q ∈ ino A, I1 q 0 = I q 0 ∧ I1 q 1 = if q = q0 then nI 0 else I q 1) ∧ I1 t 3 = nI lv ∧ I1 t 4 = I t 4 ∧ I1 t 5 = if lv < sz A - lv then I t 5 + nI 1 else I t 5) := by
  refine x_metv (lv := [_, _, _]) (by decide +kernel) (x_cc (by first | rfl | exact x_crf _) (x_cc (by first | rfl | exact x_crf _) x_cn)) (Nat.le_of_ble_eq_true rfl) rfl ?_
  intro pP eE sS mM aA bB hH cC Z C hini ret
  have hz := hL.1
  have hT := hL.2.1
  have hW := hL.2.2.1
  have hnA := hL.2.2.2.1
  have hN := hL.2.2.2.2.1
  have hinj := hL.2.2.2.2.2.1
  have hszc := hL.2.2.2.2.2.2.1
  have hc256 := hL.2.2.2.2.2.2.2
  have hne := hz.ne
  have hq0A : q0 ∈ ino A := sfind_mem _ _ _ _ _ _ hf
  have hq03 := (hN q0 hq0A).1
  have h8 := hz.nn hq03
  refine x_aload_n C D_X2_retire_0.1 rfl rfl (by first | exact Or.inr ⟨_, rfl⟩ | exact va_rf_or _ | exact Or.inl rfl) ?_
  refine x_iload_n C D_X2_retire_0.2.1 rfl rfl ?_
  refine x_callUq C (x := ⟨"ScapegoatSpur$LazyTree", "find", "(I)LScapegoatSpur$Node;"⟩) (y := yX2_find) (owner := "ScapegoatSpur$LazyTree") (c_X2_find_5 l G t pq pn rw rn cap c A cd hz hT hN hA hc) (ci := 4) hz.1 (by decide) rfl k_210 k_212 k_214 k_211 k_61 k_215 rfl hu_X2_find ⟨(Nat.le_of_ble_eq_true rfl), (Nat.le_of_ble_eq_true rfl)⟩ rfl (by first | exact Nat.le_of_ble_eq_true rfl | simp [x_crf, Value.category]) rfl rfl D_X2_retire_0.2.2.1 ⟨(Nat.le_of_ble_eq_true rfl), (Nat.le_of_ble_eq_true rfl)⟩ (fun r_2 S_2 h_2 => ?_)
  obtain ⟨hr, g, rfl, hsg⟩ := h_2
  rw [hf] at hr
  subst hr
  obtain ⟨I2, eI2⟩ : ∃ I2, I2 = x_u2 I pq 1 (nI (spath od5 cd c A 0).length) := ⟨_, rfl⟩
  rw [← eI2]
  have i2 : ∀ q, q ≠ pq → I2 q = I q := fun q hq => by rw [eI2, x_u2_a _ _ hq]
  have hq2t : x_up Q pn g t = Q t := x_up_n _ _ hne.2.1
  refine x_astore_n C (lv' := [_, _, _]) D_X2_retire_0.2.2.2.1 rfl (Nat.le_of_ble_eq_true rfl) (by first | rfl | exact x_ok_q rfl) (by first | exact Or.inr ⟨_, rfl⟩ | exact va_rf_or _ | exact Or.inl rfl) rfl ?_
  refine x_aload_n C D_X2_retire_0.2.2.2.2.1 rfl rfl (by first | exact Or.inr ⟨_, rfl⟩ | exact va_rf_or _ | exact Or.inl rfl) ?_
  refine x_ifnull C 17 D_X2_retire_0.2.2.2.2.2.1 (by decide) (fun e_7 => ?_) (fun q9 e_7 => ?_)
  · skip
    exact absurd e_7 (by simp)
    --end
  · skip
    obtain rfl : q0 = q9 := Option.some.inj e_7
    refine x_aload_n C D_X2_retire_0.2.2.2.2.2.2.1 rfl rfl (by first | exact Or.inr ⟨_, rfl⟩ | exact va_rf_or _ | exact Or.inl rfl) ?_
    refine x_getI C (ci := 2) (k0 := 1) hq03 (by decide) rfl (by decide) in_X3 k_614 rfl rfl D_X2_retire_0.2.2.2.2.2.2.2.1 ?_
    refine x_eqi _ (show I2 q0 1 = I q0 1 by rw [i2 q0 h8.2.1]) ?_
    refine x_if_ne C 18 D_X2_retire_0.2.2.2.2.2.2.2.2.1 (by decide) (fun c_14 => ?_) (fun c_14 => ?_)
    · skip
      refine x_aload_n C D_X2_retire_0.2.2.2.2.2.2.2.2.2.2.1 rfl rfl (by first | exact Or.inr ⟨_, rfl⟩ | exact va_rf_or _ | exact Or.inl rfl) ?_
      refine x_iconst C (v := nI 0) D_X2_retire_0.2.2.2.2.2.2.2.2.2.2.2 (by decide +kernel) ?_
      refine x_putI C (ci := 2) (k0 := 1) hq03 (by decide) rfl (by decide) in_X3 k_614 rfl tyX3 tyX3_ok nmX3 rfl (by rfl) rfl rfl rfl D_X2_retire_1.1 (fun I3 eI3 => ?_)
      refine x_aload_n C D_X2_retire_1.2.1 rfl rfl (by first | exact Or.inr ⟨_, rfl⟩ | exact va_rf_or _ | exact Or.inl rfl) ?_
      refine x_dup C D_X2_retire_1.2.2.1 (by first | rfl | exact x_crf _) ?_
      refine x_getI C (ci := 4) (k0 := 3) hz.1 (by decide) rfl (by decide) in_X5 k_113 rfl rfl D_X2_retire_1.2.2.2.1 ?_
      refine x_eqi _ (show I3 t 3 = nI (lv + 1) by rw [eI3, x_u2_a _ _ h8.1.symm, i2 t hne.1]; exact hlv) ?_
      refine x_iconst C (v := nI 1) D_X2_retire_1.2.2.2.2.1 (by decide +kernel) ?_
      refine x_isub C D_X2_retire_1.2.2.2.2.2.1 ?_
      refine x_eqi _ (show nI (lv + 1) - nI 1 = nI lv by rw [pk_sub (by omega)]; rfl) ?_
      refine x_putI C (ci := 4) (k0 := 3) hz.1 (by decide) rfl (by decide) in_X5 k_113 rfl tyX5 tyX5_ok nmX5 rfl (by rfl) rfl rfl rfl D_X2_retire_1.2.2.2.2.2.2.1 (fun I4 eI4 => ?_)
      have i4 : ∀ q j, q ≠ pq → ¬ (q = t ∧ j = 3) → ¬ (q = q0 ∧ j = 1) → I4 q j = I q j := fun q j h1 h2 h3 => by
        have e3 : I3 q j = I q j := by
          rw [eI3]
          by_cases hqq : q = q0
          · subst hqq; rw [x_u2_j _ _ (fun e => h3 ⟨rfl, e⟩), i2 q h1]
          · rw [x_u2_a _ _ hqq, i2 q h1]
        rw [eI4]
        by_cases hqt : q = t
        · subst hqt; rw [x_u2_j _ _ (fun e => h2 ⟨rfl, e⟩), e3]
        · rw [x_u2_a _ _ hqt, e3]
      have i4t : I4 t 3 = nI lv := by rw [eI4, x_u2_s]
      have i4q : I4 q0 1 = nI 0 := by rw [eI4, x_u2_a _ _ h8.1, eI3, x_u2_s]
      have hL4 : LTI cv5 10000 K N I4 (x_up Q pn g) t 5 pq pn rw rn cap cd A := hL.congr (fun q hq => by have h7 := hz.nn (hN q hq).1; rw [i4 q 0 h7.2.1 (fun e => h7.1 e.1) (fun e => by omega), i4 q 2 h7.2.1 (fun e => h7.1 e.1) (fun e => by omega)]; exact ⟨rfl, rfl⟩) (fun q h1 _ => x_up_n _ _ h1)
      have hfr4 : FRL K t pq pn rw rn (ino A) I I4 Q (x_up Q pn g) := fun q h0 hA1 h1 h2 h3 h4 h5 => ⟨by funext j; exact i4 q j h2 (fun e => h1 e.1) (fun e => hA1 (by rw [e.1]; exact hq0A)), x_up_n _ _ h3⟩
      have hal4 : ∀ q ∈ ino A, I4 q 0 = I q 0 ∧ I4 q 1 = if q = q0 then nI 0 else I q 1 := fun q hq => by
        have h7 := hz.nn (hN q hq).1
        refine ⟨i4 q 0 h7.2.1 (fun e => h7.1 e.1) (fun e => by omega), ?_⟩
        by_cases hqq : q = q0
        · subst hqq; rw [if_pos rfl]; exact i4q
        · rw [if_neg hqq]; exact i4 q 1 h7.2.1 (fun e => h7.1 e.1) (fun e => hqq e.1)
      refine x_aload_n C D_X2_retire_1.2.2.2.2.2.2.2.1 rfl rfl (by first | exact Or.inr ⟨_, rfl⟩ | exact va_rf_or _ | exact Or.inl rfl) ?_
      refine x_callUi C (x := ⟨"ScapegoatSpur$LazyTree", "nodeCount", "()I"⟩) (y := yX2_nodeCount) (owner := "ScapegoatSpur$LazyTree") (c_X2_nodeCount_5 l G t hz.1 (fun q hq => by have h7 := hL4.2.1; rw [hq] at h7; exact h7.some.choose_spec.choose_spec.2.1)) (ci := 4) hz.1 (by decide) rfl k_241 k_243 k_245 k_242 k_61 k_246 rfl hu_X2_nodeCount ⟨(Nat.le_of_ble_eq_true rfl), (Nat.le_of_ble_eq_true rfl)⟩ rfl (by first | exact Nat.le_of_ble_eq_true rfl | simp [x_crf, Value.category]) rfl rfl D_X2_retire_1.2.2.2.2.2.2.2.2.1 ⟨(Nat.le_of_ble_eq_true rfl), (Nat.le_of_ble_eq_true rfl)⟩ (fun r_34 S_34 h_34 => ?_)
      obtain ⟨rfl, rfl⟩ := h_34
      refine x_eqi _ (wOf_TP hL4.2.1 hL4.2.2.1) ?_
      refine x_aload_n C D_X2_retire_1.2.2.2.2.2.2.2.2.2.1 rfl rfl (by first | exact Or.inr ⟨_, rfl⟩ | exact va_rf_or _ | exact Or.inl rfl) ?_
      refine x_getI C (ci := 4) (k0 := 3) hz.1 (by decide) rfl (by decide) in_X5 k_113 rfl rfl D_X2_retire_1.2.2.2.2.2.2.2.2.2.2.1 ?_
      refine x_eqi _ i4t ?_
      refine x_isub C D_X2_retire_1.2.2.2.2.2.2.2.2.2.2.2 ?_
      refine x_eqi _ (pk_sub (by omega)) ?_
      refine x_aload_n C D_X2_retire_2.1 rfl rfl (by first | exact Or.inr ⟨_, rfl⟩ | exact va_rf_or _ | exact Or.inl rfl) ?_
      refine x_getI C (ci := 4) (k0 := 3) hz.1 (by decide) rfl (by decide) in_X5 k_113 rfl rfl D_X2_retire_2.2.1 ?_
      refine x_eqi _ i4t ?_
      refine x_icmp_le C 53 D_X2_retire_2.2.2.1 (by decide) (fun c_46 => ?_) (fun c_46 => ?_)
      · skip
        have c1 : ¬ lv < sz A - lv := by
          have h9 := (nI_leI (by omega) (by omega)).mp c_46
          omega
        refine ret _ _ _ _ _ rfl D_X2_retire_2.2.2.2.2.2 (Nat.le_of_ble_eq_true rfl) (Nat.le_of_ble_eq_true rfl) ?_
        refine ⟨I4, _, rfl, ?_, hfr4, hal4, i4t, ?_, ?_⟩
        · rw [if_neg c1]; exact hL4
        · exact i4 t 4 hne.1 (fun e => by omega) (fun e => h8.1 e.1.symm)
        · rw [if_neg c1]; exact i4 t 5 hne.1 (fun e => by omega) (fun e => h8.1 e.1.symm)
      · skip
        have c1 : lv < sz A - lv := by
          rcases Nat.lt_or_ge lv (sz A - lv) with h | h
          · exact h
          · exact absurd ((nI_leI (by omega) (by omega)).mpr h) c_46
        refine x_aload_n C D_X2_retire_2.2.2.2.1 rfl rfl (by first | exact Or.inr ⟨_, rfl⟩ | exact va_rf_or _ | exact Or.inl rfl) ?_
        refine x_callUv C (x := ⟨"ScapegoatSpur$LazyTree", "dropDead", "()V"⟩) (y := yX2_dropDead) (owner := "ScapegoatSpur$LazyTree") (c_X2_dropDead_5 l G t pq pn rw rn cap A cd hL4 hA) (ci := 4) hz.1 (by decide) rfl k_250 k_9 k_11 k_252 k_61 k_253 rfl hu_X2_dropDead ⟨(Nat.le_of_ble_eq_true rfl), (Nat.le_of_ble_eq_true rfl)⟩ rfl (by first | exact Nat.le_of_ble_eq_true rfl | simp [x_crf, Value.category]) rfl rfl D_X2_retire_2.2.2.2.2.1 ⟨(Nat.le_of_ble_eq_true rfl), (Nat.le_of_ble_eq_true rfl)⟩ (fun _ S_50 h_50 => ?_)
        obtain ⟨I5, Q5, rfl, hL5, hfr5, hal5, d3, d4, d5⟩ := h_50
        refine ret _ _ _ _ _ rfl D_X2_retire_2.2.2.2.2.2 (Nat.le_of_ble_eq_true rfl) (Nat.le_of_ble_eq_true rfl) ?_
        refine ⟨I5, Q5, rfl, ?_, ?_, ?_, ?_, ?_, ?_⟩
        · rw [if_pos c1, apd_congr (fun a ha => (hal5 a ha).2)]; exact hL5
        · intro q h0 hA1 h1 h2 h3 h4 h5
          have h6 := hfr5 q h0 hA1 h1 h2 h3 h4 h5
          have h7 := hfr4 q h0 hA1 h1 h2 h3 h4 h5
          exact ⟨h6.1.trans h7.1, h6.2.trans h7.2⟩
        · intro q hq
          rw [(hal5 q hq).1, (hal5 q hq).2]; exact hal4 q hq
        · rw [d3]; exact i4t
        · rw [d4]; exact i4 t 4 hne.1 (fun e => by omega) (fun e => h8.1 e.1.symm)
        · rw [d5, if_pos c1, i4 t 5 hne.1 (fun e => by omega) (fun e => h8.1 e.1.symm)]
    · skip
      exact absurd ha (by simp only [alv]; simp; simpa using c_14)
      --end
abbrev rm_X2_enterF_5 : Room := { frames := 3, cells := 0, slots := 0, locals := 68 }
set_option maxHeartbeats 4000000 in
set_option maxRecDepth 100000 in
theorem c_X2_enterF_5 (l : Launch) (G : xG) {K N : Nat → Nat} {I : Nat → Nat → Int32} {Q : Nat → Nat → Option Nat} {J : Nat → Nat → Int64} (t pq pn rw rn cap : Nat) (c q0 lv : Nat) (A : Tr) (cd : Nat → Nat) (hL : LTI cv5 10000 K N I Q t 5 pq pn rw rn cap cd A) (hA : ht A ≤ 40) (hc : c < 10000) (hf : sfind od5 cd c A 0 = some q0) (hlv : I t 3 = nI lv) : XM l yX2_enter cX2_enter 4 none rm_X2_enterF_5 G Rv [.ref t, .int (cv5 c)] (K, N, I, Q, J) (fun _ S1 => ∃ I1 Q1, S1 = (K, N, I1, Q1, J) ∧ LTI cv5 10000 K N I1 Q1 t 5 pq pn rw rn cap cd A ∧ FRL K t pq pn rw rn (ino A) I I1 Q Q1 ∧ (∀ q ∈ ino A, I1 q 0 = I q 0 ∧ I1 q 1 = if q = q0 then nI 1 else I q 1) ∧ I1 t 3 = nI (lv + 1) ∧ I1 t 4 = I t 4 ∧ I1 t 5 = I t 5) := by
  refine x_metv (lv := [_, _, _, _]) (by decide +kernel) (x_cc (by first | rfl | exact x_crf _) (x_cc (by first | rfl | exact x_crf _) x_cn)) (Nat.le_of_ble_eq_true rfl) rfl ?_
  intro pP eE sS mM aA bB hH cC Z C hini ret
  have hz := hL.1
  have hT := hL.2.1
  have hW := hL.2.2.1
  have hnA := hL.2.2.2.1
  have hN := hL.2.2.2.2.1
  have hinj := hL.2.2.2.2.2.1
  have hszc := hL.2.2.2.2.2.2.1
  have hc256 := hL.2.2.2.2.2.2.2
  have hne := hz.ne
  have hq0A : q0 ∈ ino A := sfind_mem _ _ _ _ _ _ hf
  have hq03 := (hN q0 hq0A).1
  have h8 := hz.nn hq03
  refine x_aload_n C D_X2_enter_0.1 rfl rfl (by first | exact Or.inr ⟨_, rfl⟩ | exact va_rf_or _ | exact Or.inl rfl) ?_
  refine x_iload_n C D_X2_enter_0.2.1 rfl rfl ?_
  refine x_callUq C (x := ⟨"ScapegoatSpur$LazyTree", "find", "(I)LScapegoatSpur$Node;"⟩) (y := yX2_find) (owner := "ScapegoatSpur$LazyTree") (c_X2_find_5 l G t pq pn rw rn cap c A cd hz hT hN hA hc) (ci := 4) hz.1 (by decide) rfl k_210 k_212 k_214 k_211 k_61 k_215 rfl hu_X2_find ⟨(Nat.le_of_ble_eq_true rfl), (Nat.le_of_ble_eq_true rfl)⟩ rfl (by first | exact Nat.le_of_ble_eq_true rfl | simp [x_crf, Value.category]) rfl rfl D_X2_enter_0.2.2.1 ⟨(Nat.le_of_ble_eq_true rfl), (Nat.le_of_ble_eq_true rfl)⟩ (fun r_2 S_2 h_2 => ?_)
  obtain ⟨hr, g, rfl, hsg⟩ := h_2
  rw [hf] at hr
  subst hr
  obtain ⟨I2, eI2⟩ : ∃ I2, I2 = x_u2 I pq 1 (nI (spath od5 cd c A 0).length) := ⟨_, rfl⟩
  rw [← eI2]
  have i2 : ∀ q, q ≠ pq → I2 q = I q := fun q hq => by rw [eI2, x_u2_a _ _ hq]
  refine x_astore_n C (lv' := [_, _, _, _]) D_X2_enter_0.2.2.2.1 rfl (Nat.le_of_ble_eq_true rfl) (by first | rfl | exact x_ok_q rfl) (by first | exact Or.inr ⟨_, rfl⟩ | exact va_rf_or _ | exact Or.inl rfl) rfl ?_
  refine x_aload_n C D_X2_enter_0.2.2.2.2.1 rfl rfl (by first | exact Or.inr ⟨_, rfl⟩ | exact va_rf_or _ | exact Or.inl rfl) ?_
  refine x_dup C D_X2_enter_0.2.2.2.2.2.1 (by first | rfl | exact x_crf _) ?_
  refine x_getI C (ci := 4) (k0 := 3) hz.1 (by decide) rfl (by decide) in_X5 k_113 rfl rfl D_X2_enter_0.2.2.2.2.2.2.1 ?_
  refine x_eqi _ (show I2 t 3 = nI lv by rw [i2 t hne.1]; exact hlv) ?_
  refine x_iconst C (v := nI 1) D_X2_enter_0.2.2.2.2.2.2.2.1 (by decide +kernel) ?_
  refine x_iadd C D_X2_enter_0.2.2.2.2.2.2.2.2.1 ?_
  refine x_eqi _ (nI_add _ _) ?_
  refine x_putI C (ci := 4) (k0 := 3) hz.1 (by decide) rfl (by decide) in_X5 k_113 rfl tyX5 tyX5_ok nmX5 rfl (by rfl) rfl rfl rfl D_X2_enter_0.2.2.2.2.2.2.2.2.2.1 (fun I3 eI3 => ?_)
  refine x_aload_n C D_X2_enter_0.2.2.2.2.2.2.2.2.2.2.1 rfl rfl (by first | exact Or.inr ⟨_, rfl⟩ | exact va_rf_or _ | exact Or.inl rfl) ?_
  refine x_ifnull C 26 D_X2_enter_0.2.2.2.2.2.2.2.2.2.2.2 (by decide) (fun e_17 => ?_) (fun q9 e_17 => ?_)
  · skip
    exact absurd e_17 (by simp)
    --end
  · skip
    obtain rfl : q0 = q9 := Option.some.inj e_17
    refine x_aload_n C D_X2_enter_1.1 rfl rfl (by first | exact Or.inr ⟨_, rfl⟩ | exact va_rf_or _ | exact Or.inl rfl) ?_
    refine x_iconst C (v := nI 1) D_X2_enter_1.2.1 (by decide +kernel) ?_
    refine x_putI C (ci := 2) (k0 := 1) hq03 (by decide) rfl (by decide) in_X3 k_614 rfl tyX3 tyX3_ok nmX3 rfl (by rfl) rfl rfl rfl D_X2_enter_1.2.2.1 (fun I4 eI4 => ?_)
    have i4 : ∀ q j, q ≠ pq → ¬ (q = t ∧ j = 3) → ¬ (q = q0 ∧ j = 1) → I4 q j = I q j := fun q j h1 h2 h3 => by
      have e3 : I3 q j = I q j := by
        rw [eI3]
        by_cases hqq : q = t
        · subst hqq; rw [x_u2_j _ _ (fun e => h2 ⟨rfl, e⟩), i2 q h1]
        · rw [x_u2_a _ _ hqq, i2 q h1]
      rw [eI4]
      by_cases hqt : q = q0
      · subst hqt; rw [x_u2_j _ _ (fun e => h3 ⟨rfl, e⟩), e3]
      · rw [x_u2_a _ _ hqt, e3]
    refine ret _ _ _ _ _ rfl D_X2_enter_1.2.2.2.1 (Nat.le_of_ble_eq_true rfl) (Nat.le_of_ble_eq_true rfl) ?_
    refine ⟨I4, _, rfl, ?_, ?_, ?_, ?_, ?_, ?_⟩
    · exact hL.congr (fun q hq => by have h7 := hz.nn (hN q hq).1; rw [i4 q 0 h7.2.1 (fun e => h7.1 e.1) (fun e => by omega), i4 q 2 h7.2.1 (fun e => h7.1 e.1) (fun e => by omega)]; exact ⟨rfl, rfl⟩) (fun q h1 _ => x_up_n _ _ h1)
    · exact fun q h0 hA1 h1 h2 h3 h4 h5 => ⟨by funext j; exact i4 q j h2 (fun e => h1 e.1) (fun e => hA1 (by rw [e.1]; exact hq0A)), x_up_n _ _ h3⟩
    · intro q hq
      have h7 := hz.nn (hN q hq).1
      refine ⟨i4 q 0 h7.2.1 (fun e => h7.1 e.1) (fun e => by omega), ?_⟩
      by_cases hqq : q = q0
      · subst hqq; rw [if_pos rfl, eI4, x_u2_s]
      · rw [if_neg hqq]; exact i4 q 1 h7.2.1 (fun e => h7.1 e.1) (fun e => hqq e.1)
    · rw [eI4, x_u2_a _ _ h8.1.symm, eI3, x_u2_s]
    · exact i4 t 4 hne.1 (fun e => by omega) (fun e => h8.1 e.1.symm)
    · exact i4 t 5 hne.1 (fun e => by omega) (fun e => h8.1 e.1.symm)
abbrev rm_X2_enterN_5 : Room := { frames := 45, cells := 1, slots := 5, locals := 1052 }
theorem hd_X5_depthToRebuild : yX5_depthToRebuild.cls ≠ "java/lang/invoke/MethodHandle" ∧ yX5_depthToRebuild.cls ≠ "java/lang/invoke/VarHandle" ∧ (parseMethodDescriptor yX5_depthToRebuild.desc).map (fun d => d.parameters.length) = some 1 := by decide +kernel
theorem hu_X5_depthToRebuild : "ScapegoatSpur$LazyTree" ≠ "java/lang/invoke/MethodHandle" ∧ "ScapegoatSpur$LazyTree" ≠ "java/lang/invoke/VarHandle" ∧ (parseMethodDescriptor "(LScapegoatSpur$NodeRow;)I").map (fun d => d.parameters.length) = some 1 := by decide +kernel
set_option maxHeartbeats 4000000 in
set_option maxRecDepth 100000 in
theorem c_X2_enterN_5 (l : Launch) (G : xG) {K N : Nat → Nat} {I : Nat → Nat → Int32} {Q : Nat → Nat → Option Nat} {J : Nat → Nat → Int64} (t pq pn rw rn cap : Nat) (c lv : Nat) (A : Tr) (cd : Nat → Nat) (hL : LTI cv5 10000 K N I Q t 5 pq pn rw rn cap cd A) (hA : ht A < 32) (hc : c < 10000) (hf : sfind od5 cd c A 0 = none) (hnew : ∀ a ∈ ino A, cd a ≠ c) (hcap : sz A + 1 ≤ cap) (hlv : I t 3 = nI lv) : XM l yX2_enter cX2_enter 4 none rm_X2_enterN_5 G Rv [.ref t, .int (cv5 c)] (K, N, I, Q, J) (fun _ S1 => ∃ v K1 I1 Q1, S1 = (K1, N, I1, Q1, J) ∧ K v = 0 ∧ K1 = x_up K v 3 ∧ LTI cv5 10000 K1 N I1 Q1 t 5 pq pn rw rn cap (x_up cd v c) (rebt od5 (x_up cd v c) c (insA od5 cd c v A 0) (rdep5 (x_up cd v c) c (insA od5 cd c v A 0) (spath od5 cd c A 0).length)) ∧ FRL K t pq pn rw rn (ino A) I I1 Q Q1 ∧ (∀ q ∈ ino A, I1 q 0 = I q 0 ∧ I1 q 1 = I q 1) ∧ I1 v 1 = nI 1 ∧ I1 t 3 = nI (lv + 1) ∧ I1 t 4 = I t 4 + nI (rebw od5 (x_up cd v c) c (insA od5 cd c v A 0) (rdep5 (x_up cd v c) c (insA od5 cd c v A 0) (spath od5 cd c A 0).length)) ∧ I1 t 5 = I t 5) := by
  refine x_metv (lv := [_, _, _, _]) (by decide +kernel) (x_cc (by first | rfl | exact x_crf _) (x_cc (by first | rfl | exact x_crf _) x_cn)) (Nat.le_of_ble_eq_true rfl) rfl ?_
  intro pP eE sS mM aA bB hH cC Z C hini ret
  have hz := hL.1
  have hT := hL.2.1
  have hW := hL.2.2.1
  have hnA := hL.2.2.2.1
  have hN := hL.2.2.2.2.1
  have hinj := hL.2.2.2.2.2.1
  have hszc := hL.2.2.2.2.2.2.1
  have hc256 := hL.2.2.2.2.2.2.2
  have hne := hz.ne
  refine x_aload_n C D_X2_enter_0.1 rfl rfl (by first | exact Or.inr ⟨_, rfl⟩ | exact va_rf_or _ | exact Or.inl rfl) ?_
  refine x_iload_n C D_X2_enter_0.2.1 rfl rfl ?_
  refine x_callUq C (x := ⟨"ScapegoatSpur$LazyTree", "find", "(I)LScapegoatSpur$Node;"⟩) (y := yX2_find) (owner := "ScapegoatSpur$LazyTree") (c_X2_find_5 l G t pq pn rw rn cap c A cd hz hT hN (by omega) hc) (ci := 4) hz.1 (by decide) rfl k_210 k_212 k_214 k_211 k_61 k_215 rfl hu_X2_find ⟨(Nat.le_of_ble_eq_true rfl), (Nat.le_of_ble_eq_true rfl)⟩ rfl (by first | exact Nat.le_of_ble_eq_true rfl | simp [x_crf, Value.category]) rfl rfl D_X2_enter_0.2.2.1 ⟨(Nat.le_of_ble_eq_true rfl), (Nat.le_of_ble_eq_true rfl)⟩ (fun r_2 S_2 h_2 => ?_)
  obtain ⟨hr, g, rfl, hsg⟩ := h_2
  rw [hf] at hr
  subst hr
  obtain ⟨I2, eI2⟩ : ∃ I2, I2 = x_u2 I pq 1 (nI (spath od5 cd c A 0).length) := ⟨_, rfl⟩
  rw [← eI2]
  have i2 : ∀ q, q ≠ pq → I2 q = I q := fun q hq => by rw [eI2, x_u2_a _ _ hq]
  refine x_astore_n C (lv' := [_, _, _, _]) D_X2_enter_0.2.2.2.1 rfl (Nat.le_of_ble_eq_true rfl) (by first | rfl | exact x_ok_q rfl) (by first | exact Or.inr ⟨_, rfl⟩ | exact va_rf_or _ | exact Or.inl rfl) rfl ?_
  refine x_aload_n C D_X2_enter_0.2.2.2.2.1 rfl rfl (by first | exact Or.inr ⟨_, rfl⟩ | exact va_rf_or _ | exact Or.inl rfl) ?_
  refine x_dup C D_X2_enter_0.2.2.2.2.2.1 (by first | rfl | exact x_crf _) ?_
  refine x_getI C (ci := 4) (k0 := 3) hz.1 (by decide) rfl (by decide) in_X5 k_113 rfl rfl D_X2_enter_0.2.2.2.2.2.2.1 ?_
  refine x_eqi _ (show I2 t 3 = nI lv by rw [i2 t hne.1]; exact hlv) ?_
  refine x_iconst C (v := nI 1) D_X2_enter_0.2.2.2.2.2.2.2.1 (by decide +kernel) ?_
  refine x_iadd C D_X2_enter_0.2.2.2.2.2.2.2.2.1 ?_
  refine x_eqi _ (nI_add _ _) ?_
  refine x_putI C (ci := 4) (k0 := 3) hz.1 (by decide) rfl (by decide) in_X5 k_113 rfl tyX5 tyX5_ok nmX5 rfl (by rfl) rfl rfl rfl D_X2_enter_0.2.2.2.2.2.2.2.2.2.1 (fun I3 eI3 => ?_)
  have i3 : ∀ q, q ≠ pq → q ≠ t → I3 q = I q := fun q h1 h2 => by rw [eI3, x_u2_a _ _ h2, i2 q h1]
  have i3t : ∀ j, j ≠ 3 → I3 t j = I t j := fun j hj => by rw [eI3, x_u2_j _ _ hj, i2 t hne.1]
  have hL3 : LTI cv5 10000 K N I3 (x_up Q pn g) t 5 pq pn rw rn cap cd A := hL.congr (fun q hq => by have h7 := hz.nn (hN q hq).1; rw [i3 q h7.2.1 h7.1]; exact ⟨rfl, rfl⟩) (fun q h1 _ => x_up_n _ _ h1)
  have hpl3 : I3 pq 1 = nI (spath od5 cd c A 0).length := by rw [eI3, x_u2_a _ _ hne.1.symm, eI2, x_u2_s]
  refine x_aload_n C D_X2_enter_0.2.2.2.2.2.2.2.2.2.2.1 rfl rfl (by first | exact Or.inr ⟨_, rfl⟩ | exact va_rf_or _ | exact Or.inl rfl) ?_
  refine x_ifnull C 26 D_X2_enter_0.2.2.2.2.2.2.2.2.2.2.2 (by decide) (fun e_17 => ?_) (fun q_17 e_17 => ?_)
  · skip
    refine x_aload_n C D_X2_enter_1.2.2.2.2.1 rfl rfl (by first | exact Or.inr ⟨_, rfl⟩ | exact va_rf_or _ | exact Or.inl rfl) ?_
    refine x_iload_n C D_X2_enter_1.2.2.2.2.2.1 rfl rfl ?_
    refine x_callUv C (x := ⟨"ScapegoatSpur$LazyTree", "addLeaf", "(I)V"⟩) (y := yX2_addLeaf) (owner := "ScapegoatSpur$LazyTree") (c_X2_addLeaf_5 l G t pq pn rw rn cap c A cd hL3.1 hL3.2.1 hL3.2.2.1 hnA hL3.2.2.2.2.1 (by omega) hc hf hpl3 (by rw [x_up_s]; exact hsg)) (ci := 4) hz.1 (by decide) rfl k_598 k_3 k_5 k_600 k_61 k_601 rfl hu_X2_addLeaf ⟨(Nat.le_of_ble_eq_true rfl), (Nat.le_of_ble_eq_true rfl)⟩ rfl (by first | exact Nat.le_of_ble_eq_true rfl | simp [x_crf, Value.category]) rfl rfl D_X2_enter_1.2.2.2.2.2.2.1 ⟨(Nat.le_of_ble_eq_true rfl), (Nat.le_of_ble_eq_true rfl)⟩ (fun _ S_28 h_28 => ?_)
    obtain ⟨v, K1, I5, Q5, rfl, fv, eK1, b1, b2, b3, b4, b5, b6, b7, b8, b9, b10, b11⟩ := h_28
    have hLB : LTI cv5 10000 K1 N I5 Q5 t 5 pq pn rw rn cap (x_up cd v c) (insA od5 cd c v A 0) := LTI.ins hL3 hcap hc hnew fv eK1 b1 b2 b3 b6 b8 b9
    obtain ⟨hpB, hsB⟩ := ins_path (od := od5) (cd := cd) (cd' := (x_up cd v c)) (c := c) (v := v) (x_up_s _ _ _) A 0 hf (fun a ha => x_up_n _ _ (fun e => by have h7 := (hN a ha).1; rw [e, fv] at h7; omega))
    have hlB : (spath od5 cd c A 0 ++ [v]).length = (spath od5 cd c A 0).length + 1 := by simp
    have hrowB : RowOK K1 N I5 Q5 pq pn 40 (spath od5 cd c A 0 ++ [v]).length := hLB.1.2.2.2.2.1.ok (by rw [hlB]; exact b10) (by rw [hlB]; have := spath_len od5 cd c A 0; omega)
    have hsgB : SEG (Q5 pn) 0 (spath od5 cd c A 0 ++ [v]) := b11
    have hpth : ∀ j q, (spath od5 cd c A 0 ++ [v])[j]? = some q → K1 q = 3 ∧ I5 q 2 = nI (sz (subp od5 (x_up cd v c) c (insA od5 cd c v A 0) 0 j)) ∧ sz (subp od5 (x_up cd v c) c (insA od5 cd c v A 0) 0 j) < 1000 ∧ wOf I5 (Q5 q 3) = nI (sz (ltr (subp od5 (x_up cd v c) c (insA od5 cd c v A 0) 0 j))) ∧ wOf I5 (Q5 q 4) = nI (sz (rtr (subp od5 (x_up cd v c) c (insA od5 cd c v A 0) 0 j))) ∧ (∀ a, Q5 q 3 = some a → K1 a = 3) ∧ (∀ a, Q5 q 4 = some a → K1 a = 3) ∧ sz (ltr (subp od5 (x_up cd v c) c (insA od5 cd c v A 0) 0 j)) < 1000 ∧ sz (rtr (subp od5 (x_up cd v c) c (insA od5 cd c v A 0) 0 j)) < 1000 := by
      intro j q hj
      have hjl : j < (spath od5 (x_up cd v c) c (insA od5 cd c v A 0) 0).length := by rw [hpB]; exact (List.getElem?_eq_some_iff.mp hj).1
      obtain ⟨q1, l1, r1, f1, f2, f3, f4, f5, f6, f7, f8⟩ := subp_facts (od := od5) (cd := (x_up cd v c)) (c := c) (insA od5 cd c v A 0) 0 j _ hLB.2.1 hLB.2.2.1 hLB.2.2.2.1 hjl
      rw [hpB, hj] at f1
      cases f1
      have h7 := hLB.2.2.2.2.2.2
      obtain ⟨-, f9, f10, f11⟩ := f3
      obtain ⟨g1, g2, g3⟩ := f4
      simp only [sz] at f7
      rw [f2]
      simp only [ltr, rtr, sz]
      exact ⟨f9, g1, by omega, wOf_TP f10 g2, wOf_TP f11 g3, fun a ha => by rw [ha] at f10; exact f10.some.choose_spec.choose_spec.2.1, fun a ha => by rw [ha] at f11; exact f11.some.choose_spec.choose_spec.2.1, by omega, by omega⟩
    have k1 : ∀ q, K q ≠ 0 → K1 q = K q := fun q hq => by rw [eK1, x_up_n _ _ (fun e => hq (by rw [e]; exact fv))]
    have vne : ∀ q, K q ≠ 0 → q ≠ v := fun q hq e => hq (by rw [e]; exact fv)
    have hfr5 : FRL K t pq pn rw rn (ino A) I I5 Q Q5 := fun q h0 hA1 h1 h2 h3 h4 h5 => ⟨by rw [b5 q hA1 (vne q h0) h2, i3 q h2 h1], by rw [b8 q hA1 (vne q h0) h3 h1, x_up_n _ _ h3]⟩
    have hal5 : ∀ q ∈ ino A, I5 q 0 = I q 0 ∧ I5 q 1 = I q 1 := fun q hq => by
      have h7 := hz.nn (hN q hq).1
      have h9 := vne q (by rw [(hN q hq).1]; omega)
      rw [b6 q 0 h9 h7.2.1 (by omega), b6 q 1 h9 h7.2.1 (by omega), i3 q h7.2.1 h7.1]; exact ⟨rfl, rfl⟩
    have htv : t ≠ v := vne t (by have := hz.1; omega)
    have i5t : ∀ j, j ≠ 2 → I5 t j = I3 t j := fun j hj => b6 t j htv hne.1 hj
    refine x_aload_n C D_X2_enter_1.2.2.2.2.2.2.2.1 rfl rfl (by first | exact Or.inr ⟨_, rfl⟩ | exact va_rf_or _ | exact Or.inl rfl) ?_
    refine x_aload_n C D_X2_enter_1.2.2.2.2.2.2.2.2.1 rfl rfl (by first | exact Or.inr ⟨_, rfl⟩ | exact va_rf_or _ | exact Or.inl rfl) ?_
    refine x_getQ C (ci := 4) (k0 := 0) hLB.1.1 (by decide) rfl (by decide) in_X5 k_110 rfl rfl D_X2_enter_1.2.2.2.2.2.2.2.2.2.1 ?_
    refine x_eqr hLB.1.2.2.1 ?_
    refine x_callAi C (x := ⟨"ScapegoatSpur$LazyTree", "depthToRebuild", "(LScapegoatSpur$NodeRow;)I"⟩) (y := yX5_depthToRebuild) (owner := "ScapegoatSpur$LazyTree") (c_X5_depthToRebuild l G t pq pn (spath od5 cd c A 0).length (spath od5 cd c A 0 ++ [v]) (fun j => sz (subp od5 (x_up cd v c) c (insA od5 cd c v A 0) 0 j)) (fun j => sz (ltr (subp od5 (x_up cd v c) c (insA od5 cd c v A 0) 0 j))) (fun j => sz (rtr (subp od5 (x_up cd v c) c (insA od5 cd c v A 0) 0 j))) (hLB.1.1) hrowB hsgB (by simp) (fun j q hj => by obtain ⟨h1, h2, h3, h4, h5, h6, h7, h8, h9⟩ := hpth j q hj; exact ⟨h1, h6, h7, h2, h4, h5, h3, h8, h9⟩)) (ci := 4) hLB.1.1 (by decide) rfl k_637 k_639 k_648 k_649 k_66 k_650 C.2.2.2.2.2.1.2.2.1 hu_X5_depthToRebuild ⟨(Nat.le_of_ble_eq_true rfl), (Nat.le_of_ble_eq_true rfl)⟩ rfl (by first | exact Nat.le_of_ble_eq_true rfl | simp [x_crf, Value.category]) rfl rfl D_X2_enter_1.2.2.2.2.2.2.2.2.2.2.1 ⟨(Nat.le_of_ble_eq_true rfl), (Nat.le_of_ble_eq_true rfl)⟩ (fun r_36 S_36 h_36 => ?_)
    obtain ⟨rfl, rfl⟩ := h_36
    refine x_eqi _ (show _ = oI (rdep5 (x_up cd v c) c (insA od5 cd c v A 0) (spath od5 cd c A 0).length) from rfl) ?_
    obtain ⟨rd, erd⟩ : ∃ rd, rd = rdep5 (x_up cd v c) c (insA od5 cd c v A 0) (spath od5 cd c A 0).length := ⟨_, rfl⟩
    rw [← erd]
    refine x_istore_n C (lv' := [_, _, _, _]) D_X2_enter_1.2.2.2.2.2.2.2.2.2.2.2 rfl (Nat.le_of_ble_eq_true rfl) (by first | rfl | exact x_ok_q rfl) rfl ?_
    refine x_iload_n C D_X2_enter_2.1 rfl rfl ?_
    refine x_iconst C (v := (-1)) D_X2_enter_2.2.1 (by decide +kernel) ?_
    refine x_icmp_eq C 50 D_X2_enter_2.2.2.1 (by decide) (fun c_42 => ?_) (fun c_42 => ?_)
    · skip
      have hrd : rd = none := oI_none c_42 (fun k0 hk0 => by have h7 := rdep5_lt (erd ▸ hk0); have := spath_len od5 cd c A 0; omega)
      refine ret _ _ _ _ _ rfl D_X2_enter_2.2.2.2.2.2.2 (Nat.le_of_ble_eq_true rfl) (Nat.le_of_ble_eq_true rfl) ?_
      refine ⟨v, K1, I5, Q5, rfl, fv, eK1, ?_, hfr5, hal5, b4, ?_, ?_, ?_⟩
      · rw [← erd, hrd]; exact hLB
      · rw [i5t 3 (by omega), eI3, x_u2_s]
      · rw [← erd, hrd, i5t 4 (by omega), i3t 4 (by omega)]; simp [rebw, nI_0]
      · rw [i5t 5 (by omega), i3t 5 (by omega)]
    · skip
      obtain ⟨k0, hrd⟩ := oI_some c_42
      have hk0l := rdep5_lt (erd ▸ hrd)
      rw [hrd]
      refine x_aload_n C D_X2_enter_2.2.2.2.1 rfl rfl (by first | exact Or.inr ⟨_, rfl⟩ | exact va_rf_or _ | exact Or.inl rfl) ?_
      refine x_iload_n C D_X2_enter_2.2.2.2.2.1 rfl rfl ?_
      refine x_callUv C (x := ⟨"ScapegoatSpur$LazyTree", "rebuild", "(I)V"⟩) (y := yX2_rebuild) (owner := "ScapegoatSpur$LazyTree") (c_X2_rebuild_5 l G t pq pn rw rn cap c k0 (insA od5 cd c v A 0) (x_up cd v c) hLB (by have := insA_ht (od := od5) (cd := cd) (c := c) (v := v) A 0; omega) (by rw [hpB, hlB]; exact b10) (by rw [hpB]; exact hsgB) (by rw [hpB, hlB]; exact hk0l)) (ci := 4) hLB.1.1 (by decide) rfl k_658 k_6 k_8 k_660 k_61 k_661 rfl hu_X2_rebuild ⟨(Nat.le_of_ble_eq_true rfl), (Nat.le_of_ble_eq_true rfl)⟩ rfl (by first | exact Nat.le_of_ble_eq_true rfl | simp [x_crf, Value.category]) rfl rfl D_X2_enter_2.2.2.2.2.2.1 ⟨(Nat.le_of_ble_eq_true rfl), (Nat.le_of_ble_eq_true rfl)⟩ (fun _ S_47 h_47 => ?_)
      obtain ⟨I6, Q6, rfl, hL6, hfr6, hal6, d3, d4, d5⟩ := h_47
      refine ret _ _ _ _ _ rfl D_X2_enter_2.2.2.2.2.2.2 (Nat.le_of_ble_eq_true rfl) (Nat.le_of_ble_eq_true rfl) ?_
      refine ⟨v, K1, I6, Q6, rfl, fv, eK1, ?_, ?_, ?_, ?_, ?_, ?_, ?_⟩
      · rw [← erd, hrd]; exact hL6
      · intro q h0 hA1 h1 h2 h3 h4 h5
        have h9 := vne q h0
        have hqB : q ∉ ino (insA od5 cd c v A 0) := fun hm => ((insA_mem A 0 q).mp hm).elim h9 hA1
        have h6 := hfr6 q (by rw [k1 q h0]; exact h0) hqB h1 h2 h3 h4 h5
        have h7 := hfr5 q h0 hA1 h1 h2 h3 h4 h5
        exact ⟨h6.1.trans h7.1, h6.2.trans h7.2⟩
      · intro q hq
        have h6 := hal6 q ((insA_mem A 0 q).mpr (Or.inr hq))
        have h7 := hal5 q hq
        exact ⟨h6.1.trans h7.1, h6.2.trans h7.2⟩
      · rw [(hal6 v ((insA_mem A 0 v).mpr (Or.inl rfl))).2]; exact b4
      · rw [d3, i5t 3 (by omega), eI3, x_u2_s]
      · rw [d4, ← erd, hrd, i5t 4 (by omega), i3t 4 (by omega)]; rfl
      · rw [d5, i5t 5 (by omega), i3t 5 (by omega)]
  · skip
    exact absurd e_17 (by simp)
    --end
