abbrev rm_X2_dropDead_1 : Room := { frames := 44, cells := 0, slots := 0, locals := 1028 }
set_option maxHeartbeats 4000000 in
set_option maxRecDepth 100000 in
theorem c_X2_dropDead_1 (l : Launch) (G : xG) {K N : Nat → Nat} {I : Nat → Nat → Int32} {Q : Nat → Nat → Option Nat} {J : Nat → Nat → Int64} (t pq pn rw rn cap : Nat) (A : Tr) (cd : Nat → Nat) (hL : LTI cv1 1999 K N I Q t 2 pq pn rw rn cap cd A) (hA : ht A ≤ 40) : XM l yX2_dropDead cX2_dropDead 1 none rm_X2_dropDead_1 G Rv [.ref t] (K, N, I, Q, J) (fun _ S1 => ∃ I1 Q1, S1 = (K, N, I1, Q1, J) ∧ LTI cv1 1999 K N I1 Q1 t 2 pq pn rw rn cap cd (kdl od1 cd 8 0 (apd false I A)) ∧ FRL K t pq pn rw rn (ino A) I I1 Q Q1 ∧ (∀ q ∈ ino A, I1 q 0 = I q 0 ∧ I1 q 1 = I q 1) ∧ I1 t 3 = I t 3 ∧ I1 t 4 = I t 4 ∧ I1 t 5 = I t 5 + nI 1) := by
  refine x_metv (lv := [_]) (by decide +kernel) (x_cc (by first | rfl | exact x_crf _) x_cn) (Nat.le_of_ble_eq_true rfl) rfl ?_
  intro pP eE sS mM aA bB hH cC Z C hini ret
  have hz := hL.1
  have hT := hL.2.1
  have hW := hL.2.2.1
  have hnA := hL.2.2.2.1
  have hN := hL.2.2.2.2.1
  have hinj := hL.2.2.2.2.2.1
  have hszc := hL.2.2.2.2.2.2.1
  have hc256 := hL.2.2.2.2.2.2.2
  have hne := hz.ne
  obtain ⟨ls, els⟩ : ∃ ls, ls = apd false I A := ⟨_, rfl⟩
  have hll : ls.length ≤ sz A := by rw [els]; exact apd_le
  have hlm : ∀ a ∈ ls, a ∈ ino A := fun a ha => by rw [els] at ha; exact apd_mem ha
  have hln : ls.Nodup := by rw [els]; exact apd_nodup hnA
  refine x_aload_n C D_X2_dropDead_0.1 rfl rfl (by first | exact Or.inr ⟨_, rfl⟩ | exact va_rf_or _ | exact Or.inl rfl) ?_
  refine x_aload_n C D_X2_dropDead_0.2.1 rfl rfl (by first | exact Or.inr ⟨_, rfl⟩ | exact va_rf_or _ | exact Or.inl rfl) ?_
  refine x_getQ C (ci := 1) (k0 := 2) hz.1 (by decide) rfl (by decide) in_X1 k_112 rfl rfl D_X2_dropDead_0.2.2.1 ?_
  refine x_eqq _ (rfl : Q t 2 = Q t 2) ?_
  refine x_iconst C (v := nI 0) D_X2_dropDead_0.2.2.2.1 (by decide +kernel) ?_
  have h65 := (rfl : nI 0 = xb false)
  rw [h65]
  refine x_callUv C (x := ⟨"ScapegoatSpur$LazyTree", "gather", "(LScapegoatSpur$Node;Z)V"⟩) (y := yX2_gather) (owner := "ScapegoatSpur$LazyTree") (c_X2_gather_1 l G t pq pn rw rn cap A false _ hz hT hA (by rw [← els]; omega)) (ci := 1) hz.1 (by decide) rfl k_254 k_12 k_13 k_256 k_61 k_257 rfl hu_X2_gather ⟨(Nat.le_of_ble_eq_true rfl), (Nat.le_of_ble_eq_true rfl)⟩ rfl (by first | exact Nat.le_of_ble_eq_true rfl | simp [x_crf, Value.category]) rfl rfl D_X2_dropDead_0.2.2.2.2.1 ⟨(Nat.le_of_ble_eq_true rfl), (Nat.le_of_ble_eq_true rfl)⟩ (fun _ S_6 h_6 => ?_)
  obtain ⟨g, rfl, hs⟩ := h_6
  rw [← els] at hs ⊢
  refine x_aload_n C D_X2_dropDead_0.2.2.2.2.2.1 rfl rfl (by first | exact Or.inr ⟨_, rfl⟩ | exact va_rf_or _ | exact Or.inl rfl) ?_
  refine x_aload_n C D_X2_dropDead_0.2.2.2.2.2.2.1 rfl rfl (by first | exact Or.inr ⟨_, rfl⟩ | exact va_rf_or _ | exact Or.inl rfl) ?_
  refine x_iconst C (v := nI 0) D_X2_dropDead_0.2.2.2.2.2.2.2.1 (by decide +kernel) ?_
  refine x_aload_n C D_X2_dropDead_0.2.2.2.2.2.2.2.2.1 rfl rfl (by first | exact Or.inr ⟨_, rfl⟩ | exact va_rf_or _ | exact Or.inl rfl) ?_
  refine x_getQ C (ci := 1) (k0 := 1) hz.1 (by decide) rfl (by decide) in_X1 k_111 rfl rfl D_X2_dropDead_0.2.2.2.2.2.2.2.2.2.1 ?_
  refine x_eqr (hz.row g).2.2.2.1 ?_
  refine x_callVi C (y := yX4_length) (c_X4_length l G rw hz.2.2.2.2.2.1.1) (ci := 3) hz.2.2.2.2.2.1.1 (by decide) rfl rfl k_220 k_221 k_222 k_63 k_223 hd_X4_length ⟨(Nat.le_of_ble_eq_true rfl), (Nat.le_of_ble_eq_true rfl)⟩ rfl (by first | exact Nat.le_of_ble_eq_true rfl | simp [x_crf, Value.category]) rfl rfl D_X2_dropDead_0.2.2.2.2.2.2.2.2.2.2.1 ⟨(Nat.le_of_ble_eq_true rfl), (Nat.le_of_ble_eq_true rfl)⟩ (fun r_16 S_16 h_16 => ?_)
  obtain ⟨rfl, rfl⟩ := h_16
  refine x_eqi _ (x_u2_s _ _ _ _) ?_
  refine x_iconst C (v := nI 0) D_X2_dropDead_0.2.2.2.2.2.2.2.2.2.2.2 (by decide +kernel) ?_
  refine x_callSq C (y := yX2_layOut) (c_X2_layOut_1 l G t pq pn rw rn cap ls.length cd (by omega) 8 ls 0 0 ls.length (x_u2 I rw 1 (nI ls.length)) (x_up Q rn g) (hz.row g) (x_u2_s _ _ _ _) (Nat.zero_add _).symm (Nat.le_refl _) (by omega) (by omega) hln (fun q hq => by have h9 := hN q (hlm q hq); have h8 := hz.nn h9.1; exact ⟨h9.1, by rw [x_u2_a _ _ h8.2.2.2.1]; exact h9.2.1, h9.2.2⟩) (fun u hu v hv => hinj u (hlm u hu) v (hlm v hv)) (by rw [x_up_s]; exact hs)) k_261 k_262 k_61 k_263 hd_X2_layOut ⟨(Nat.le_of_ble_eq_true rfl), (Nat.le_of_ble_eq_true rfl)⟩ rfl (by first | exact Nat.le_of_ble_eq_true rfl | simp [x_crf, Value.category]) rfl rfl D_X2_dropDead_1.1 ⟨(Nat.le_of_ble_eq_true rfl), (Nat.le_of_ble_eq_true rfl)⟩ (fun r_20 S_20 h_20 => ?_)
  obtain ⟨I3, Q3, rfl, hlay⟩ := h_20
  refine x_putQ C (ci := 1) (k0 := 2) hz.1 (by decide) rfl (by decide) in_X1 k_112 rfl tyX1 tyX1_ok nmX1 rfl (by first | exact rfl | exact (rfl : _ = va_rf (some _)) | exact (rfl : _ = va_rf none)) (by rfl) (by first | rfl | exact x_narq _ _) (by first | rfl | exact x_fitq _ _) rfl D_X2_dropDead_1.2.1 (fun Q4 eQ4 => ?_)
  refine x_aload_n C D_X2_dropDead_1.2.2.1 rfl rfl (by first | exact Or.inr ⟨_, rfl⟩ | exact va_rf_or _ | exact Or.inl rfl) ?_
  refine x_dup C D_X2_dropDead_1.2.2.2.1 (by first | rfl | exact x_crf _) ?_
  refine x_getI C (ci := 1) (k0 := 5) hz.1 (by decide) rfl (by decide) in_X1 k_115 rfl rfl D_X2_dropDead_1.2.2.2.2.1 ?_
  refine x_iconst C (v := nI 1) D_X2_dropDead_1.2.2.2.2.2.1 (by decide +kernel) ?_
  refine x_iadd C D_X2_dropDead_1.2.2.2.2.2.2.1 ?_
  refine x_putI C (ci := 1) (k0 := 5) hz.1 (by decide) rfl (by decide) in_X1 k_115 rfl tyX1 tyX1_ok nmX1 rfl (by rfl) rfl rfl rfl D_X2_dropDead_1.2.2.2.2.2.2.2.1 (fun I4 eI4 => ?_)
  refine ret _ _ _ _ _ rfl D_X2_dropDead_1.2.2.2.2.2.2.2.2 (Nat.le_of_ble_eq_true rfl) (Nat.le_of_ble_eq_true rfl) ?_
  have hI1 : ∀ q, q ≠ t → q ≠ rw → x_u2 I rw 1 (nI ls.length) q = I q := fun q h1 h2 => x_u2_a _ _ h2
  have hp8 : (ino (kdl od1 cd 8 0 ls)).Perm ls := kdl_perm 8 0 _ (by omega)
  have hfin := LTI.drop hL hlm hp8 hln hll hlay rfl hI1 eQ4
  have hi4 : ∀ q, q ≠ t → I4 q = I3 q := fun q hq => by rw [eI4, x_u2_a _ _ hq]
  have hnt : ∀ q ∈ ino A, q ≠ t := fun q hq => (hz.nn (hN q hq).1).1
  refine ⟨I4, Q4, rfl, ?_, ?_, ?_, ?_, ?_, ?_⟩
  · rw [← els]
    refine hfin.congr (fun q hq => ?_) (fun q _ _ => rfl)
    rw [hi4 q (hnt q (hlm q (hp8.mem_iff.mp hq)))]; exact ⟨rfl, rfl⟩
  · intro q h0 hA1 h1 h2 h3 h4 h5
    have hs : q ∉ ls := fun h => hA1 (hlm q h)
    exact ⟨by rw [hi4 q h1, hlay.2.2.2.2.1 q hs, hI1 q h1 h4], by rw [eQ4, x_u2_a _ _ h1, hlay.2.2.1 q hs h5, x_up_n _ _ h5]⟩
  · intro q hq
    have h8 := hz.nn (hN q hq).1
    rw [hi4 q h8.1, hlay.2.2.2.2.2.1 q 0 (by omega), hlay.2.2.2.2.2.1 q 1 (by omega), hI1 q h8.1 h8.2.2.2.1]; exact ⟨rfl, rfl⟩
  · rw [eI4, x_u2_j _ _ (by omega), hlay.2.2.2.2.2.1 t 3 (by omega), x_u2_a _ _ hne.2.2.1]
  · rw [eI4, x_u2_j _ _ (by omega), hlay.2.2.2.2.2.1 t 4 (by omega), x_u2_a _ _ hne.2.2.1]
  · rw [eI4, x_u2_s, hlay.2.2.2.2.2.1 t 5 (by omega), x_u2_a _ _ hne.2.2.1]
abbrev rm_X2_retire_1 : Room := { frames := 45, cells := 0, slots := 0, locals := 1048 }
theorem hd_X2_dropDead : yX2_dropDead.cls ≠ "java/lang/invoke/MethodHandle" ∧ yX2_dropDead.cls ≠ "java/lang/invoke/VarHandle" ∧ (parseMethodDescriptor yX2_dropDead.desc).map (fun d => d.parameters.length) = some 0 := by decide +kernel
theorem hu_X2_dropDead : "ScapegoatSpur$LazyTree" ≠ "java/lang/invoke/MethodHandle" ∧ "ScapegoatSpur$LazyTree" ≠ "java/lang/invoke/VarHandle" ∧ (parseMethodDescriptor "()V").map (fun d => d.parameters.length) = some 0 := by decide +kernel
set_option maxHeartbeats 4000000 in
set_option maxRecDepth 100000 in
theorem c_X2_retire_1 (l : Launch) (G : xG) {K N : Nat → Nat} {I : Nat → Nat → Int32} {Q : Nat → Nat → Option Nat} {J : Nat → Nat → Int64} (t pq pn rw rn cap : Nat) (c q0 lv : Nat) (A : Tr) (cd : Nat → Nat) (hL : LTI cv1 1999 K N I Q t 2 pq pn rw rn cap cd A) (hA : ht A ≤ 40) (hc : c < 1999) (hf : sfind od1 cd c A 0 = some q0) (ha : alv I q0 = true) (hlv : I t 3 = nI (lv + 1)) (hle : lv < sz A) : XM l yX2_retire cX2_retire 3 none rm_X2_retire_1 G Rv [.ref t, .int (cv1 c)] (K, N, I, Q, J) (fun _ S1 => ∃ I1 Q1, S1 = (K, N, I1, Q1, J) ∧ LTI cv1 1999 K N I1 Q1 t 2 pq pn rw rn cap cd (if lv < sz A - lv then kdl od1 cd 8 0 (apd false I1 A) else A) ∧ FRL K t pq pn rw rn (ino A) I I1 Q Q1 ∧ (∀ q ∈ ino A, I1 q 0 = I q 0 ∧ I1 q 1 = if q = q0 then nI 0 else I q 1) ∧ I1 t 3 = nI lv ∧ I1 t 4 = I t 4 ∧ I1 t 5 = if lv < sz A - lv then I t 5 + nI 1 else I t 5) := by
  refine x_metv (lv := [_, _, _]) (by decide +kernel) (x_cc (by first | rfl | exact x_crf _) (x_cc (by first | rfl | exact x_crf _) x_cn)) (Nat.le_of_ble_eq_true rfl) rfl ?_
  intro pP eE sS mM aA bB hH cC Z C hini ret
  have hz := hL.1
  have hT := hL.2.1
  have hW := hL.2.2.1
  have hnA := hL.2.2.2.1
  have hN := hL.2.2.2.2.1
  have hinj := hL.2.2.2.2.2.1
  have hszc := hL.2.2.2.2.2.2.1
  have hc256 := hL.2.2.2.2.2.2.2
  have hne := hz.ne
  have hq0A : q0 ∈ ino A := sfind_mem _ _ _ _ _ _ hf
  have hq03 := (hN q0 hq0A).1
  have h8 := hz.nn hq03
  refine x_aload_n C D_X2_retire_0.1 rfl rfl (by first | exact Or.inr ⟨_, rfl⟩ | exact va_rf_or _ | exact Or.inl rfl) ?_
  refine x_iload_n C D_X2_retire_0.2.1 rfl rfl ?_
  refine x_callUq C (x := ⟨"ScapegoatSpur$LazyTree", "find", "(I)LScapegoatSpur$Node;"⟩) (y := yX2_find) (owner := "ScapegoatSpur$LazyTree") (c_X2_find_1 l G t pq pn rw rn cap c A cd hz hT hN hA hc) (ci := 1) hz.1 (by decide) rfl k_210 k_212 k_213 k_211 k_61 k_215 rfl hu_X2_find ⟨(Nat.le_of_ble_eq_true rfl), (Nat.le_of_ble_eq_true rfl)⟩ rfl (by first | exact Nat.le_of_ble_eq_true rfl | simp [x_crf, Value.category]) rfl rfl D_X2_retire_0.2.2.1 ⟨(Nat.le_of_ble_eq_true rfl), (Nat.le_of_ble_eq_true rfl)⟩ (fun r_2 S_2 h_2 => ?_)
  obtain ⟨hr, g, rfl, hsg⟩ := h_2
  rw [hf] at hr
  subst hr
  obtain ⟨I2, eI2⟩ : ∃ I2, I2 = x_u2 I pq 1 (nI (spath od1 cd c A 0).length) := ⟨_, rfl⟩
  rw [← eI2]
  have i2 : ∀ q, q ≠ pq → I2 q = I q := fun q hq => by rw [eI2, x_u2_a _ _ hq]
  have hq2t : x_up Q pn g t = Q t := x_up_n _ _ hne.2.1
  refine x_astore_n C (lv' := [_, _, _]) D_X2_retire_0.2.2.2.1 rfl (Nat.le_of_ble_eq_true rfl) (by first | rfl | exact x_ok_q rfl) (by first | exact Or.inr ⟨_, rfl⟩ | exact va_rf_or _ | exact Or.inl rfl) rfl ?_
  refine x_aload_n C D_X2_retire_0.2.2.2.2.1 rfl rfl (by first | exact Or.inr ⟨_, rfl⟩ | exact va_rf_or _ | exact Or.inl rfl) ?_
  refine x_ifnull C 17 D_X2_retire_0.2.2.2.2.2.1 (by decide) (fun e_7 => ?_) (fun q9 e_7 => ?_)
  · skip
    exact absurd e_7 (by simp)
    --end
  · skip
    obtain rfl : q0 = q9 := Option.some.inj e_7
    refine x_aload_n C D_X2_retire_0.2.2.2.2.2.2.1 rfl rfl (by first | exact Or.inr ⟨_, rfl⟩ | exact va_rf_or _ | exact Or.inl rfl) ?_
    refine x_getI C (ci := 2) (k0 := 1) hq03 (by decide) rfl (by decide) in_X3 k_614 rfl rfl D_X2_retire_0.2.2.2.2.2.2.2.1 ?_
    refine x_eqi _ (show I2 q0 1 = I q0 1 by rw [i2 q0 h8.2.1]) ?_
    refine x_if_ne C 18 D_X2_retire_0.2.2.2.2.2.2.2.2.1 (by decide) (fun c_14 => ?_) (fun c_14 => ?_)
    · skip
      refine x_aload_n C D_X2_retire_0.2.2.2.2.2.2.2.2.2.2.1 rfl rfl (by first | exact Or.inr ⟨_, rfl⟩ | exact va_rf_or _ | exact Or.inl rfl) ?_
      refine x_iconst C (v := nI 0) D_X2_retire_0.2.2.2.2.2.2.2.2.2.2.2 (by decide +kernel) ?_
      refine x_putI C (ci := 2) (k0 := 1) hq03 (by decide) rfl (by decide) in_X3 k_614 rfl tyX3 tyX3_ok nmX3 rfl (by rfl) rfl rfl rfl D_X2_retire_1.1 (fun I3 eI3 => ?_)
      refine x_aload_n C D_X2_retire_1.2.1 rfl rfl (by first | exact Or.inr ⟨_, rfl⟩ | exact va_rf_or _ | exact Or.inl rfl) ?_
      refine x_dup C D_X2_retire_1.2.2.1 (by first | rfl | exact x_crf _) ?_
      refine x_getI C (ci := 1) (k0 := 3) hz.1 (by decide) rfl (by decide) in_X1 k_113 rfl rfl D_X2_retire_1.2.2.2.1 ?_
      refine x_eqi _ (show I3 t 3 = nI (lv + 1) by rw [eI3, x_u2_a _ _ h8.1.symm, i2 t hne.1]; exact hlv) ?_
      refine x_iconst C (v := nI 1) D_X2_retire_1.2.2.2.2.1 (by decide +kernel) ?_
      refine x_isub C D_X2_retire_1.2.2.2.2.2.1 ?_
      refine x_eqi _ (show nI (lv + 1) - nI 1 = nI lv by rw [pk_sub (by omega)]; rfl) ?_
      refine x_putI C (ci := 1) (k0 := 3) hz.1 (by decide) rfl (by decide) in_X1 k_113 rfl tyX1 tyX1_ok nmX1 rfl (by rfl) rfl rfl rfl D_X2_retire_1.2.2.2.2.2.2.1 (fun I4 eI4 => ?_)
      have i4 : ∀ q j, q ≠ pq → ¬ (q = t ∧ j = 3) → ¬ (q = q0 ∧ j = 1) → I4 q j = I q j := fun q j h1 h2 h3 => by
        have e3 : I3 q j = I q j := by
          rw [eI3]
          by_cases hqq : q = q0
          · subst hqq; rw [x_u2_j _ _ (fun e => h3 ⟨rfl, e⟩), i2 q h1]
          · rw [x_u2_a _ _ hqq, i2 q h1]
        rw [eI4]
        by_cases hqt : q = t
        · subst hqt; rw [x_u2_j _ _ (fun e => h2 ⟨rfl, e⟩), e3]
        · rw [x_u2_a _ _ hqt, e3]
      have i4t : I4 t 3 = nI lv := by rw [eI4, x_u2_s]
      have i4q : I4 q0 1 = nI 0 := by rw [eI4, x_u2_a _ _ h8.1, eI3, x_u2_s]
      have hL4 : LTI cv1 1999 K N I4 (x_up Q pn g) t 2 pq pn rw rn cap cd A := hL.congr (fun q hq => by have h7 := hz.nn (hN q hq).1; rw [i4 q 0 h7.2.1 (fun e => h7.1 e.1) (fun e => by omega), i4 q 2 h7.2.1 (fun e => h7.1 e.1) (fun e => by omega)]; exact ⟨rfl, rfl⟩) (fun q h1 _ => x_up_n _ _ h1)
      have hfr4 : FRL K t pq pn rw rn (ino A) I I4 Q (x_up Q pn g) := fun q h0 hA1 h1 h2 h3 h4 h5 => ⟨by funext j; exact i4 q j h2 (fun e => h1 e.1) (fun e => hA1 (by rw [e.1]; exact hq0A)), x_up_n _ _ h3⟩
      have hal4 : ∀ q ∈ ino A, I4 q 0 = I q 0 ∧ I4 q 1 = if q = q0 then nI 0 else I q 1 := fun q hq => by
        have h7 := hz.nn (hN q hq).1
        refine ⟨i4 q 0 h7.2.1 (fun e => h7.1 e.1) (fun e => by omega), ?_⟩
        by_cases hqq : q = q0
        · subst hqq; rw [if_pos rfl]; exact i4q
        · rw [if_neg hqq]; exact i4 q 1 h7.2.1 (fun e => h7.1 e.1) (fun e => hqq e.1)
      refine x_aload_n C D_X2_retire_1.2.2.2.2.2.2.2.1 rfl rfl (by first | exact Or.inr ⟨_, rfl⟩ | exact va_rf_or _ | exact Or.inl rfl) ?_
      refine x_callUi C (x := ⟨"ScapegoatSpur$LazyTree", "nodeCount", "()I"⟩) (y := yX2_nodeCount) (owner := "ScapegoatSpur$LazyTree") (c_X2_nodeCount_1 l G t hz.1 (fun q hq => by have h7 := hL4.2.1; rw [hq] at h7; exact h7.some.choose_spec.choose_spec.2.1)) (ci := 1) hz.1 (by decide) rfl k_241 k_243 k_244 k_242 k_61 k_246 rfl hu_X2_nodeCount ⟨(Nat.le_of_ble_eq_true rfl), (Nat.le_of_ble_eq_true rfl)⟩ rfl (by first | exact Nat.le_of_ble_eq_true rfl | simp [x_crf, Value.category]) rfl rfl D_X2_retire_1.2.2.2.2.2.2.2.2.1 ⟨(Nat.le_of_ble_eq_true rfl), (Nat.le_of_ble_eq_true rfl)⟩ (fun r_34 S_34 h_34 => ?_)
      obtain ⟨rfl, rfl⟩ := h_34
      refine x_eqi _ (wOf_TP hL4.2.1 hL4.2.2.1) ?_
      refine x_aload_n C D_X2_retire_1.2.2.2.2.2.2.2.2.2.1 rfl rfl (by first | exact Or.inr ⟨_, rfl⟩ | exact va_rf_or _ | exact Or.inl rfl) ?_
      refine x_getI C (ci := 1) (k0 := 3) hz.1 (by decide) rfl (by decide) in_X1 k_113 rfl rfl D_X2_retire_1.2.2.2.2.2.2.2.2.2.2.1 ?_
      refine x_eqi _ i4t ?_
      refine x_isub C D_X2_retire_1.2.2.2.2.2.2.2.2.2.2.2 ?_
      refine x_eqi _ (pk_sub (by omega)) ?_
      refine x_aload_n C D_X2_retire_2.1 rfl rfl (by first | exact Or.inr ⟨_, rfl⟩ | exact va_rf_or _ | exact Or.inl rfl) ?_
      refine x_getI C (ci := 1) (k0 := 3) hz.1 (by decide) rfl (by decide) in_X1 k_113 rfl rfl D_X2_retire_2.2.1 ?_
      refine x_eqi _ i4t ?_
      refine x_icmp_le C 53 D_X2_retire_2.2.2.1 (by decide) (fun c_46 => ?_) (fun c_46 => ?_)
      · skip
        have c1 : ¬ lv < sz A - lv := by
          have h9 := (nI_leI (by omega) (by omega)).mp c_46
          omega
        refine ret _ _ _ _ _ rfl D_X2_retire_2.2.2.2.2.2 (Nat.le_of_ble_eq_true rfl) (Nat.le_of_ble_eq_true rfl) ?_
        refine ⟨I4, _, rfl, ?_, hfr4, hal4, i4t, ?_, ?_⟩
        · rw [if_neg c1]; exact hL4
        · exact i4 t 4 hne.1 (fun e => by omega) (fun e => h8.1 e.1.symm)
        · rw [if_neg c1]; exact i4 t 5 hne.1 (fun e => by omega) (fun e => h8.1 e.1.symm)
      · skip
        have c1 : lv < sz A - lv := by
          rcases Nat.lt_or_ge lv (sz A - lv) with h | h
          · exact h
          · exact absurd ((nI_leI (by omega) (by omega)).mpr h) c_46
        refine x_aload_n C D_X2_retire_2.2.2.2.1 rfl rfl (by first | exact Or.inr ⟨_, rfl⟩ | exact va_rf_or _ | exact Or.inl rfl) ?_
        refine x_callUv C (x := ⟨"ScapegoatSpur$LazyTree", "dropDead", "()V"⟩) (y := yX2_dropDead) (owner := "ScapegoatSpur$LazyTree") (c_X2_dropDead_1 l G t pq pn rw rn cap A cd hL4 hA) (ci := 1) hz.1 (by decide) rfl k_250 k_9 k_10 k_252 k_61 k_253 rfl hu_X2_dropDead ⟨(Nat.le_of_ble_eq_true rfl), (Nat.le_of_ble_eq_true rfl)⟩ rfl (by first | exact Nat.le_of_ble_eq_true rfl | simp [x_crf, Value.category]) rfl rfl D_X2_retire_2.2.2.2.2.1 ⟨(Nat.le_of_ble_eq_true rfl), (Nat.le_of_ble_eq_true rfl)⟩ (fun _ S_50 h_50 => ?_)
        obtain ⟨I5, Q5, rfl, hL5, hfr5, hal5, d3, d4, d5⟩ := h_50
        refine ret _ _ _ _ _ rfl D_X2_retire_2.2.2.2.2.2 (Nat.le_of_ble_eq_true rfl) (Nat.le_of_ble_eq_true rfl) ?_
        refine ⟨I5, Q5, rfl, ?_, ?_, ?_, ?_, ?_, ?_⟩
        · rw [if_pos c1, apd_congr (fun a ha => (hal5 a ha).2)]; exact hL5
        · intro q h0 hA1 h1 h2 h3 h4 h5
          have h6 := hfr5 q h0 hA1 h1 h2 h3 h4 h5
          have h7 := hfr4 q h0 hA1 h1 h2 h3 h4 h5
          exact ⟨h6.1.trans h7.1, h6.2.trans h7.2⟩
        · intro q hq
          rw [(hal5 q hq).1, (hal5 q hq).2]; exact hal4 q hq
        · rw [d3]; exact i4t
        · rw [d4]; exact i4 t 4 hne.1 (fun e => by omega) (fun e => h8.1 e.1.symm)
        · rw [d5, if_pos c1, i4 t 5 hne.1 (fun e => by omega) (fun e => h8.1 e.1.symm)]
    · skip
      exact absurd ha (by simp only [alv]; simp; simpa using c_14)
      --end
abbrev rm_X2_dropDead_5 : Room := { frames := 44, cells := 0, slots := 0, locals := 1028 }
set_option maxHeartbeats 4000000 in
set_option maxRecDepth 100000 in
theorem c_X2_dropDead_5 (l : Launch) (G : xG) {K N : Nat → Nat} {I : Nat → Nat → Int32} {Q : Nat → Nat → Option Nat} {J : Nat → Nat → Int64} (t pq pn rw rn cap : Nat) (A : Tr) (cd : Nat → Nat) (hL : LTI cv5 10000 K N I Q t 5 pq pn rw rn cap cd A) (hA : ht A ≤ 40) : XM l yX2_dropDead cX2_dropDead 1 none rm_X2_dropDead_5 G Rv [.ref t] (K, N, I, Q, J) (fun _ S1 => ∃ I1 Q1, S1 = (K, N, I1, Q1, J) ∧ LTI cv5 10000 K N I1 Q1 t 5 pq pn rw rn cap cd (kdl od5 cd 8 0 (apd false I A)) ∧ FRL K t pq pn rw rn (ino A) I I1 Q Q1 ∧ (∀ q ∈ ino A, I1 q 0 = I q 0 ∧ I1 q 1 = I q 1) ∧ I1 t 3 = I t 3 ∧ I1 t 4 = I t 4 ∧ I1 t 5 = I t 5 + nI 1) := by
  refine x_metv (lv := [_]) (by decide +kernel) (x_cc (by first | rfl | exact x_crf _) x_cn) (Nat.le_of_ble_eq_true rfl) rfl ?_
  intro pP eE sS mM aA bB hH cC Z C hini ret
  have hz := hL.1
  have hT := hL.2.1
  have hW := hL.2.2.1
  have hnA := hL.2.2.2.1
  have hN := hL.2.2.2.2.1
  have hinj := hL.2.2.2.2.2.1
  have hszc := hL.2.2.2.2.2.2.1
  have hc256 := hL.2.2.2.2.2.2.2
  have hne := hz.ne
  obtain ⟨ls, els⟩ : ∃ ls, ls = apd false I A := ⟨_, rfl⟩
  have hll : ls.length ≤ sz A := by rw [els]; exact apd_le
  have hlm : ∀ a ∈ ls, a ∈ ino A := fun a ha => by rw [els] at ha; exact apd_mem ha
  have hln : ls.Nodup := by rw [els]; exact apd_nodup hnA
  refine x_aload_n C D_X2_dropDead_0.1 rfl rfl (by first | exact Or.inr ⟨_, rfl⟩ | exact va_rf_or _ | exact Or.inl rfl) ?_
  refine x_aload_n C D_X2_dropDead_0.2.1 rfl rfl (by first | exact Or.inr ⟨_, rfl⟩ | exact va_rf_or _ | exact Or.inl rfl) ?_
  refine x_getQ C (ci := 4) (k0 := 2) hz.1 (by decide) rfl (by decide) in_X5 k_112 rfl rfl D_X2_dropDead_0.2.2.1 ?_
  refine x_eqq _ (rfl : Q t 2 = Q t 2) ?_
  refine x_iconst C (v := nI 0) D_X2_dropDead_0.2.2.2.1 (by decide +kernel) ?_
  have h65 := (rfl : nI 0 = xb false)
  rw [h65]
  refine x_callUv C (x := ⟨"ScapegoatSpur$LazyTree", "gather", "(LScapegoatSpur$Node;Z)V"⟩) (y := yX2_gather) (owner := "ScapegoatSpur$LazyTree") (c_X2_gather_5 l G t pq pn rw rn cap A false _ hz hT hA (by rw [← els]; omega)) (ci := 4) hz.1 (by decide) rfl k_254 k_12 k_14 k_256 k_61 k_257 rfl hu_X2_gather ⟨(Nat.le_of_ble_eq_true rfl), (Nat.le_of_ble_eq_true rfl)⟩ rfl (by first | exact Nat.le_of_ble_eq_true rfl | simp [x_crf, Value.category]) rfl rfl D_X2_dropDead_0.2.2.2.2.1 ⟨(Nat.le_of_ble_eq_true rfl), (Nat.le_of_ble_eq_true rfl)⟩ (fun _ S_6 h_6 => ?_)
  obtain ⟨g, rfl, hs⟩ := h_6
  rw [← els] at hs ⊢
  refine x_aload_n C D_X2_dropDead_0.2.2.2.2.2.1 rfl rfl (by first | exact Or.inr ⟨_, rfl⟩ | exact va_rf_or _ | exact Or.inl rfl) ?_
  refine x_aload_n C D_X2_dropDead_0.2.2.2.2.2.2.1 rfl rfl (by first | exact Or.inr ⟨_, rfl⟩ | exact va_rf_or _ | exact Or.inl rfl) ?_
  refine x_iconst C (v := nI 0) D_X2_dropDead_0.2.2.2.2.2.2.2.1 (by decide +kernel) ?_
  refine x_aload_n C D_X2_dropDead_0.2.2.2.2.2.2.2.2.1 rfl rfl (by first | exact Or.inr ⟨_, rfl⟩ | exact va_rf_or _ | exact Or.inl rfl) ?_
  refine x_getQ C (ci := 4) (k0 := 1) hz.1 (by decide) rfl (by decide) in_X5 k_111 rfl rfl D_X2_dropDead_0.2.2.2.2.2.2.2.2.2.1 ?_
  refine x_eqr (hz.row g).2.2.2.1 ?_
  refine x_callVi C (y := yX4_length) (c_X4_length l G rw hz.2.2.2.2.2.1.1) (ci := 3) hz.2.2.2.2.2.1.1 (by decide) rfl rfl k_220 k_221 k_222 k_63 k_223 hd_X4_length ⟨(Nat.le_of_ble_eq_true rfl), (Nat.le_of_ble_eq_true rfl)⟩ rfl (by first | exact Nat.le_of_ble_eq_true rfl | simp [x_crf, Value.category]) rfl rfl D_X2_dropDead_0.2.2.2.2.2.2.2.2.2.2.1 ⟨(Nat.le_of_ble_eq_true rfl), (Nat.le_of_ble_eq_true rfl)⟩ (fun r_16 S_16 h_16 => ?_)
  obtain ⟨rfl, rfl⟩ := h_16
  refine x_eqi _ (x_u2_s _ _ _ _) ?_
  refine x_iconst C (v := nI 0) D_X2_dropDead_0.2.2.2.2.2.2.2.2.2.2.2 (by decide +kernel) ?_
  refine x_callSq C (y := yX2_layOut) (c_X2_layOut_5 l G t pq pn rw rn cap ls.length cd (by omega) 8 ls 0 0 ls.length (x_u2 I rw 1 (nI ls.length)) (x_up Q rn g) (hz.row g) (x_u2_s _ _ _ _) (Nat.zero_add _).symm (Nat.le_refl _) (by omega) (by omega) hln (fun q hq => by have h9 := hN q (hlm q hq); have h8 := hz.nn h9.1; exact ⟨h9.1, by rw [x_u2_a _ _ h8.2.2.2.1]; exact h9.2.1, h9.2.2⟩) (fun u hu v hv => hinj u (hlm u hu) v (hlm v hv)) (by rw [x_up_s]; exact hs)) k_261 k_262 k_61 k_263 hd_X2_layOut ⟨(Nat.le_of_ble_eq_true rfl), (Nat.le_of_ble_eq_true rfl)⟩ rfl (by first | exact Nat.le_of_ble_eq_true rfl | simp [x_crf, Value.category]) rfl rfl D_X2_dropDead_1.1 ⟨(Nat.le_of_ble_eq_true rfl), (Nat.le_of_ble_eq_true rfl)⟩ (fun r_20 S_20 h_20 => ?_)
  obtain ⟨I3, Q3, rfl, hlay⟩ := h_20
  refine x_putQ C (ci := 4) (k0 := 2) hz.1 (by decide) rfl (by decide) in_X5 k_112 rfl tyX5 tyX5_ok nmX5 rfl (by first | exact rfl | exact (rfl : _ = va_rf (some _)) | exact (rfl : _ = va_rf none)) (by rfl) (by first | rfl | exact x_narq _ _) (by first | rfl | exact x_fitq _ _) rfl D_X2_dropDead_1.2.1 (fun Q4 eQ4 => ?_)
  refine x_aload_n C D_X2_dropDead_1.2.2.1 rfl rfl (by first | exact Or.inr ⟨_, rfl⟩ | exact va_rf_or _ | exact Or.inl rfl) ?_
  refine x_dup C D_X2_dropDead_1.2.2.2.1 (by first | rfl | exact x_crf _) ?_
  refine x_getI C (ci := 4) (k0 := 5) hz.1 (by decide) rfl (by decide) in_X5 k_115 rfl rfl D_X2_dropDead_1.2.2.2.2.1 ?_
  refine x_iconst C (v := nI 1) D_X2_dropDead_1.2.2.2.2.2.1 (by decide +kernel) ?_
  refine x_iadd C D_X2_dropDead_1.2.2.2.2.2.2.1 ?_
  refine x_putI C (ci := 4) (k0 := 5) hz.1 (by decide) rfl (by decide) in_X5 k_115 rfl tyX5 tyX5_ok nmX5 rfl (by rfl) rfl rfl rfl D_X2_dropDead_1.2.2.2.2.2.2.2.1 (fun I4 eI4 => ?_)
  refine ret _ _ _ _ _ rfl D_X2_dropDead_1.2.2.2.2.2.2.2.2 (Nat.le_of_ble_eq_true rfl) (Nat.le_of_ble_eq_true rfl) ?_
  have hI1 : ∀ q, q ≠ t → q ≠ rw → x_u2 I rw 1 (nI ls.length) q = I q := fun q h1 h2 => x_u2_a _ _ h2
  have hp8 : (ino (kdl od5 cd 8 0 ls)).Perm ls := kdl_perm 8 0 _ (by omega)
  have hfin := LTI.drop hL hlm hp8 hln hll hlay rfl hI1 eQ4
  have hi4 : ∀ q, q ≠ t → I4 q = I3 q := fun q hq => by rw [eI4, x_u2_a _ _ hq]
  have hnt : ∀ q ∈ ino A, q ≠ t := fun q hq => (hz.nn (hN q hq).1).1
  refine ⟨I4, Q4, rfl, ?_, ?_, ?_, ?_, ?_, ?_⟩
  · rw [← els]
    refine hfin.congr (fun q hq => ?_) (fun q _ _ => rfl)
    rw [hi4 q (hnt q (hlm q (hp8.mem_iff.mp hq)))]; exact ⟨rfl, rfl⟩
  · intro q h0 hA1 h1 h2 h3 h4 h5
    have hs : q ∉ ls := fun h => hA1 (hlm q h)
    exact ⟨by rw [hi4 q h1, hlay.2.2.2.2.1 q hs, hI1 q h1 h4], by rw [eQ4, x_u2_a _ _ h1, hlay.2.2.1 q hs h5, x_up_n _ _ h5]⟩
  · intro q hq
    have h8 := hz.nn (hN q hq).1
    rw [hi4 q h8.1, hlay.2.2.2.2.2.1 q 0 (by omega), hlay.2.2.2.2.2.1 q 1 (by omega), hI1 q h8.1 h8.2.2.2.1]; exact ⟨rfl, rfl⟩
  · rw [eI4, x_u2_j _ _ (by omega), hlay.2.2.2.2.2.1 t 3 (by omega), x_u2_a _ _ hne.2.2.1]
  · rw [eI4, x_u2_j _ _ (by omega), hlay.2.2.2.2.2.1 t 4 (by omega), x_u2_a _ _ hne.2.2.1]
  · rw [eI4, x_u2_s, hlay.2.2.2.2.2.1 t 5 (by omega), x_u2_a _ _ hne.2.2.1]
abbrev rm_X2_retire_5 : Room := { frames := 45, cells := 0, slots := 0, locals := 1048 }
set_option maxHeartbeats 4000000 in
set_option maxRecDepth 100000 in
theorem c_X2_retire_5 (l : Launch) (G : xG) {K N : Nat → Nat} {I : Nat → Nat → Int32} {Q : Nat → Nat → Option Nat} {J : Nat → Nat → Int64} (t pq pn rw rn cap : Nat) (c q0 lv : Nat) (A : Tr) (cd : Nat → Nat) (hL : LTI cv5 10000 K N I Q t 5 pq pn rw rn cap cd A) (hA : ht A ≤ 40) (hc : c < 10000) (hf : sfind od5 cd c A 0 = some q0) (ha : alv I q0 = true) (hlv : I t 3 = nI (lv + 1)) (hle : lv < sz A) : XM l yX2_retire cX2_retire 3 none rm_X2_retire_5 G Rv [.ref t, .int (cv5 c)] (K, N, I, Q, J) (fun _ S1 => ∃ I1 Q1, S1 = (K, N, I1, Q1, J) ∧ LTI cv5 10000 K N I1 Q1 t 5 pq pn rw rn cap cd (if lv < sz A - lv then kdl od5 cd 8 0 (apd false I1 A) else A) ∧ FRL K t pq pn rw rn (ino A) I I1 Q Q1 ∧ (∀ q ∈ ino A, I1 q 0 = I q 0 ∧ I1 q 1 = if q = q0 then nI 0 else I q 1) ∧ I1 t 3 = nI lv ∧ I1 t 4 = I t 4 ∧ I1 t 5 = if lv < sz A - lv then I t 5 + nI 1 else I t 5) := by
  refine x_metv (lv := [_, _, _]) (by decide +kernel) (x_cc (by first | rfl | exact x_crf _) (x_cc (by first | rfl | exact x_crf _) x_cn)) (Nat.le_of_ble_eq_true rfl) rfl ?_
  intro pP eE sS mM aA bB hH cC Z C hini ret
  have hz := hL.1
  have hT := hL.2.1
  have hW := hL.2.2.1
  have hnA := hL.2.2.2.1
  have hN := hL.2.2.2.2.1
  have hinj := hL.2.2.2.2.2.1
  have hszc := hL.2.2.2.2.2.2.1
  have hc256 := hL.2.2.2.2.2.2.2
  have hne := hz.ne
  have hq0A : q0 ∈ ino A := sfind_mem _ _ _ _ _ _ hf
  have hq03 := (hN q0 hq0A).1
  have h8 := hz.nn hq03
  refine x_aload_n C D_X2_retire_0.1 rfl rfl (by first | exact Or.inr ⟨_, rfl⟩ | exact va_rf_or _ | exact Or.inl rfl) ?_
  refine x_iload_n C D_X2_retire_0.2.1 rfl rfl ?_
  refine x_callUq C (x := ⟨"ScapegoatSpur$LazyTree", "find", "(I)LScapegoatSpur$Node;"⟩) (y := yX2_find) (owner := "ScapegoatSpur$LazyTree") (c_X2_find_5 l G t pq pn rw rn cap c A cd hz hT hN hA hc) (ci := 4) hz.1 (by decide) rfl k_210 k_212 k_214 k_211 k_61 k_215 rfl hu_X2_find ⟨(Nat.le_of_ble_eq_true rfl), (Nat.le_of_ble_eq_true rfl)⟩ rfl (by first | exact Nat.le_of_ble_eq_true rfl | simp [x_crf, Value.category]) rfl rfl D_X2_retire_0.2.2.1 ⟨(Nat.le_of_ble_eq_true rfl), (Nat.le_of_ble_eq_true rfl)⟩ (fun r_2 S_2 h_2 => ?_)
  obtain ⟨hr, g, rfl, hsg⟩ := h_2
  rw [hf] at hr
  subst hr
  obtain ⟨I2, eI2⟩ : ∃ I2, I2 = x_u2 I pq 1 (nI (spath od5 cd c A 0).length) := ⟨_, rfl⟩
  rw [← eI2]
  have i2 : ∀ q, q ≠ pq → I2 q = I q := fun q hq => by rw [eI2, x_u2_a _ _ hq]
  have hq2t : x_up Q pn g t = Q t := x_up_n _ _ hne.2.1
  refine x_astore_n C (lv' := [_, _, _]) D_X2_retire_0.2.2.2.1 rfl (Nat.le_of_ble_eq_true rfl) (by first | rfl | exact x_ok_q rfl) (by first | exact Or.inr ⟨_, rfl⟩ | exact va_rf_or _ | exact Or.inl rfl) rfl ?_
  refine x_aload_n C D_X2_retire_0.2.2.2.2.1 rfl rfl (by first | exact Or.inr ⟨_, rfl⟩ | exact va_rf_or _ | exact Or.inl rfl) ?_
  refine x_ifnull C 17 D_X2_retire_0.2.2.2.2.2.1 (by decide) (fun e_7 => ?_) (fun q9 e_7 => ?_)
  · skip
    exact absurd e_7 (by simp)
    --end
  · skip
    obtain rfl : q0 = q9 := Option.some.inj e_7
    refine x_aload_n C D_X2_retire_0.2.2.2.2.2.2.1 rfl rfl (by first | exact Or.inr ⟨_, rfl⟩ | exact va_rf_or _ | exact Or.inl rfl) ?_
    refine x_getI C (ci := 2) (k0 := 1) hq03 (by decide) rfl (by decide) in_X3 k_614 rfl rfl D_X2_retire_0.2.2.2.2.2.2.2.1 ?_
    refine x_eqi _ (show I2 q0 1 = I q0 1 by rw [i2 q0 h8.2.1]) ?_
    refine x_if_ne C 18 D_X2_retire_0.2.2.2.2.2.2.2.2.1 (by decide) (fun c_14 => ?_) (fun c_14 => ?_)
    · skip
      refine x_aload_n C D_X2_retire_0.2.2.2.2.2.2.2.2.2.2.1 rfl rfl (by first | exact Or.inr ⟨_, rfl⟩ | exact va_rf_or _ | exact Or.inl rfl) ?_
      refine x_iconst C (v := nI 0) D_X2_retire_0.2.2.2.2.2.2.2.2.2.2.2 (by decide +kernel) ?_
      refine x_putI C (ci := 2) (k0 := 1) hq03 (by decide) rfl (by decide) in_X3 k_614 rfl tyX3 tyX3_ok nmX3 rfl (by rfl) rfl rfl rfl D_X2_retire_1.1 (fun I3 eI3 => ?_)
      refine x_aload_n C D_X2_retire_1.2.1 rfl rfl (by first | exact Or.inr ⟨_, rfl⟩ | exact va_rf_or _ | exact Or.inl rfl) ?_
      refine x_dup C D_X2_retire_1.2.2.1 (by first | rfl | exact x_crf _) ?_
      refine x_getI C (ci := 4) (k0 := 3) hz.1 (by decide) rfl (by decide) in_X5 k_113 rfl rfl D_X2_retire_1.2.2.2.1 ?_
      refine x_eqi _ (show I3 t 3 = nI (lv + 1) by rw [eI3, x_u2_a _ _ h8.1.symm, i2 t hne.1]; exact hlv) ?_
      refine x_iconst C (v := nI 1) D_X2_retire_1.2.2.2.2.1 (by decide +kernel) ?_
      refine x_isub C D_X2_retire_1.2.2.2.2.2.1 ?_
      refine x_eqi _ (show nI (lv + 1) - nI 1 = nI lv by rw [pk_sub (by omega)]; rfl) ?_
      refine x_putI C (ci := 4) (k0 := 3) hz.1 (by decide) rfl (by decide) in_X5 k_113 rfl tyX5 tyX5_ok nmX5 rfl (by rfl) rfl rfl rfl D_X2_retire_1.2.2.2.2.2.2.1 (fun I4 eI4 => ?_)
      have i4 : ∀ q j, q ≠ pq → ¬ (q = t ∧ j = 3) → ¬ (q = q0 ∧ j = 1) → I4 q j = I q j := fun q j h1 h2 h3 => by
        have e3 : I3 q j = I q j := by
          rw [eI3]
          by_cases hqq : q = q0
          · subst hqq; rw [x_u2_j _ _ (fun e => h3 ⟨rfl, e⟩), i2 q h1]
          · rw [x_u2_a _ _ hqq, i2 q h1]
        rw [eI4]
        by_cases hqt : q = t
        · subst hqt; rw [x_u2_j _ _ (fun e => h2 ⟨rfl, e⟩), e3]
        · rw [x_u2_a _ _ hqt, e3]
      have i4t : I4 t 3 = nI lv := by rw [eI4, x_u2_s]
      have i4q : I4 q0 1 = nI 0 := by rw [eI4, x_u2_a _ _ h8.1, eI3, x_u2_s]
      have hL4 : LTI cv5 10000 K N I4 (x_up Q pn g) t 5 pq pn rw rn cap cd A := hL.congr (fun q hq => by have h7 := hz.nn (hN q hq).1; rw [i4 q 0 h7.2.1 (fun e => h7.1 e.1) (fun e => by omega), i4 q 2 h7.2.1 (fun e => h7.1 e.1) (fun e => by omega)]; exact ⟨rfl, rfl⟩) (fun q h1 _ => x_up_n _ _ h1)
      have hfr4 : FRL K t pq pn rw rn (ino A) I I4 Q (x_up Q pn g) := fun q h0 hA1 h1 h2 h3 h4 h5 => ⟨by funext j; exact i4 q j h2 (fun e => h1 e.1) (fun e => hA1 (by rw [e.1]; exact hq0A)), x_up_n _ _ h3⟩
      have hal4 : ∀ q ∈ ino A, I4 q 0 = I q 0 ∧ I4 q 1 = if q = q0 then nI 0 else I q 1 := fun q hq => by
        have h7 := hz.nn (hN q hq).1
        refine ⟨i4 q 0 h7.2.1 (fun e => h7.1 e.1) (fun e => by omega), ?_⟩
        by_cases hqq : q = q0
        · subst hqq; rw [if_pos rfl]; exact i4q
        · rw [if_neg hqq]; exact i4 q 1 h7.2.1 (fun e => h7.1 e.1) (fun e => hqq e.1)
      refine x_aload_n C D_X2_retire_1.2.2.2.2.2.2.2.1 rfl rfl (by first | exact Or.inr ⟨_, rfl⟩ | exact va_rf_or _ | exact Or.inl rfl) ?_
      refine x_callUi C (x := ⟨"ScapegoatSpur$LazyTree", "nodeCount", "()I"⟩) (y := yX2_nodeCount) (owner := "ScapegoatSpur$LazyTree") (c_X2_nodeCount_5 l G t hz.1 (fun q hq => by have h7 := hL4.2.1; rw [hq] at h7; exact h7.some.choose_spec.choose_spec.2.1)) (ci := 4) hz.1 (by decide) rfl k_241 k_243 k_245 k_242 k_61 k_246 rfl hu_X2_nodeCount ⟨(Nat.le_of_ble_eq_true rfl), (Nat.le_of_ble_eq_true rfl)⟩ rfl (by first | exact Nat.le_of_ble_eq_true rfl | simp [x_crf, Value.category]) rfl rfl D_X2_retire_1.2.2.2.2.2.2.2.2.1 ⟨(Nat.le_of_ble_eq_true rfl), (Nat.le_of_ble_eq_true rfl)⟩ (fun r_34 S_34 h_34 => ?_)
      obtain ⟨rfl, rfl⟩ := h_34
      refine x_eqi _ (wOf_TP hL4.2.1 hL4.2.2.1) ?_
      refine x_aload_n C D_X2_retire_1.2.2.2.2.2.2.2.2.2.1 rfl rfl (by first | exact Or.inr ⟨_, rfl⟩ | exact va_rf_or _ | exact Or.inl rfl) ?_
      refine x_getI C (ci := 4) (k0 := 3) hz.1 (by decide) rfl (by decide) in_X5 k_113 rfl rfl D_X2_retire_1.2.2.2.2.2.2.2.2.2.2.1 ?_
      refine x_eqi _ i4t ?_
      refine x_isub C D_X2_retire_1.2.2.2.2.2.2.2.2.2.2.2 ?_
      refine x_eqi _ (pk_sub (by omega)) ?_
      refine x_aload_n C D_X2_retire_2.1 rfl rfl (by first | exact Or.inr ⟨_, rfl⟩ | exact va_rf_or _ | exact Or.inl rfl) ?_
      refine x_getI C (ci := 4) (k0 := 3) hz.1 (by decide) rfl (by decide) in_X5 k_113 rfl rfl D_X2_retire_2.2.1 ?_
      refine x_eqi _ i4t ?_
      refine x_icmp_le C 53 D_X2_retire_2.2.2.1 (by decide) (fun c_46 => ?_) (fun c_46 => ?_)
      · skip
        have c1 : ¬ lv < sz A - lv := by
          have h9 := (nI_leI (by omega) (by omega)).mp c_46
          omega
        refine ret _ _ _ _ _ rfl D_X2_retire_2.2.2.2.2.2 (Nat.le_of_ble_eq_true rfl) (Nat.le_of_ble_eq_true rfl) ?_
        refine ⟨I4, _, rfl, ?_, hfr4, hal4, i4t, ?_, ?_⟩
        · rw [if_neg c1]; exact hL4
        · exact i4 t 4 hne.1 (fun e => by omega) (fun e => h8.1 e.1.symm)
        · rw [if_neg c1]; exact i4 t 5 hne.1 (fun e => by omega) (fun e => h8.1 e.1.symm)
      · skip
        have c1 : lv < sz A - lv := by
          rcases Nat.lt_or_ge lv (sz A - lv) with h | h
          · exact h
          · exact absurd ((nI_leI (by omega) (by omega)).mpr h) c_46
        refine x_aload_n C D_X2_retire_2.2.2.2.1 rfl rfl (by first | exact Or.inr ⟨_, rfl⟩ | exact va_rf_or _ | exact Or.inl rfl) ?_
        refine x_callUv C (x := ⟨"ScapegoatSpur$LazyTree", "dropDead", "()V"⟩) (y := yX2_dropDead) (owner := "ScapegoatSpur$LazyTree") (c_X2_dropDead_5 l G t pq pn rw rn cap A cd hL4 hA) (ci := 4) hz.1 (by decide) rfl k_250 k_9 k_11 k_252 k_61 k_253 rfl hu_X2_dropDead ⟨(Nat.le_of_ble_eq_true rfl), (Nat.le_of_ble_eq_true rfl)⟩ rfl (by first | exact Nat.le_of_ble_eq_true rfl | simp [x_crf, Value.category]) rfl rfl D_X2_retire_2.2.2.2.2.1 ⟨(Nat.le_of_ble_eq_true rfl), (Nat.le_of_ble_eq_true rfl)⟩ (fun _ S_50 h_50 => ?_)
        obtain ⟨I5, Q5, rfl, hL5, hfr5, hal5, d3, d4, d5⟩ := h_50
        refine ret _ _ _ _ _ rfl D_X2_retire_2.2.2.2.2.2 (Nat.le_of_ble_eq_true rfl) (Nat.le_of_ble_eq_true rfl) ?_
        refine ⟨I5, Q5, rfl, ?_, ?_, ?_, ?_, ?_, ?_⟩
        · rw [if_pos c1, apd_congr (fun a ha => (hal5 a ha).2)]; exact hL5
        · intro q h0 hA1 h1 h2 h3 h4 h5
          have h6 := hfr5 q h0 hA1 h1 h2 h3 h4 h5
          have h7 := hfr4 q h0 hA1 h1 h2 h3 h4 h5
          exact ⟨h6.1.trans h7.1, h6.2.trans h7.2⟩
        · intro q hq
          rw [(hal5 q hq).1, (hal5 q hq).2]; exact hal4 q hq
        · rw [d3]; exact i4t
        · rw [d4]; exact i4 t 4 hne.1 (fun e => by omega) (fun e => h8.1 e.1.symm)
        · rw [d5, if_pos c1, i4 t 5 hne.1 (fun e => by omega) (fun e => h8.1 e.1.symm)]
    · skip
      exact absurd ha (by simp only [alv]; simp; simpa using c_14)
      --end
