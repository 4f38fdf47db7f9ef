abbrev rm_X1_orderOfO : Room := { frames := 0, cells := 0, slots := 0, locals := 0 }
set_option maxHeartbeats 4000000 in
set_option maxRecDepth 100000 in
theorem c_X1_orderOfO (l : Launch) (G : xG) {K N : Nat → Nat} {I : Nat → Nat → Int32} {Q : Nat → Nat → Option Nat} {J : Nat → Nat → Int64} (t : Nat) (x y : Int32)  : XM l yX1_orderOf cX1_orderOf 3 (some .int) rm_X1_orderOfO G Ri [.ref t, .int x, .int y] (K, N, I, Q, J) (fun r S1 => r = x ∧ S1 = (K, N, I, Q, J)) := by
  refine x_meti (lv := [_, _, _]) (by decide +kernel) (x_cc (by first | rfl | exact x_crf _) (x_cc (by first | rfl | exact x_crf _) (x_cc (by first | rfl | exact x_crf _) x_cn))) (Nat.le_of_ble_eq_true rfl) rfl ?_
  intro pP eE sS mM aA bB hH cC Z C hini ret
  refine x_iload_n C D_X1_orderOf_0.1 rfl rfl ?_
  refine ret _ _ _ _ _ _ rfl D_X1_orderOf_0.2 (Nat.le_of_ble_eq_true rfl) (Nat.le_of_ble_eq_true rfl) ?_
  exact ⟨rfl, rfl⟩
abbrev rm_X2_belongsLeftO : Room := { frames := 1, cells := 0, slots := 0, locals := 22 }
set_option maxHeartbeats 4000000 in
set_option maxRecDepth 100000 in
theorem c_X2_belongsLeftO (l : Launch) (G : xG) {K N : Nat → Nat} {I : Nat → Nat → Int32} {Q : Nat → Nat → Option Nat} {J : Nat → Nat → Int64} (t q : Nat) (x y : Int32) (hkt : K t = 2) (hq : K q = 3) : XM l yX2_belongsLeft cX2_belongsLeft 4 (some .boolean) rm_X2_belongsLeftO G Rz [.ref t, .int x, .ref q, .int y] (K, N, I, Q, J) (fun r S1 => S1 = (K, N, I, Q, J)) := by
  refine x_metz (lv := [_, _, _, _]) (by decide +kernel) (x_cc (by first | rfl | exact x_crf _) (x_cc (by first | rfl | exact x_crf _) (x_cc (by first | rfl | exact x_crf _) (x_cc (by first | rfl | exact x_crf _) x_cn)))) (Nat.le_of_ble_eq_true rfl) rfl ?_
  intro pP eE sS mM aA bB hH cC Z C hini ret
  refine x_aload_n C D_X2_belongsLeft_0.1 rfl rfl (by first | exact Or.inr ⟨_, rfl⟩ | exact va_rf_or _ | exact Or.inl rfl) ?_
  refine x_iload_n C D_X2_belongsLeft_0.2.1 rfl rfl ?_
  refine x_iload_n C D_X2_belongsLeft_0.2.2.1 rfl rfl ?_
  refine x_callAi C (x := ⟨"ScapegoatSpur$LazyTree", "orderOf", "(II)I"⟩) (y := yX1_orderOf) (owner := "ScapegoatSpur$LazyTree") (c_X1_orderOfO l G t x y) (ci := 1) (by assumption) (by decide) rfl k_232 k_234 k_235 k_236 k_62 k_237 C.2.2.2.2.2.1.2.1 hu_X1_orderOf ⟨(Nat.le_of_ble_eq_true rfl), (Nat.le_of_ble_eq_true rfl)⟩ rfl (by first | exact Nat.le_of_ble_eq_true rfl | simp [x_crf, Value.category]) rfl rfl D_X2_belongsLeft_0.2.2.2.1 ⟨(Nat.le_of_ble_eq_true rfl), (Nat.le_of_ble_eq_true rfl)⟩ (fun r_3 S_3 h_3 => ?_)
  obtain ⟨rfl, rfl⟩ := h_3
  refine x_aload_n C D_X2_belongsLeft_0.2.2.2.2.1 rfl rfl (by first | exact Or.inr ⟨_, rfl⟩ | exact va_rf_or _ | exact Or.inl rfl) ?_
  refine x_aload_n C D_X2_belongsLeft_0.2.2.2.2.2.1 rfl rfl (by first | exact Or.inr ⟨_, rfl⟩ | exact va_rf_or _ | exact Or.inl rfl) ?_
  refine x_getI C (ci := 2) (k0 := 0) (by assumption) (by decide) rfl (by decide) in_X3 k_611 rfl rfl D_X2_belongsLeft_0.2.2.2.2.2.2.1 ?_
  refine x_iload_n C D_X2_belongsLeft_0.2.2.2.2.2.2.2.1 rfl rfl ?_
  refine x_callAi C (x := ⟨"ScapegoatSpur$LazyTree", "orderOf", "(II)I"⟩) (y := yX1_orderOf) (owner := "ScapegoatSpur$LazyTree") (c_X1_orderOfO l G t _ y) (ci := 1) (by assumption) (by decide) rfl k_232 k_234 k_235 k_236 k_62 k_237 C.2.2.2.2.2.1.2.1 hu_X1_orderOf ⟨(Nat.le_of_ble_eq_true rfl), (Nat.le_of_ble_eq_true rfl)⟩ rfl (by first | exact Nat.le_of_ble_eq_true rfl | simp [x_crf, Value.category]) rfl rfl D_X2_belongsLeft_0.2.2.2.2.2.2.2.2.1 ⟨(Nat.le_of_ble_eq_true rfl), (Nat.le_of_ble_eq_true rfl)⟩ (fun r_12 S_12 h_12 => ?_)
  obtain ⟨rfl, rfl⟩ := h_12
  refine x_icmp_ge C 22 D_X2_belongsLeft_0.2.2.2.2.2.2.2.2.2.1 (by decide) (fun c_15 => ?_) (fun c_15 => ?_)
  · skip
    refine x_iconst C (v := nI 0) D_X2_belongsLeft_1.1 (by decide +kernel) ?_
    refine ret _ _ _ _ _ _ false rfl D_X2_belongsLeft_1.2 (Nat.le_of_ble_eq_true rfl) (Nat.le_of_ble_eq_true rfl) rfl ?_
    exact rfl
  · skip
    refine x_iconst C (v := nI 1) D_X2_belongsLeft_0.2.2.2.2.2.2.2.2.2.2.1 (by decide +kernel) ?_
    refine x_goto C 23 D_X2_belongsLeft_0.2.2.2.2.2.2.2.2.2.2.2 (by decide) ?_
    refine ret _ _ _ _ _ _ true rfl D_X2_belongsLeft_1.2 (Nat.le_of_ble_eq_true rfl) (Nat.le_of_ble_eq_true rfl) rfl ?_
    exact rfl
abbrev rm_X2_findO : Room := { frames := 2, cells := 0, slots := 0, locals := 45 }
set_option maxHeartbeats 4000000 in
set_option maxRecDepth 100000 in
theorem c_X2_findO (l : Launch) (G : xG) {K N : Nat → Nat} {I : Nat → Nat → Int32} {Q : Nat → Nat → Option Nat} {J : Nat → Nat → Int64} (t pq pn rw rn cap : Nat) (x : Int32) (A : Tr) (hz : LZ K N Q t 2 pq pn rw rn cap) (hT0 : TP K Q A (Q t 2)) (hnx : ∀ a ∈ ino A, ¬ I a 0 = x) (hA : ht A ≤ 40) : XM l yX2_find cX2_find 4 (some (.object "ScapegoatSpur$Node")) rm_X2_findO G Rq [.ref t, .int x] (K, N, I, Q, J) (fun r S1 => r = none ∧ ∃ n1 g, S1 = (K, N, x_u2 I pq 1 (nI n1), x_up Q pn g, J)) := by
  refine x_metq (lv := [_, _, _, _]) (by decide +kernel) (x_cc (by first | rfl | exact x_crf _) (x_cc (by first | rfl | exact x_crf _) x_cn)) (Nat.le_of_ble_eq_true rfl) rfl ?_
  intro pP eE sS mM aA bB hH cC Z C hini ret
  obtain ⟨hk, hkd, h0, h1, hp, hrw, hpr, hpn⟩ := hz
  refine x_aload_n C D_X2_find_0.1 rfl rfl (by first | exact Or.inr ⟨_, rfl⟩ | exact va_rf_or _ | exact Or.inl rfl) ?_
  refine x_getQ C (ci := 1) (k0 := 0) (by assumption) (by decide) rfl (by decide) in_X1 k_110 rfl rfl D_X2_find_0.2.1 ?_
  refine x_eqr h0 ?_
  refine x_callVv C (y := yX4_empty) (c_X4_empty l G pq hp.1) (ci := 3) hp.1 (by decide) rfl rfl k_216 k_217 k_218 k_63 k_219 hd_X4_empty ⟨(Nat.le_of_ble_eq_true rfl), (Nat.le_of_ble_eq_true rfl)⟩ rfl (by first | exact Nat.le_of_ble_eq_true rfl | simp [x_crf, Value.category]) rfl rfl D_X2_find_0.2.2.1 ⟨(Nat.le_of_ble_eq_true rfl), (Nat.le_of_ble_eq_true rfl)⟩ (fun _ S_4 h_4 => ?_)
  subst h_4
  refine x_aload_n C D_X2_find_0.2.2.2.1 rfl rfl (by first | exact Or.inr ⟨_, rfl⟩ | exact va_rf_or _ | exact Or.inl rfl) ?_
  refine x_getQ C (ci := 1) (k0 := 2) (by assumption) (by decide) rfl (by decide) in_X1 k_112 rfl rfl D_X2_find_0.2.2.2.2.1 ?_
  refine x_eqq _ (rfl : Q t 2 = Q t 2) ?_
  refine x_astore_n C (lv' := [_, _, _, _]) D_X2_find_0.2.2.2.2.2.1 rfl (Nat.le_of_ble_eq_true rfl) (by first | rfl | exact x_ok_q rfl) (by first | exact Or.inr ⟨_, rfl⟩ | exact va_rf_or _ | exact Or.inl rfl) rfl ?_
  have L_12 : ∀ (w_12 : Nat) (B : Tr) (Pl : Nat) (o : Option Nat) (I1 : Nat → Nat → Int32) (Q1 : Nat → Nat → Option Nat) (g : Nat → Option Nat) (v3 : Option Value), sz B < w_12 → (TP K Q B o) → (∀ a ∈ ino B, a ∈ ino A) → (Pl + ht B ≤ 40) → (I1 = x_u2 I pq 1 (nI Pl)) → (Q1 = x_up Q pn g) → XW pP l eE rm_X2_findO sS mM aA bB hH cC G Z 0 0 (K, N, I1, Q1, J) 12 [some (.ref t), some (.int x), some (va_rf o), v3] [] := by
    intro w_12
    induction w_12 with
    | zero =>
      intro B Pl o I1 Q1 g v3 hw_12
      exact absurd hw_12 (Nat.not_lt_zero _)
    | succ w_12 ih_12 =>
      intro B Pl o I1 Q1 g v3 hw_12 hT hsub hH eI1 eQ1
      refine x_aload_n C D_X2_find_0.2.2.2.2.2.2.1 rfl rfl (by first | exact Or.inr ⟨_, rfl⟩ | exact va_rf_or _ | exact Or.inl rfl) ?_
      refine x_ifnull C 67 D_X2_find_0.2.2.2.2.2.2.2.1 (by decide) (fun e_13 => ?_) (fun q e_13 => ?_)
      · skip
        subst e_13
        obtain rfl := hT.none
        refine x_null C D_X2_find_2.2.2.2.2.2.2.2.2.2.2.2 ?_
        refine ret _ _ _ _ _ _ _ ⟨_, rfl⟩ D_X2_find_3 (Nat.le_of_ble_eq_true rfl) (Nat.le_of_ble_eq_true rfl) (by first | exact rfl | exact (rfl : _ = va_rf (some _)) | exact (rfl : _ = va_rf none)) ?_
        refine ⟨rfl, Pl, g, ?_⟩
        rw [eI1, eQ1]
      · skip
        subst e_13
        obtain ⟨tl_, tr_, rfl, hq3, hTl, hTr⟩ := hT.some
        have hI0 := hnx q (hsub q (by simp [ino]))
        have hqt : q ≠ pq := nodes_ne hq3 hp.1 (by omega)
        have hqn : q ≠ pn := nodes_ne hq3 hp.2.2.1 (by omega)
        have hPl : Pl < 40 := by
          simp only [ht] at hH
          omega
        have hrow : RowOK K N I1 Q1 pq pn 40 Pl := by rw [eI1, eQ1]; exact (hp.row g).ok (x_u2_s _ _ _ _) (by omega)
        refine x_aload_n C D_X2_find_0.2.2.2.2.2.2.2.2.1 rfl rfl (by first | exact Or.inr ⟨_, rfl⟩ | exact va_rf_or _ | exact Or.inl rfl) ?_
        refine x_getQ C (ci := 1) (k0 := 0) (by assumption) (by decide) rfl (by decide) in_X1 k_110 rfl rfl D_X2_find_0.2.2.2.2.2.2.2.2.2.1 ?_
        refine x_eqr (show Q1 t 0 = some pq by rw [eQ1, x_up_n _ _ (fun e => by have := hk; rw [e, hp.2.2.1] at this; omega)]; exact h0) ?_
        refine x_callVi C (y := yX4_length) (c_X4_length l G pq hp.1) (ci := 3) hp.1 (by decide) rfl rfl k_220 k_221 k_222 k_63 k_223 hd_X4_length ⟨(Nat.le_of_ble_eq_true rfl), (Nat.le_of_ble_eq_true rfl)⟩ rfl (by first | exact Nat.le_of_ble_eq_true rfl | simp [x_crf, Value.category]) rfl rfl D_X2_find_0.2.2.2.2.2.2.2.2.2.2.1 ⟨(Nat.le_of_ble_eq_true rfl), (Nat.le_of_ble_eq_true rfl)⟩ (fun r_20 S_20 h_20 => ?_)
        obtain ⟨rfl, rfl⟩ := h_20
        refine x_istore_n C (lv' := [_, _, _, _]) D_X2_find_0.2.2.2.2.2.2.2.2.2.2.2 rfl (Nat.le_of_ble_eq_true rfl) (by first | rfl | exact x_ok_q rfl) rfl ?_
        refine x_aload_n C D_X2_find_1.1 rfl rfl (by first | exact Or.inr ⟨_, rfl⟩ | exact va_rf_or _ | exact Or.inl rfl) ?_
        refine x_getQ C (ci := 1) (k0 := 0) (by assumption) (by decide) rfl (by decide) in_X1 k_110 rfl rfl D_X2_find_1.2.1 ?_
        refine x_eqr (show Q1 t 0 = some pq by rw [eQ1, x_up_n _ _ (fun e => by have := hk; rw [e, hp.2.2.1] at this; omega)]; exact h0) ?_
        refine x_aload_n C D_X2_find_1.2.2.1 rfl rfl (by first | exact Or.inr ⟨_, rfl⟩ | exact va_rf_or _ | exact Or.inl rfl) ?_
        refine x_callVv C (y := yX4_append) (c_X4_append l G pq pn 40 Pl q hrow hq3 hPl) (ci := 3) hp.1 (by decide) rfl rfl k_224 k_225 k_226 k_63 k_227 hd_X4_append ⟨(Nat.le_of_ble_eq_true rfl), (Nat.le_of_ble_eq_true rfl)⟩ rfl (by first | exact Nat.le_of_ble_eq_true rfl | simp [x_crf, Value.category]) rfl rfl D_X2_find_1.2.2.2.1 ⟨(Nat.le_of_ble_eq_true rfl), (Nat.le_of_ble_eq_true rfl)⟩ (fun _ S_29 h_29 => ?_)
        obtain ⟨I2, Q2, rfl, eI2, eQ2⟩ : ∃ I2 Q2, S_29 = (K, N, I2, Q2, J) ∧ I2 = x_u2 I pq 1 (nI (Pl + 1)) ∧ Q2 = x_up Q pn (x_up g Pl (some q)) := ⟨_, _, h_29, by rw [eI1, x_u2_u2], by rw [eQ1, x_u2_up]⟩
        have hq0 : I2 q 0 = I q 0 := by rw [eI2, x_u2_a _ _ hqt]
        refine x_aload_n C D_X2_find_1.2.2.2.2.1 rfl rfl (by first | exact Or.inr ⟨_, rfl⟩ | exact va_rf_or _ | exact Or.inl rfl) ?_
        refine x_getI C (ci := 2) (k0 := 0) hq3 (by decide) rfl (by decide) in_X3 k_611 rfl rfl D_X2_find_1.2.2.2.2.2.1 ?_
        refine x_eqi _ hq0 ?_
        refine x_iload_n C D_X2_find_1.2.2.2.2.2.2.1 rfl rfl ?_
        refine x_icmp_ne C 42 D_X2_find_1.2.2.2.2.2.2.2.1 (by decide) (fun c_37 => ?_) (fun c_37 => ?_)
        · skip
          refine x_aload_n C D_X2_find_1.2.2.2.2.2.2.2.2.2.2.1 rfl rfl (by first | exact Or.inr ⟨_, rfl⟩ | exact va_rf_or _ | exact Or.inl rfl) ?_
          refine x_iload_n C D_X2_find_1.2.2.2.2.2.2.2.2.2.2.2 rfl rfl ?_
          refine x_aload_n C D_X2_find_2.1 rfl rfl (by first | exact Or.inr ⟨_, rfl⟩ | exact va_rf_or _ | exact Or.inl rfl) ?_
          refine x_iload_n C D_X2_find_2.2.1 rfl rfl ?_
          refine x_callUz C (x := ⟨"ScapegoatSpur$LazyTree", "belongsLeft", "(ILScapegoatSpur$Node;I)Z"⟩) (y := yX2_belongsLeft) (owner := "ScapegoatSpur$LazyTree") (c_X2_belongsLeftO l G t q x _ hk hq3) (ci := 1) (by assumption) (by decide) rfl k_228 k_0 k_1 k_230 k_61 k_231 rfl hu_X2_belongsLeft ⟨(Nat.le_of_ble_eq_true rfl), (Nat.le_of_ble_eq_true rfl)⟩ rfl (by first | exact Nat.le_of_ble_eq_true rfl | simp [x_crf, Value.category]) rfl rfl D_X2_find_2.2.2.1 ⟨(Nat.le_of_ble_eq_true rfl), (Nat.le_of_ble_eq_true rfl)⟩ (fun r_46 S_46 h_46 => ?_)
          obtain ⟨rfl, rfl⟩ := h_46
          refine x_if_eq C 59 D_X2_find_2.2.2.2.1 (by decide) (fun c_49 => ?_) (fun c_49 => ?_)
          · skip
            refine x_aload_n C D_X2_find_2.2.2.2.2.2.2.2.1 rfl rfl (by first | exact Or.inr ⟨_, rfl⟩ | exact va_rf_or _ | exact Or.inl rfl) ?_
            refine x_getQ C (ci := 2) (k0 := 4) hq3 (by decide) rfl (by decide) in_X3 k_625 rfl rfl D_X2_find_2.2.2.2.2.2.2.2.2.1 ?_
            refine x_eqq _ (show Q2 q 4 = Q q 4 by rw [eQ2, x_up_n _ _ hqn]) ?_
            refine x_astore_n C (lv' := [_, _, _, _]) D_X2_find_2.2.2.2.2.2.2.2.2.2.1 rfl (Nat.le_of_ble_eq_true rfl) (by first | rfl | exact x_ok_q rfl) (by first | exact Or.inr ⟨_, rfl⟩ | exact va_rf_or _ | exact Or.inl rfl) rfl ?_
            refine x_goto C 12 D_X2_find_2.2.2.2.2.2.2.2.2.2.2.1 (by decide) ?_
            exact ih_12 tr_ (Pl + 1) _ _ _ _ _ (by simp only [sz] at hw_12; omega) hTr (fun a ha => hsub a (by simp [ino, ha])) (by simp only [ht] at hH; omega) eI2 eQ2
          · skip
            refine x_aload_n C D_X2_find_2.2.2.2.2.1 rfl rfl (by first | exact Or.inr ⟨_, rfl⟩ | exact va_rf_or _ | exact Or.inl rfl) ?_
            refine x_getQ C (ci := 2) (k0 := 3) hq3 (by decide) rfl (by decide) in_X3 k_622 rfl rfl D_X2_find_2.2.2.2.2.2.1 ?_
            refine x_eqq _ (show Q2 q 3 = Q q 3 by rw [eQ2, x_up_n _ _ hqn]) ?_
            refine x_goto C 63 D_X2_find_2.2.2.2.2.2.2.1 (by decide) ?_
            refine x_astore_n C (lv' := [_, _, _, _]) D_X2_find_2.2.2.2.2.2.2.2.2.2.1 rfl (Nat.le_of_ble_eq_true rfl) (by first | rfl | exact x_ok_q rfl) (by first | exact Or.inr ⟨_, rfl⟩ | exact va_rf_or _ | exact Or.inl rfl) rfl ?_
            refine x_goto C 12 D_X2_find_2.2.2.2.2.2.2.2.2.2.2.1 (by decide) ?_
            exact ih_12 tl_ (Pl + 1) _ _ _ _ _ (by simp only [sz] at hw_12; omega) hTl (fun a ha => hsub a (by simp [ino, ha])) (by simp only [ht] at hH; omega) eI2 eQ2
        · skip
          exact absurd c_37 hI0
          --end
  exact L_12 _ A 0 _ _ Q (Q pn) none (Nat.lt_succ_self _) hT0 (fun _ h => h) (by omega) rfl (x_up_id Q pn).symm
abbrev rm_X7_findO : Room := { frames := 1, cells := 0, slots := 0, locals := 21 }
set_option maxHeartbeats 4000000 in
set_option maxRecDepth 100000 in
theorem c_X7_findO (l : Launch) (G : xG) {K N : Nat → Nat} {I : Nat → Nat → Int32} {Q : Nat → Nat → Option Nat} {J : Nat → Nat → Int64} (t pq pn : Nat) (x : Int32) (A : Tr) (hz : TZ K N Q t pq pn) (hT0 : TP K Q A (Q t 1)) (hnx : ∀ a ∈ ino A, ¬ I a 0 = x) (hA : ht A ≤ 40) : XM l yX7_find cX7_find 3 (some (.object "ScapegoatSpur$Node")) rm_X7_findO G Rq [.ref t, .int x] (K, N, I, Q, J) (fun r S1 => r = none ∧ ∃ n1 g, S1 = (K, N, x_u2 I pq 1 (nI n1), x_up Q pn g, J)) := by
  refine x_metq (lv := [_, _, _]) (by decide +kernel) (x_cc (by first | rfl | exact x_crf _) (x_cc (by first | rfl | exact x_crf _) x_cn)) (Nat.le_of_ble_eq_true rfl) rfl ?_
  intro pP eE sS mM aA bB hH cC Z C hini ret
  obtain ⟨hk, h0, hp⟩ := hz
  refine x_aload_n C D_X7_find_0.1 rfl rfl (by first | exact Or.inr ⟨_, rfl⟩ | exact va_rf_or _ | exact Or.inl rfl) ?_
  refine x_getQ C (ci := 6) (k0 := 0) (by assumption) (by decide) rfl (by decide) in_X7 k_137 rfl rfl D_X7_find_0.2.1 ?_
  refine x_eqr h0 ?_
  refine x_callVv C (y := yX4_empty) (c_X4_empty l G pq hp.1) (ci := 3) hp.1 (by decide) rfl rfl k_288 k_217 k_218 k_63 k_219 hd_X4_empty ⟨(Nat.le_of_ble_eq_true rfl), (Nat.le_of_ble_eq_true rfl)⟩ rfl (by first | exact Nat.le_of_ble_eq_true rfl | simp [x_crf, Value.category]) rfl rfl D_X7_find_0.2.2.1 ⟨(Nat.le_of_ble_eq_true rfl), (Nat.le_of_ble_eq_true rfl)⟩ (fun _ S_4 h_4 => ?_)
  subst h_4
  refine x_aload_n C D_X7_find_0.2.2.2.1 rfl rfl (by first | exact Or.inr ⟨_, rfl⟩ | exact va_rf_or _ | exact Or.inl rfl) ?_
  refine x_getQ C (ci := 6) (k0 := 1) (by assumption) (by decide) rfl (by decide) in_X7 k_138 rfl rfl D_X7_find_0.2.2.2.2.1 ?_
  refine x_eqq _ (rfl : Q t 1 = Q t 1) ?_
  refine x_astore_n C (lv' := [_, _, _]) D_X7_find_0.2.2.2.2.2.1 rfl (Nat.le_of_ble_eq_true rfl) (by first | rfl | exact x_ok_q rfl) (by first | exact Or.inr ⟨_, rfl⟩ | exact va_rf_or _ | exact Or.inl rfl) rfl ?_
  have L_12 : ∀ (w_12 : Nat) (B : Tr) (Pl : Nat) (o : Option Nat) (I1 : Nat → Nat → Int32) (Q1 : Nat → Nat → Option Nat) (g : Nat → Option Nat), sz B < w_12 → (TP K Q B o) → (∀ a ∈ ino B, a ∈ ino A) → (Pl + ht B ≤ 40) → (I1 = x_u2 I pq 1 (nI Pl)) → (Q1 = x_up Q pn g) → XW pP l eE rm_X7_findO sS mM aA bB hH cC G Z 0 0 (K, N, I1, Q1, J) 12 [some (.ref t), some (.int x), some (va_rf o)] [] := by
    intro w_12
    induction w_12 with
    | zero =>
      intro B Pl o I1 Q1 g hw_12
      exact absurd hw_12 (Nat.not_lt_zero _)
    | succ w_12 ih_12 =>
      intro B Pl o I1 Q1 g hw_12 hT hsub hH eI1 eQ1
      refine x_aload_n C D_X7_find_0.2.2.2.2.2.2.1 rfl rfl (by first | exact Or.inr ⟨_, rfl⟩ | exact va_rf_or _ | exact Or.inl rfl) ?_
      refine x_ifnull C 57 D_X7_find_0.2.2.2.2.2.2.2.1 (by decide) (fun e_13 => ?_) (fun q e_13 => ?_)
      · skip
        subst e_13
        obtain rfl := hT.none
        refine x_null C D_X7_find_2.2.2.2.2.2.1 ?_
        refine ret _ _ _ _ _ _ _ ⟨_, rfl⟩ D_X7_find_2.2.2.2.2.2.2 (Nat.le_of_ble_eq_true rfl) (Nat.le_of_ble_eq_true rfl) (by first | exact rfl | exact (rfl : _ = va_rf (some _)) | exact (rfl : _ = va_rf none)) ?_
        refine ⟨rfl, Pl, g, ?_⟩
        rw [eI1, eQ1]
      · skip
        subst e_13
        obtain ⟨tl_, tr_, rfl, hq3, hTl, hTr⟩ := hT.some
        have hI0 := hnx q (hsub q (by simp [ino]))
        have hqt : q ≠ pq := nodes_ne hq3 hp.1 (by omega)
        have hqn : q ≠ pn := nodes_ne hq3 hp.2.2.1 (by omega)
        have hPl : Pl < 40 := by
          simp only [ht] at hH
          omega
        have hrow : RowOK K N I1 Q1 pq pn 40 Pl := by rw [eI1, eQ1]; exact (hp.row g).ok (x_u2_s _ _ _ _) (by omega)
        refine x_aload_n C D_X7_find_0.2.2.2.2.2.2.2.2.1 rfl rfl (by first | exact Or.inr ⟨_, rfl⟩ | exact va_rf_or _ | exact Or.inl rfl) ?_
        refine x_getQ C (ci := 6) (k0 := 0) (by assumption) (by decide) rfl (by decide) in_X7 k_137 rfl rfl D_X7_find_0.2.2.2.2.2.2.2.2.2.1 ?_
        refine x_eqr (show Q1 t 0 = some pq by rw [eQ1, x_up_n _ _ (fun e => by have := hk; rw [e, hp.2.2.1] at this; omega)]; exact h0) ?_
        refine x_aload_n C D_X7_find_0.2.2.2.2.2.2.2.2.2.2.1 rfl rfl (by first | exact Or.inr ⟨_, rfl⟩ | exact va_rf_or _ | exact Or.inl rfl) ?_
        refine x_callVv C (y := yX4_append) (c_X4_append l G pq pn 40 Pl q hrow hq3 hPl) (ci := 3) hp.1 (by decide) rfl rfl k_289 k_225 k_226 k_63 k_227 hd_X4_append ⟨(Nat.le_of_ble_eq_true rfl), (Nat.le_of_ble_eq_true rfl)⟩ rfl (by first | exact Nat.le_of_ble_eq_true rfl | simp [x_crf, Value.category]) rfl rfl D_X7_find_0.2.2.2.2.2.2.2.2.2.2.2 ⟨(Nat.le_of_ble_eq_true rfl), (Nat.le_of_ble_eq_true rfl)⟩ (fun _ S_21 h_21 => ?_)
        obtain ⟨I2, Q2, rfl, eI2, eQ2⟩ : ∃ I2 Q2, S_21 = (K, N, I2, Q2, J) ∧ I2 = x_u2 I pq 1 (nI (Pl + 1)) ∧ Q2 = x_up Q pn (x_up g Pl (some q)) := ⟨_, _, h_21, by rw [eI1, x_u2_u2], by rw [eQ1, x_u2_up]⟩
        have hq0 : I2 q 0 = I q 0 := by rw [eI2, x_u2_a _ _ hqt]
        refine x_aload_n C D_X7_find_1.1 rfl rfl (by first | exact Or.inr ⟨_, rfl⟩ | exact va_rf_or _ | exact Or.inl rfl) ?_
        refine x_getI C (ci := 2) (k0 := 0) hq3 (by decide) rfl (by decide) in_X3 k_609 rfl rfl D_X7_find_1.2.1 ?_
        refine x_eqi _ hq0 ?_
        refine x_iload_n C D_X7_find_1.2.2.1 rfl rfl ?_
        refine x_icmp_ne C 34 D_X7_find_1.2.2.2.1 (by decide) (fun c_29 => ?_) (fun c_29 => ?_)
        · skip
          refine x_iload_n C D_X7_find_1.2.2.2.2.2.2.1 rfl rfl ?_
          refine x_aload_n C D_X7_find_1.2.2.2.2.2.2.2.1 rfl rfl (by first | exact Or.inr ⟨_, rfl⟩ | exact va_rf_or _ | exact Or.inl rfl) ?_
          refine x_getI C (ci := 2) (k0 := 0) hq3 (by decide) rfl (by decide) in_X3 k_609 rfl rfl D_X7_find_1.2.2.2.2.2.2.2.2.1 ?_
          refine x_eqi _ hq0 ?_
          refine x_icmp_ge C 49 D_X7_find_1.2.2.2.2.2.2.2.2.2.1 (by decide) (fun c_39 => ?_) (fun c_39 => ?_)
          · skip
            refine x_aload_n C D_X7_find_2.2.1 rfl rfl (by first | exact Or.inr ⟨_, rfl⟩ | exact va_rf_or _ | exact Or.inl rfl) ?_
            refine x_getQ C (ci := 2) (k0 := 4) hq3 (by decide) rfl (by decide) in_X3 k_623 rfl rfl D_X7_find_2.2.2.1 ?_
            refine x_eqq _ (show Q2 q 4 = Q q 4 by rw [eQ2, x_up_n _ _ hqn]) ?_
            refine x_astore_n C (lv' := [_, _, _]) D_X7_find_2.2.2.2.1 rfl (Nat.le_of_ble_eq_true rfl) (by first | rfl | exact x_ok_q rfl) (by first | exact Or.inr ⟨_, rfl⟩ | exact va_rf_or _ | exact Or.inl rfl) rfl ?_
            refine x_goto C 12 D_X7_find_2.2.2.2.2.1 (by decide) ?_
            exact ih_12 tr_ (Pl + 1) _ _ _ _ (by simp only [sz] at hw_12; omega) hTr (fun a ha => hsub a (by simp [ino, ha])) (by simp only [ht] at hH; omega) eI2 eQ2
          · skip
            refine x_aload_n C D_X7_find_1.2.2.2.2.2.2.2.2.2.2.1 rfl rfl (by first | exact Or.inr ⟨_, rfl⟩ | exact va_rf_or _ | exact Or.inl rfl) ?_
            refine x_getQ C (ci := 2) (k0 := 3) hq3 (by decide) rfl (by decide) in_X3 k_620 rfl rfl D_X7_find_1.2.2.2.2.2.2.2.2.2.2.2 ?_
            refine x_eqq _ (show Q2 q 3 = Q q 3 by rw [eQ2, x_up_n _ _ hqn]) ?_
            refine x_goto C 53 D_X7_find_2.1 (by decide) ?_
            refine x_astore_n C (lv' := [_, _, _]) D_X7_find_2.2.2.2.1 rfl (Nat.le_of_ble_eq_true rfl) (by first | rfl | exact x_ok_q rfl) (by first | exact Or.inr ⟨_, rfl⟩ | exact va_rf_or _ | exact Or.inl rfl) rfl ?_
            refine x_goto C 12 D_X7_find_2.2.2.2.2.1 (by decide) ?_
            exact ih_12 tl_ (Pl + 1) _ _ _ _ (by simp only [sz] at hw_12; omega) hTl (fun a ha => hsub a (by simp [ino, ha])) (by simp only [ht] at hH; omega) eI2 eQ2
        · skip
          exact absurd c_29 hI0
          --end
  exact L_12 _ A 0 _ _ Q (Q pn) (Nat.lt_succ_self _) hT0 (fun _ h => h) (by omega) rfl (x_up_id Q pn).symm
abbrev rm_X2_depthOfO : Room := { frames := 3, cells := 0, slots := 0, locals := 68 }
set_option maxHeartbeats 4000000 in
set_option maxRecDepth 100000 in
theorem c_X2_depthOfO (l : Launch) (G : xG) {K N : Nat → Nat} {I : Nat → Nat → Int32} {Q : Nat → Nat → Option Nat} {J : Nat → Nat → Int64} (t pq pn rw rn cap : Nat) (x : Int32) (A : Tr) (hz : LZ K N Q t 2 pq pn rw rn cap) (hT0 : TP K Q A (Q t 2)) (hnx : ∀ a ∈ ino A, ¬ I a 0 = x) (hA : ht A ≤ 40) : XM l yX2_depthOf cX2_depthOf 2 (some .int) rm_X2_depthOfO G Ri [.ref t, .int x] (K, N, I, Q, J) (fun r S1 => r = (-1) ∧ ∃ n1 g, S1 = (K, N, x_u2 I pq 1 (nI n1), x_up Q pn g, J)) := by
  refine x_meti (lv := [_, _]) (by decide +kernel) (x_cc (by first | rfl | exact x_crf _) (x_cc (by first | rfl | exact x_crf _) x_cn)) (Nat.le_of_ble_eq_true rfl) rfl ?_
  intro pP eE sS mM aA bB hH cC Z C hini ret
  refine x_aload_n C D_X2_depthOf_0.1 rfl rfl (by first | exact Or.inr ⟨_, rfl⟩ | exact va_rf_or _ | exact Or.inl rfl) ?_
  refine x_iload_n C D_X2_depthOf_0.2.1 rfl rfl ?_
  refine x_callUq C (x := ⟨"ScapegoatSpur$LazyTree", "find", "(I)LScapegoatSpur$Node;"⟩) (y := yX2_find) (owner := "ScapegoatSpur$LazyTree") (c_X2_findO l G t pq pn rw rn cap x A hz hT0 hnx hA) (ci := 1) hz.1 (by decide) rfl k_210 k_212 k_213 k_211 k_61 k_215 rfl hu_X2_find ⟨(Nat.le_of_ble_eq_true rfl), (Nat.le_of_ble_eq_true rfl)⟩ rfl (by first | exact Nat.le_of_ble_eq_true rfl | simp [x_crf, Value.category]) rfl rfl D_X2_depthOf_0.2.2.1 ⟨(Nat.le_of_ble_eq_true rfl), (Nat.le_of_ble_eq_true rfl)⟩ (fun r_2 S_2 h_2 => ?_)
  obtain ⟨hr, n1, g, rfl⟩ := h_2
  subst hr
  refine x_ifnonnull C 12 D_X2_depthOf_0.2.2.2.1 (by decide) (fun q_5 e_5 => ?_) (fun e_5 => ?_)
  · skip
    exact absurd e_5 (by simp)
    --end
  · skip
    refine x_iconst C (v := (-1)) D_X2_depthOf_0.2.2.2.2.1 (by decide +kernel) ?_
    refine x_goto C 21 D_X2_depthOf_0.2.2.2.2.2.1 (by decide) ?_
    refine ret _ _ _ _ _ _ rfl D_X2_depthOf_0.2.2.2.2.2.2.2.2.2.2.2 (Nat.le_of_ble_eq_true rfl) (Nat.le_of_ble_eq_true rfl) ?_
    exact ⟨rfl, n1, g, rfl⟩
abbrev rm_X7_depthOfO : Room := { frames := 2, cells := 0, slots := 0, locals := 43 }
set_option maxHeartbeats 4000000 in
set_option maxRecDepth 100000 in
theorem c_X7_depthOfO (l : Launch) (G : xG) {K N : Nat → Nat} {I : Nat → Nat → Int32} {Q : Nat → Nat → Option Nat} {J : Nat → Nat → Int64} (t pq pn : Nat) (x : Int32) (A : Tr) (hz : TZ K N Q t pq pn) (hT0 : TP K Q A (Q t 1)) (hnx : ∀ a ∈ ino A, ¬ I a 0 = x) (hA : ht A ≤ 40) : XM l yX7_depthOf cX7_depthOf 2 (some .int) rm_X7_depthOfO G Ri [.ref t, .int x] (K, N, I, Q, J) (fun r S1 => r = (-1) ∧ ∃ n1 g, S1 = (K, N, x_u2 I pq 1 (nI n1), x_up Q pn g, J)) := by
  refine x_meti (lv := [_, _]) (by decide +kernel) (x_cc (by first | rfl | exact x_crf _) (x_cc (by first | rfl | exact x_crf _) x_cn)) (Nat.le_of_ble_eq_true rfl) rfl ?_
  intro pP eE sS mM aA bB hH cC Z C hini ret
  refine x_aload_n C D_X7_depthOf_0.1 rfl rfl (by first | exact Or.inr ⟨_, rfl⟩ | exact va_rf_or _ | exact Or.inl rfl) ?_
  refine x_iload_n C D_X7_depthOf_0.2.1 rfl rfl ?_
  refine x_callVq C (y := yX7_find) (c_X7_findO l G t pq pn x A hz hT0 hnx hA) (ci := 6) hz.1 (by decide) rfl rfl k_284 k_286 k_21 k_64 k_287 hd_X7_find ⟨(Nat.le_of_ble_eq_true rfl), (Nat.le_of_ble_eq_true rfl)⟩ rfl (by first | exact Nat.le_of_ble_eq_true rfl | simp [x_crf, Value.category]) rfl rfl D_X7_depthOf_0.2.2.1 ⟨(Nat.le_of_ble_eq_true rfl), (Nat.le_of_ble_eq_true rfl)⟩ (fun r_2 S_2 h_2 => ?_)
  obtain ⟨hr, n1, g, rfl⟩ := h_2
  subst hr
  refine x_ifnonnull C 12 D_X7_depthOf_0.2.2.2.1 (by decide) (fun q_5 e_5 => ?_) (fun e_5 => ?_)
  · skip
    exact absurd e_5 (by simp)
    --end
  · skip
    refine x_iconst C (v := (-1)) D_X7_depthOf_0.2.2.2.2.1 (by decide +kernel) ?_
    refine x_goto C 21 D_X7_depthOf_0.2.2.2.2.2.1 (by decide) ?_
    refine ret _ _ _ _ _ _ rfl D_X7_depthOf_0.2.2.2.2.2.2.2.2.2.2.2 (Nat.le_of_ble_eq_true rfl) (Nat.le_of_ble_eq_true rfl) ?_
    exact ⟨rfl, n1, g, rfl⟩
abbrev rm_X6_findO : Room := { frames := 0, cells := 0, slots := 0, locals := 0 }
set_option maxHeartbeats 4000000 in
set_option maxRecDepth 100000 in
theorem c_X6_findO (l : Launch) (G : xG) {K N : Nat → Nat} {I : Nat → Nat → Int32} {Q : Nat → Nat → Option Nat} {J : Nat → Nat → Int64} (t : Nat) (x : Int32) (lst : List Nat) (h : K t = 6) (hC0 : CH K Q lst (Q t 0)) (hnx : ∀ a ∈ lst, ¬ I a 0 = x) : XM l yX6_find cX6_find 3 (some (.object "ScapegoatSpur$Entry")) rm_X6_findO G Rq [.ref t, .int x] (K, N, I, Q, J) (fun r S1 => r = none ∧ S1 = (K, N, I, Q, J)) := by
  refine x_metq (lv := [_, _, _]) (by decide +kernel) (x_cc (by first | rfl | exact x_crf _) (x_cc (by first | rfl | exact x_crf _) x_cn)) (Nat.le_of_ble_eq_true rfl) rfl ?_
  intro pP eE sS mM aA bB hH cC Z C hini ret
  refine x_aload_n C D_X6_find_0.1 rfl rfl (by first | exact Or.inr ⟨_, rfl⟩ | exact va_rf_or _ | exact Or.inl rfl) ?_
  refine x_getQ C (ci := 5) (k0 := 0) h (by decide) rfl (by decide) in_X6 k_153 rfl rfl D_X6_find_0.2.1 ?_
  refine x_eqq _ (rfl : Q t 0 = Q t 0) ?_
  refine x_astore_n C (lv' := [_, _, _]) D_X6_find_0.2.2.1 rfl (Nat.le_of_ble_eq_true rfl) (by first | rfl | exact x_ok_q rfl) (by first | exact Or.inr ⟨_, rfl⟩ | exact va_rf_or _ | exact Or.inl rfl) rfl ?_
  have L_5 : ∀ (w_5 : Nat) (B : List Nat) (o : Option Nat), B.length < w_5 → (CH K Q B o) → (∀ a ∈ B, ¬ I a 0 = x) → XW pP l eE rm_X6_findO sS mM aA bB hH cC G Z 0 0 (K, N, I, Q, J) 5 [some (.ref t), some (.int x), some (va_rf o)] [] := by
    intro w_5
    induction w_5 with
    | zero =>
      intro B o hw_5
      exact absurd hw_5 (Nat.not_lt_zero _)
    | succ w_5 ih_5 =>
      intro B o hw_5 hC hNB
      refine x_aload_n C D_X6_find_0.2.2.2.1 rfl rfl (by first | exact Or.inr ⟨_, rfl⟩ | exact va_rf_or _ | exact Or.inl rfl) ?_
      refine x_ifnull C 27 D_X6_find_0.2.2.2.2.1 (by decide) (fun e_6 => ?_) (fun a9 e_6 => ?_)
      · skip
        subst e_6
        obtain rfl := hC.none
        refine x_null C D_X6_find_1.2.2.2.1 ?_
        refine ret _ _ _ _ _ _ _ ⟨_, rfl⟩ D_X6_find_1.2.2.2.2 (Nat.le_of_ble_eq_true rfl) (Nat.le_of_ble_eq_true rfl) (by first | exact rfl | exact (rfl : _ = va_rf (some _)) | exact (rfl : _ = va_rf none)) ?_
        exact ⟨rfl, rfl⟩
      · skip
        subst e_6
        obtain ⟨l9, rfl, hk9, hCl⟩ := hC.some
        have hn1 := hNB a9 (by simp)
        refine x_aload_n C D_X6_find_0.2.2.2.2.2.1 rfl rfl (by first | exact Or.inr ⟨_, rfl⟩ | exact va_rf_or _ | exact Or.inl rfl) ?_
        refine x_getI C (ci := 0) (k0 := 0) hk9 (by decide) rfl (by decide) in_X0 k_679 rfl rfl D_X6_find_0.2.2.2.2.2.2.1 ?_
        refine x_iload_n C D_X6_find_0.2.2.2.2.2.2.2.1 rfl rfl ?_
        refine x_icmp_ne C 19 D_X6_find_0.2.2.2.2.2.2.2.2.1 (by decide) (fun c_14 => ?_) (fun c_14 => ?_)
        · skip
          refine x_aload_n C D_X6_find_0.2.2.2.2.2.2.2.2.2.2.2 rfl rfl (by first | exact Or.inr ⟨_, rfl⟩ | exact va_rf_or _ | exact Or.inl rfl) ?_
          refine x_getQ C (ci := 0) (k0 := 3) hk9 (by decide) rfl (by decide) in_X0 k_686 rfl rfl D_X6_find_1.1 ?_
          refine x_eqq _ (rfl : Q a9 3 = Q a9 3) ?_
          refine x_astore_n C (lv' := [_, _, _]) D_X6_find_1.2.1 rfl (Nat.le_of_ble_eq_true rfl) (by first | rfl | exact x_ok_q rfl) (by first | exact Or.inr ⟨_, rfl⟩ | exact va_rf_or _ | exact Or.inl rfl) rfl ?_
          refine x_goto C 5 D_X6_find_1.2.2.1 (by decide) ?_
          exact ih_5 l9 _ (by simp only [List.length_cons] at hw_5; omega) hCl (fun a ha => hNB a (by simp [ha]))
        · skip
          exact absurd c_14 hn1
          --end
  exact L_5 _ lst _ (Nat.lt_succ_self _) hC0 hnx
abbrev rm_X6_holdsO : Room := { frames := 1, cells := 0, slots := 0, locals := 22 }
set_option maxHeartbeats 4000000 in
set_option maxRecDepth 100000 in
theorem c_X6_holdsO (l : Launch) (G : xG) {K N : Nat → Nat} {I : Nat → Nat → Int32} {Q : Nat → Nat → Option Nat} {J : Nat → Nat → Int64} (t : Nat) (x : Int32) (lst : List Nat) (h : K t = 6) (hC0 : CH K Q lst (Q t 0)) (hnx : ∀ a ∈ lst, ¬ I a 0 = x) : XM l yX6_holds cX6_holds 3 (some .boolean) rm_X6_holdsO G Rz [.ref t, .int x] (K, N, I, Q, J) (fun r S1 => r = false ∧ S1 = (K, N, I, Q, J)) := by
  refine x_metz (lv := [_, _, _]) (by decide +kernel) (x_cc (by first | rfl | exact x_crf _) (x_cc (by first | rfl | exact x_crf _) x_cn)) (Nat.le_of_ble_eq_true rfl) rfl ?_
  intro pP eE sS mM aA bB hH cC Z C hini ret
  refine x_aload_n C D_X6_holds_0.1 rfl rfl (by first | exact Or.inr ⟨_, rfl⟩ | exact va_rf_or _ | exact Or.inl rfl) ?_
  refine x_iload_n C D_X6_holds_0.2.1 rfl rfl ?_
  refine x_callVq C (y := yX6_find) (c_X6_findO l G t x lst h hC0 hnx) (ci := 5) h (by decide) rfl rfl k_200 k_201 k_202 k_65 k_203 hd_X6_find ⟨(Nat.le_of_ble_eq_true rfl), (Nat.le_of_ble_eq_true rfl)⟩ rfl (by first | exact Nat.le_of_ble_eq_true rfl | simp [x_crf, Value.category]) rfl rfl D_X6_holds_0.2.2.1 ⟨(Nat.le_of_ble_eq_true rfl), (Nat.le_of_ble_eq_true rfl)⟩ (fun r_2 S_2 h_2 => ?_)
  obtain ⟨hr, rfl⟩ := h_2
  subst hr
  refine x_astore_n C (lv' := [_, _, _]) D_X6_holds_0.2.2.2.1 rfl (Nat.le_of_ble_eq_true rfl) (by first | rfl | exact x_ok_q rfl) (by first | exact Or.inr ⟨_, rfl⟩ | exact va_rf_or _ | exact Or.inl rfl) rfl ?_
  refine x_aload_n C D_X6_holds_0.2.2.2.2.1 rfl rfl (by first | exact Or.inr ⟨_, rfl⟩ | exact va_rf_or _ | exact Or.inl rfl) ?_
  refine x_ifnull C 21 D_X6_holds_0.2.2.2.2.2.1 (by decide) (fun e_7 => ?_) (fun q_7 e_7 => ?_)
  · skip
    refine x_iconst C (v := nI 0) D_X6_holds_0.2.2.2.2.2.2.2.2.2.2.2 (by decide +kernel) ?_
    refine ret _ _ _ _ _ _ false rfl D_X6_holds_1 (Nat.le_of_ble_eq_true rfl) (Nat.le_of_ble_eq_true rfl) rfl ?_
    exact ⟨rfl, rfl⟩
  · skip
    exact absurd e_7 (by simp)
    --end
