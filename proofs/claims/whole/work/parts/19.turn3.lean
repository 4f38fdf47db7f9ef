def TZ (K N : Nat → Nat) (Q : Nat → Nat → Option Nat) (t pq pn : Nat) : Prop := K t = 7 ∧ Q t 0 = some pq ∧ RowS K N Q pq pn 40
abbrev rm_X7_find : Room := { frames := 1, cells := 0, slots := 0, locals := 21 }
set_option maxHeartbeats 4000000 in
set_option maxRecDepth 100000 in
theorem c_X7_find (l : Launch) (G : xG) {K N : Nat → Nat} {I : Nat → Nat → Int32} {Q : Nat → Nat → Option Nat} {J : Nat → Nat → Int64} (t pq pn c : Nat) (A : Tr) (cd : Nat → Nat) (hz : TZ K N Q t pq pn) (hT0 : TP K Q A (Q t 1)) (hnd : ND cv1 1999 K I cd (ino A)) (hA : ht A ≤ 40) (hc : c < 1999) : XM l yX7_find cX7_find 3 (some (.object "ScapegoatSpur$Node")) rm_X7_find G Rq [.ref t, .int (cv1 c)] (K, N, I, Q, J) (fun r S1 => r = sfind od1 cd c A 0 ∧ (∃ g, S1 = (K, N, x_u2 I pq 1 (nI (spath od1 cd c A 0).length), x_up Q pn g, J) ∧ SEG g 0 (spath od1 cd c A 0))) := by
  refine x_metq (lv := [_, _, _]) (by decide +kernel) (x_cc (by first | rfl | exact x_crf _) (x_cc (by first | rfl | exact x_crf _) x_cn)) (Nat.le_of_ble_eq_true rfl) rfl ?_
  intro pP eE sS mM aA bB hH cC Z C hini ret
  obtain ⟨hk, h0, hp⟩ := hz
  refine x_aload_n C D_X7_find_0.1 rfl rfl (by first | exact Or.inr ⟨_, rfl⟩ | exact va_rf_or _ | exact Or.inl rfl) ?_
  refine x_getQ C (ci := 6) (k0 := 0) (by assumption) (by decide) rfl (by decide) in_X7 k_137 rfl rfl D_X7_find_0.2.1 ?_
  refine x_eqr h0 ?_
  refine x_callVv C (y := yX4_empty) (c_X4_empty l G pq hp.1) (ci := 3) hp.1 (by decide) rfl rfl k_288 k_217 k_218 k_63 k_219 hd_X4_empty ⟨(Nat.le_of_ble_eq_true rfl), (Nat.le_of_ble_eq_true rfl)⟩ rfl (by first | exact Nat.le_of_ble_eq_true rfl | simp [x_crf, Value.category]) rfl rfl D_X7_find_0.2.2.1 ⟨(Nat.le_of_ble_eq_true rfl), (Nat.le_of_ble_eq_true rfl)⟩ (fun _ S_4 h_4 => ?_)
  subst h_4
  refine x_aload_n C D_X7_find_0.2.2.2.1 rfl rfl (by first | exact Or.inr ⟨_, rfl⟩ | exact va_rf_or _ | exact Or.inl rfl) ?_
  refine x_getQ C (ci := 6) (k0 := 1) (by assumption) (by decide) rfl (by decide) in_X7 k_138 rfl rfl D_X7_find_0.2.2.2.2.1 ?_
  refine x_eqq _ (rfl : Q t 1 = Q t 1) ?_
  refine x_astore_n C (lv' := [_, _, _]) D_X7_find_0.2.2.2.2.2.1 rfl (Nat.le_of_ble_eq_true rfl) (by first | rfl | exact x_ok_q rfl) (by first | exact Or.inr ⟨_, rfl⟩ | exact va_rf_or _ | exact Or.inl rfl) rfl ?_
  have L_12 : ∀ (w_12 : Nat) (B : Tr) (Pw : List Nat) (o : Option Nat) (I1 : Nat → Nat → Int32) (Q1 : Nat → Nat → Option Nat) (g : Nat → Option Nat), sz B < w_12 → (TP K Q B o) → (∀ a ∈ ino B, a ∈ ino A) → (spath od1 cd c A 0 = Pw ++ spath od1 cd c B Pw.length) → (sfind od1 cd c B Pw.length = sfind od1 cd c A 0) → (I1 = x_u2 I pq 1 (nI Pw.length)) → (Q1 = x_up Q pn g) → (SEG g 0 Pw) → XW pP l eE rm_X7_find sS mM aA bB hH cC G Z 0 0 (K, N, I1, Q1, J) 12 [some (.ref t), some (.int (cv1 c)), some (va_rf o)] [] := by
    intro w_12
    induction w_12 with
    | zero =>
      intro B Pw o I1 Q1 g hw_12
      exact absurd hw_12 (Nat.not_lt_zero _)
    | succ w_12 ih_12 =>
      intro B Pw o I1 Q1 g hw_12 hT hsub hP hF eI1 eQ1 hseg_
      refine x_aload_n C D_X7_find_0.2.2.2.2.2.2.1 rfl rfl (by first | exact Or.inr ⟨_, rfl⟩ | exact va_rf_or _ | exact Or.inl rfl) ?_
      refine x_ifnull C 57 D_X7_find_0.2.2.2.2.2.2.2.1 (by decide) (fun e_13 => ?_) (fun q e_13 => ?_)
      · skip
        subst e_13
        obtain rfl := hT.none
        simp only [spath, List.append_nil] at hP
        subst hP
        refine x_null C D_X7_find_2.2.2.2.2.2.1 ?_
        refine ret _ _ _ _ _ _ _ ⟨_, rfl⟩ D_X7_find_2.2.2.2.2.2.2 (Nat.le_of_ble_eq_true rfl) (Nat.le_of_ble_eq_true rfl) (by first | exact rfl | exact (rfl : _ = va_rf (some _)) | exact (rfl : _ = va_rf none)) ?_
        refine ⟨hF, g, ?_, hseg_⟩
        rw [eI1, eQ1]
      · skip
        subst e_13
        obtain ⟨tl_, tr_, rfl, hq3, hTl, hTr⟩ := hT.some
        obtain ⟨hK3, hI0, hcd⟩ := hnd q (hsub q (by simp [ino]))
        have hqt : q ≠ pq := nodes_ne hK3 hp.1 (by omega)
        have hqn : q ≠ pn := nodes_ne hK3 hp.2.2.1 (by omega)
        have hPl : Pw.length < 40 := by
          have h7 : (Pw ++ spath od1 cd c (.branch q tl_ tr_) Pw.length).length ≤ ht A := by rw [← hP]; exact spath_len _ _ _ _ _
          simp [spath] at h7
          omega
        have hrow : RowOK K N I1 Q1 pq pn 40 Pw.length := by rw [eI1, eQ1]; exact (hp.row g).ok (x_u2_s _ _ _ _) (by omega)
        refine x_aload_n C D_X7_find_0.2.2.2.2.2.2.2.2.1 rfl rfl (by first | exact Or.inr ⟨_, rfl⟩ | exact va_rf_or _ | exact Or.inl rfl) ?_
        refine x_getQ C (ci := 6) (k0 := 0) (by assumption) (by decide) rfl (by decide) in_X7 k_137 rfl rfl D_X7_find_0.2.2.2.2.2.2.2.2.2.1 ?_
        refine x_eqr (show Q1 t 0 = some pq by rw [eQ1, x_up_n _ _ (fun e => by have := hk; rw [e, hp.2.2.1] at this; omega)]; exact h0) ?_
        refine x_aload_n C D_X7_find_0.2.2.2.2.2.2.2.2.2.2.1 rfl rfl (by first | exact Or.inr ⟨_, rfl⟩ | exact va_rf_or _ | exact Or.inl rfl) ?_
        refine x_callVv C (y := yX4_append) (c_X4_append l G pq pn 40 Pw.length q hrow hq3 hPl) (ci := 3) hp.1 (by decide) rfl rfl k_289 k_225 k_226 k_63 k_227 hd_X4_append ⟨(Nat.le_of_ble_eq_true rfl), (Nat.le_of_ble_eq_true rfl)⟩ rfl (by first | exact Nat.le_of_ble_eq_true rfl | simp [x_crf, Value.category]) rfl rfl D_X7_find_0.2.2.2.2.2.2.2.2.2.2.2 ⟨(Nat.le_of_ble_eq_true rfl), (Nat.le_of_ble_eq_true rfl)⟩ (fun _ S_21 h_21 => ?_)
        obtain ⟨I2, Q2, rfl, eI2, eQ2⟩ : ∃ I2 Q2, S_21 = (K, N, I2, Q2, J) ∧ I2 = x_u2 I pq 1 (nI (Pw ++ [q]).length) ∧ Q2 = x_up Q pn (x_up g Pw.length (some q)) := ⟨_, _, h_21, by rw [eI1, x_u2_u2]; simp, by rw [eQ1, x_u2_up]⟩
        have hseg2 : SEG (x_up g Pw.length (some q)) 0 (Pw ++ [q]) := by
          intro i hi
          simp at hi
          by_cases e : i = Pw.length
          · subst e; simp [x_up]
          · rw [Nat.zero_add, x_up_n _ _ e, List.getElem?_append_left (by omega)]
            have := hseg_ i (by omega)
            rwa [Nat.zero_add] at this
        refine x_aload_n C D_X7_find_1.1 rfl rfl (by first | exact Or.inr ⟨_, rfl⟩ | exact va_rf_or _ | exact Or.inl rfl) ?_
        refine x_getI C (ci := 2) (k0 := 0) hq3 (by decide) rfl (by decide) in_X3 k_609 rfl rfl D_X7_find_1.2.1 ?_
        refine x_eqi _ (show I2 q 0 = cv1 (cd q) by rw [eI2, x_u2_a _ _ hqt]; exact hI0) ?_
        refine x_iload_n C D_X7_find_1.2.2.1 rfl rfl ?_
        refine x_icmp_ne C 34 D_X7_find_1.2.2.2.1 (by decide) (fun c_29 => ?_) (fun c_29 => ?_)
        · skip
          have c1 : ¬ cd q = c := fun h => c_29 (by rw [h])
          refine x_iload_n C D_X7_find_1.2.2.2.2.2.2.1 rfl rfl ?_
          refine x_aload_n C D_X7_find_1.2.2.2.2.2.2.2.1 rfl rfl (by first | exact Or.inr ⟨_, rfl⟩ | exact va_rf_or _ | exact Or.inl rfl) ?_
          refine x_getI C (ci := 2) (k0 := 0) hq3 (by decide) rfl (by decide) in_X3 k_609 rfl rfl D_X7_find_1.2.2.2.2.2.2.2.2.1 ?_
          refine x_eqi _ (show I2 q 0 = cv1 (cd q) by rw [eI2, x_u2_a _ _ hqt]; exact hI0) ?_
          refine x_icmp_ge C 49 D_X7_find_1.2.2.2.2.2.2.2.2.2.1 (by decide) (fun c_39 => ?_) (fun c_39 => ?_)
          · skip
            have c2 : ¬ od1 Pw.length c < od1 Pw.length (cd q) := fun h => by
              have h1 := i32_le.mp c_39
              rw [cv1_toInt hc, cv1_toInt hcd] at h1
              simp only [od1] at h
              omega
            have hP2 : spath od1 cd c A 0 = (Pw ++ [q]) ++ spath od1 cd c tr_ (Pw ++ [q]).length := by rw [hP]; simp [spath, c1, c2]
            have hF2 : sfind od1 cd c tr_ (Pw ++ [q]).length = sfind od1 cd c A 0 := by rw [← hF]; simp [sfind, c1, c2]
            refine x_aload_n C D_X7_find_2.2.1 rfl rfl (by first | exact Or.inr ⟨_, rfl⟩ | exact va_rf_or _ | exact Or.inl rfl) ?_
            refine x_getQ C (ci := 2) (k0 := 4) hq3 (by decide) rfl (by decide) in_X3 k_623 rfl rfl D_X7_find_2.2.2.1 ?_
            refine x_eqq _ (show Q2 q 4 = Q q 4 by rw [eQ2, x_up_n _ _ hqn]) ?_
            refine x_astore_n C (lv' := [_, _, _]) D_X7_find_2.2.2.2.1 rfl (Nat.le_of_ble_eq_true rfl) (by first | rfl | exact x_ok_q rfl) (by first | exact Or.inr ⟨_, rfl⟩ | exact va_rf_or _ | exact Or.inl rfl) rfl ?_
            refine x_goto C 12 D_X7_find_2.2.2.2.2.1 (by decide) ?_
            exact ih_12 tr_ (Pw ++ [q]) _ _ _ _ (by simp only [sz] at hw_12; omega) hTr (fun a ha => hsub a (by simp [ino, ha])) hP2 hF2 eI2 eQ2 hseg2
          · skip
            have c2 : od1 Pw.length c < od1 Pw.length (cd q) := by
              rw [i32_le, cv1_toInt hc, cv1_toInt hcd] at c_39
              simp only [od1]
              omega
            have hP2 : spath od1 cd c A 0 = (Pw ++ [q]) ++ spath od1 cd c tl_ (Pw ++ [q]).length := by rw [hP]; simp [spath, c1, c2]
            have hF2 : sfind od1 cd c tl_ (Pw ++ [q]).length = sfind od1 cd c A 0 := by rw [← hF]; simp [sfind, c1, c2]
            refine x_aload_n C D_X7_find_1.2.2.2.2.2.2.2.2.2.2.1 rfl rfl (by first | exact Or.inr ⟨_, rfl⟩ | exact va_rf_or _ | exact Or.inl rfl) ?_
            refine x_getQ C (ci := 2) (k0 := 3) hq3 (by decide) rfl (by decide) in_X3 k_620 rfl rfl D_X7_find_1.2.2.2.2.2.2.2.2.2.2.2 ?_
            refine x_eqq _ (show Q2 q 3 = Q q 3 by rw [eQ2, x_up_n _ _ hqn]) ?_
            refine x_goto C 53 D_X7_find_2.1 (by decide) ?_
            refine x_astore_n C (lv' := [_, _, _]) D_X7_find_2.2.2.2.1 rfl (Nat.le_of_ble_eq_true rfl) (by first | rfl | exact x_ok_q rfl) (by first | exact Or.inr ⟨_, rfl⟩ | exact va_rf_or _ | exact Or.inl rfl) rfl ?_
            refine x_goto C 12 D_X7_find_2.2.2.2.2.1 (by decide) ?_
            exact ih_12 tl_ (Pw ++ [q]) _ _ _ _ (by simp only [sz] at hw_12; omega) hTl (fun a ha => hsub a (by simp [ino, ha])) hP2 hF2 eI2 eQ2 hseg2
        · skip
          have c1 : cd q = c := (cv1_eq hcd hc).mp c_29
          refine x_aload_n C D_X7_find_1.2.2.2.2.1 rfl rfl (by first | exact Or.inr ⟨_, rfl⟩ | exact va_rf_or _ | exact Or.inl rfl) ?_
          refine ret _ _ _ _ _ _ _ ⟨_, rfl⟩ D_X7_find_1.2.2.2.2.2.1 (Nat.le_of_ble_eq_true rfl) (Nat.le_of_ble_eq_true rfl) (by first | exact rfl | exact (rfl : _ = va_rf (some _)) | exact (rfl : _ = va_rf none)) ?_
          refine ⟨by rw [← hF]; simp [sfind, c1], x_up g Pw.length (some q), ?_, ?_⟩
          · rw [hP]
            simp only [spath, c1, if_true]
            rw [eI2, eQ2]
          · rw [hP]
            simp only [spath, c1, if_true]
            exact hseg2
  exact L_12 _ A [] _ _ Q (Q pn) (Nat.lt_succ_self _) hT0 (fun _ h => h) rfl rfl rfl (x_up_id Q pn).symm (fun i hi => absurd hi (Nat.not_lt_zero _))
abbrev rm_X7_depthOf : Room := { frames := 2, cells := 0, slots := 0, locals := 43 }
theorem hd_X7_find : yX7_find.cls ≠ "java/lang/invoke/MethodHandle" ∧ yX7_find.cls ≠ "java/lang/invoke/VarHandle" ∧ (parseMethodDescriptor yX7_find.desc).map (fun d => d.parameters.length) = some 1 := by decide +kernel
set_option maxHeartbeats 4000000 in
set_option maxRecDepth 100000 in
theorem c_X7_depthOf (l : Launch) (G : xG) {K N : Nat → Nat} {I : Nat → Nat → Int32} {Q : Nat → Nat → Option Nat} {J : Nat → Nat → Int64} (t pq pn c : Nat) (A : Tr) (cd : Nat → Nat) (hz : TZ K N Q t pq pn) (hT0 : TP K Q A (Q t 1)) (hnd : ND cv1 1999 K I cd (ino A)) (hA : ht A ≤ 40) (hc : c < 1999) : XM l yX7_depthOf cX7_depthOf 2 (some .int) rm_X7_depthOf G Ri [.ref t, .int (cv1 c)] (K, N, I, Q, J) (fun r S1 => r = (if (sfind od1 cd c A 0).isSome then nI (spath od1 cd c A 0).length - nI 1 else (-1)) ∧ (∃ g, S1 = (K, N, x_u2 I pq 1 (nI (spath od1 cd c A 0).length), x_up Q pn g, J) ∧ SEG g 0 (spath od1 cd c A 0))) := by
  refine x_meti (lv := [_, _]) (by decide +kernel) (x_cc (by first | rfl | exact x_crf _) (x_cc (by first | rfl | exact x_crf _) x_cn)) (Nat.le_of_ble_eq_true rfl) rfl ?_
  intro pP eE sS mM aA bB hH cC Z C hini ret
  have hpk := hz.2.2.1
  have hq0 := hz.2.1
  have hpn_ : t ≠ pn := fun e => by
    have h1 := hz.1
    have h2 := hz.2.2.2.2.1
    rw [e, h2] at h1
    omega
  refine x_aload_n C D_X7_depthOf_0.1 rfl rfl (by first | exact Or.inr ⟨_, rfl⟩ | exact va_rf_or _ | exact Or.inl rfl) ?_
  refine x_iload_n C D_X7_depthOf_0.2.1 rfl rfl ?_
  refine x_callVq C (y := yX7_find) (c_X7_find l G t pq pn c A cd hz hT0 hnd hA hc) (ci := 6) hz.1 (by decide) rfl rfl k_284 k_286 k_21 k_64 k_287 hd_X7_find ⟨(Nat.le_of_ble_eq_true rfl), (Nat.le_of_ble_eq_true rfl)⟩ rfl (by first | exact Nat.le_of_ble_eq_true rfl | simp [x_crf, Value.category]) rfl rfl D_X7_depthOf_0.2.2.1 ⟨(Nat.le_of_ble_eq_true rfl), (Nat.le_of_ble_eq_true rfl)⟩ (fun r_2 S_2 h_2 => ?_)
  obtain ⟨hr, g, rfl, hseg_⟩ := h_2
  refine x_ifnonnull C 12 D_X7_depthOf_0.2.2.2.1 (by decide) (fun q_5 e_5 => ?_) (fun e_5 => ?_)
  · skip
    subst e_5
    refine x_aload_n C D_X7_depthOf_0.2.2.2.2.2.2.1 rfl rfl (by first | exact Or.inr ⟨_, rfl⟩ | exact va_rf_or _ | exact Or.inl rfl) ?_
    refine x_getQ C (ci := 6) (k0 := 0) hz.1 (by decide) rfl (by decide) in_X7 k_137 rfl rfl D_X7_depthOf_0.2.2.2.2.2.2.2.1 ?_
    refine x_eqr (show x_up Q pn g t 0 = some pq by rw [x_up_n _ _ hpn_]; exact hq0) ?_
    refine x_callVi C (y := yX4_length) (c_X4_length l G pq hpk) (ci := 3) hpk (by decide) rfl rfl k_295 k_221 k_222 k_63 k_223 hd_X4_length ⟨(Nat.le_of_ble_eq_true rfl), (Nat.le_of_ble_eq_true rfl)⟩ rfl (by first | exact Nat.le_of_ble_eq_true rfl | simp [x_crf, Value.category]) rfl rfl D_X7_depthOf_0.2.2.2.2.2.2.2.2.1 ⟨(Nat.le_of_ble_eq_true rfl), (Nat.le_of_ble_eq_true rfl)⟩ (fun r_16 S_16 h_16 => ?_)
    obtain ⟨rfl, rfl⟩ := h_16
    refine x_iconst C (v := nI 1) D_X7_depthOf_0.2.2.2.2.2.2.2.2.2.1 (by decide +kernel) ?_
    refine x_isub C D_X7_depthOf_0.2.2.2.2.2.2.2.2.2.2.1 ?_
    refine ret _ _ _ _ _ _ rfl D_X7_depthOf_0.2.2.2.2.2.2.2.2.2.2.2 (Nat.le_of_ble_eq_true rfl) (Nat.le_of_ble_eq_true rfl) ?_
    refine ⟨by rw [← hr, x_u2_s]; rfl, g, rfl, hseg_⟩
  · skip
    subst e_5
    refine x_iconst C (v := (-1)) D_X7_depthOf_0.2.2.2.2.1 (by decide +kernel) ?_
    refine x_goto C 21 D_X7_depthOf_0.2.2.2.2.2.1 (by decide) ?_
    refine ret _ _ _ _ _ _ rfl D_X7_depthOf_0.2.2.2.2.2.2.2.2.2.2.2 (Nat.le_of_ble_eq_true rfl) (Nat.le_of_ble_eq_true rfl) ?_
    refine ⟨by rw [← hr]; rfl, g, rfl, hseg_⟩
