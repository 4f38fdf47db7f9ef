abbrev rm_X9_addN : Room := { frames := 7, cells := 0, slots := 0, locals := 155 }
theorem hd_X9_copies : yX9_copies.cls ≠ "java/lang/invoke/MethodHandle" ∧ yX9_copies.cls ≠ "java/lang/invoke/VarHandle" ∧ (parseMethodDescriptor yX9_copies.desc).map (fun d => d.parameters.length) = some 2 := by decide +kernel
theorem hd_X9_growParts : yX9_growParts.cls ≠ "java/lang/invoke/MethodHandle" ∧ yX9_growParts.cls ≠ "java/lang/invoke/VarHandle" ∧ (parseMethodDescriptor yX9_growParts.desc).map (fun d => d.parameters.length) = some 0 := by decide +kernel
theorem hd_X9_growTree : yX9_growTree.cls ≠ "java/lang/invoke/MethodHandle" ∧ yX9_growTree.cls ≠ "java/lang/invoke/VarHandle" ∧ (parseMethodDescriptor yX9_growTree.desc).map (fun d => d.parameters.length) = some 1 := by decide +kernel
set_option maxHeartbeats 8000000 in
set_option maxRecDepth 100000 in
theorem c_X9_addN (l : Launch) (G : xG) {K N : Nat → Nat} {I : Nat → Nat → Int32} {Q : Nat → Nat → Option Nat} {J : Nat → Nat → Int64} (m n : Nat) (ar kc sp tu pt : Nat → Nat) (al : Nat → Bool) (c pl1 pl2 : Nat) (hM : MZ K N Q m ar) (hK : KV I m ar n kc al sp tu pt) (hB : KB n kc sp tu pt) (hn200 : n ≤ 200) (hc : c < 1999) (hnd : lastF (fun i => decide (I (ar 5) i = cv1 c)) n = none) (hlv : cn al n < 100) (hlf1 : leafW (fun p => lastF (fun i => decide (sp i = p)) n) (fun j => decide (c < kc j)) 28 1 = some pl1) (hp1 : 0 < pl1 ∧ pl1 < 2 ^ 20) (hlf2 : leafW (fun p => lastF (fun i => decide (ins tu (insP (fun k => decide (c < kc k)) n) 0 i = p)) (n + 1)) (fun j => decide (ins kc (insP (fun k => decide (c < kc k)) n) c (insP (fun k => decide (c < kc k)) n) < ins kc (insP (fun k => decide (c < kc k)) n) c j)) 28 1 = some pl2) (hp2 : pl2 < 2 ^ 24) (hBO : balOK (n + 1) 26 (x_up (ins tu (insP (fun k => decide (c < kc k)) n) 0) (insP (fun k => decide (c < kc k)) n) pl2) (pl2 / 2)) : XM l yX9_add cX9_add 6 (some .boolean) rm_X9_addN G Rz [.ref m, .int (cv1 c)] (K, N, I, Q, J) (fun r S1 => r = true ∧ ∃ I1, S1 = (K, N, I1, Q, J) ∧ KV I1 m ar (n + 1) (ins kc (insP (fun k => decide (c < kc k)) n) c) (ins al (insP (fun k => decide (c < kc k)) n) true) ((grS (n + 1) (ins sp (insP (fun k => decide (c < kc k)) n) pl1) (insP (fun k => decide (c < kc k)) n))) ((balsM (n + 1) 26 (x_up (ins tu (insP (fun k => decide (c < kc k)) n) 0) (insP (fun k => decide (c < kc k)) n) pl2) (pl2 / 2)).1) ((mrg (List.range (n + 1)) 8 0 (ins pt (insP (fun k => decide (c < kc k)) n) 0)).1) ∧ KFR I I1 m ar ∧ I1 m 18 = nI 0 ∧ I1 m 2 = I m 2 + nI (grW (n + 1) (ins sp (insP (fun k => decide (c < kc k)) n) pl1) (insP (fun k => decide (c < kc k)) n)) ∧ I1 m 3 = I m 3 + nI (balsM (n + 1) 26 (x_up (ins tu (insP (fun k => decide (c < kc k)) n) 0) (insP (fun k => decide (c < kc k)) n) pl2) (pl2 / 2)).2 ∧ I1 m 4 = I m 4 + nI (mrg (List.range (n + 1)) 8 0 (ins pt (insP (fun k => decide (c < kc k)) n) 0)).2 ∧ (∀ j, j ≠ 0 → j ≠ 18 → j ≠ 2 → j ≠ 3 → j ≠ 4 → I1 m j = I m j)) := by
  refine x_metz (lv := [_, _, _, _, _, _]) (by decide +kernel) (x_cc (by first | rfl | exact x_crf _) (x_cc (by first | rfl | exact x_crf _) x_cn)) (Nat.le_of_ble_eq_true rfl) rfl ?_
  intro pP eE sS mM aA bB hH cC Z C hini ret
  have hk9 := hM.1
  obtain ⟨hn, hn201, hk5, hk6, hk7, hk8, hk9_⟩ := hK
  have h202 := hM.nk 6 (by decide)
  have hrg := rng_in hc
  have n56 := hM.ne 5 6 (by decide)
  have n57 := hM.ne 5 7 (by decide)
  have n58 := hM.ne 5 8 (by decide)
  have n59 := hM.ne 5 9 (by decide)
  have n65 := hM.ne 6 5 (by decide)
  have n67 := hM.ne 6 7 (by decide)
  have n68 := hM.ne 6 8 (by decide)
  have n69 := hM.ne 6 9 (by decide)
  have n75 := hM.ne 7 5 (by decide)
  have n76 := hM.ne 7 6 (by decide)
  have n78 := hM.ne 7 8 (by decide)
  have n79 := hM.ne 7 9 (by decide)
  have n85 := hM.ne 8 5 (by decide)
  have n86 := hM.ne 8 6 (by decide)
  have n87 := hM.ne 8 7 (by decide)
  have n89 := hM.ne 8 9 (by decide)
  have n95 := hM.ne 9 5 (by decide)
  have n96 := hM.ne 9 6 (by decide)
  have n97 := hM.ne 9 7 (by decide)
  have n98 := hM.ne 9 8 (by decide)
  have hm5 := hM.nm 5 (by decide)
  have hm6 := hM.nm 6 (by decide)
  have hm7 := hM.nm 7 (by decide)
  have hm8 := hM.nm 8 (by decide)
  have hm9 := hM.nm 9 (by decide)
  obtain ⟨A, eA⟩ : ∃ A, A = (insP (fun k => decide (c < kc k)) n) := ⟨_, rfl⟩
  rw [← eA] at hlf2 hBO
  have hAn : A ≤ n := by rw [eA]; exact insP_le _ _
  refine x_aload_n C D_X9_add_0.1 rfl rfl (by first | exact Or.inr ⟨_, rfl⟩ | exact va_rf_or _ | exact Or.inl rfl) ?_
  refine x_iload_n C D_X9_add_0.2.1 rfl rfl ?_
  refine x_callVi C (y := yX9_nodeOf) (c_X9_nodeOf l G m n ar (cv1 c) hM hn (by omega)) (ci := 8) hM.1 (by decide) rfl rfl k_970 k_972 k_35 k_67 k_973 hd_X9_nodeOf ⟨(Nat.le_of_ble_eq_true rfl), (Nat.le_of_ble_eq_true rfl)⟩ rfl (by first | exact Nat.le_of_ble_eq_true rfl | simp [x_crf, Value.category]) rfl rfl D_X9_add_0.2.2.1 ⟨(Nat.le_of_ble_eq_true rfl), (Nat.le_of_ble_eq_true rfl)⟩ (fun r_2 S_2 h_2 => ?_)
  obtain ⟨rfl, rfl⟩ := h_2
  refine x_eqi (oI none) (by rw [hnd]) ?_
  refine x_istore_n C (lv' := [_, _, _, _, _, _]) D_X9_add_0.2.2.2.1 rfl (Nat.le_of_ble_eq_true rfl) (by first | rfl | exact x_ok_q rfl) rfl ?_
  refine x_iload_n C D_X9_add_0.2.2.2.2.1 rfl rfl ?_
  refine x_iconst C (v := (-1)) D_X9_add_0.2.2.2.2.2.1 (by decide +kernel) ?_
  refine x_icmp_eq C 24 D_X9_add_0.2.2.2.2.2.2.1 (by decide) (fun c_8 => ?_) (fun c_8 => ?_)
  · skip
    first
    | have d_8 := cv_eq c_8 (by omega) (by omega)
    | skip
    refine x_iconst C (v := nI 0) D_X9_add_1.2.2.1 (by decide +kernel) ?_
    refine x_istore_n C (lv' := [_, _, _, _, _, _]) D_X9_add_1.2.2.2.1 rfl (Nat.le_of_ble_eq_true rfl) (by first | rfl | exact x_ok_q rfl) rfl ?_
    refine x_aload_n C D_X9_add_1.2.2.2.2.1 rfl rfl (by first | exact Or.inr ⟨_, rfl⟩ | exact va_rf_or _ | exact Or.inl rfl) ?_
    refine x_iload_n C D_X9_add_1.2.2.2.2.2.1 rfl rfl ?_
    refine x_sipush C (v := (-999)) D_X9_add_1.2.2.2.2.2.2.1 (by decide +kernel) ?_
    refine x_icmp_lt C 41 D_X9_add_1.2.2.2.2.2.2.2.1 (by decide) (fun c_31 => ?_) (fun c_31 => ?_)
    · skip
      exact absurd c_31 hrg.1
      --end
    · skip
      refine x_iload_n C D_X9_add_1.2.2.2.2.2.2.2.2.1 rfl rfl ?_
      refine x_sipush C (v := nI 999) D_X9_add_1.2.2.2.2.2.2.2.2.2.1 (by decide +kernel) ?_
      refine x_icmp_le C 45 D_X9_add_1.2.2.2.2.2.2.2.2.2.2.1 (by decide) (fun c_38 => ?_) (fun c_38 => ?_)
      · skip
        refine x_iload_n C D_X9_add_2.2.1 rfl rfl ?_
        refine x_if_ne C 62 D_X9_add_2.2.2.1 (by decide) (fun c_46 => ?_) (fun c_46 => ?_)
        · skip
          exact absurd c_46 (by decide)
        · skip
          first
          | have d_46 := cz_eq c_46 (by omega)
          | have d_46 := cb_eq c_46
          | skip
          refine x_aload_n C D_X9_add_2.2.2.2.1 rfl rfl (by first | exact Or.inr ⟨_, rfl⟩ | exact va_rf_or _ | exact Or.inl rfl) ?_
          refine x_callVi C (y := yX9_living) (c_X9_living l G m n ar al hM hn (by omega) hk6) (ci := 8) hM.1 (by decide) rfl rfl k_974 k_976 k_36 k_67 k_977 hd_X9_living ⟨(Nat.le_of_ble_eq_true rfl), (Nat.le_of_ble_eq_true rfl)⟩ rfl (by first | exact Nat.le_of_ble_eq_true rfl | simp [x_crf, Value.category]) rfl rfl D_X9_add_2.2.2.2.2.1 ⟨(Nat.le_of_ble_eq_true rfl), (Nat.le_of_ble_eq_true rfl)⟩ (fun r_50 S_50 h_50 => ?_)
          obtain ⟨rfl, rfl⟩ := h_50
          refine x_bipush C (v := nI 100) D_X9_add_2.2.2.2.2.2.1 (by decide +kernel) ?_
          have hcl9 := cn_le al n
          refine x_icmp_ne C 62 D_X9_add_2.2.2.2.2.2.2.1 (by decide) (fun c_55 => ?_) (fun c_55 => ?_)
          · skip
            first
            | have d_55 := cv_ne c_55 (by omega) (by omega)
            | skip
            refine x_iconst C (v := nI 0) D_X9_add_2.2.2.2.2.2.2.2.2.2.1 (by decide +kernel) ?_
            refine x_callVz C (y := yX9_can) (c_X9_can l G m _ hM.1) (ci := 8) hM.1 (by decide) rfl rfl k_978 k_980 k_37 k_67 k_981 hd_X9_can ⟨(Nat.le_of_ble_eq_true rfl), (Nat.le_of_ble_eq_true rfl)⟩ rfl (by first | exact Nat.le_of_ble_eq_true rfl | simp [x_crf, Value.category]) rfl rfl D_X9_add_2.2.2.2.2.2.2.2.2.2.2.1 ⟨(Nat.le_of_ble_eq_true rfl), (Nat.le_of_ble_eq_true rfl)⟩ (fun r_63 S_63 h_63 => ?_)
            obtain ⟨rfl, rfl⟩ := h_63
            obtain ⟨I2, eI2⟩ : ∃ I2, I2 = x_u2 I m 18 (nI 0) := ⟨_, rfl⟩
            rw [← eI2]
            have i2 : ∀ a, a ≠ m → I2 a = I a := fun a ha => by rw [eI2, x_u2_a _ _ ha]
            have i2m : ∀ j, j ≠ 18 → I2 m j = I m j := fun j hj => by rw [eI2, x_u2_j _ _ hj]
            have i2n : I2 m 0 = nI n := by rw [i2m 0 (by omega)]; exact hn
            refine x_if_eq C 73 D_X9_add_2.2.2.2.2.2.2.2.2.2.2.2 (by decide) (fun c_66 => ?_) (fun c_66 => ?_)
            · skip
              exact absurd c_66 (by decide)
            · skip
              first
              | have d_66 := cz_ne c_66 (by omega)
              | have d_66 := cb_ne c_66
              | skip
              refine x_iload_n C D_X9_add_3.1 rfl rfl ?_
              refine x_if_eq C 75 D_X9_add_3.2.1 (by decide) (fun c_70 => ?_) (fun c_70 => ?_)
              · skip
                first
                | have d_70 := cz_eq c_70 (by omega)
                | have d_70 := cb_eq c_70
                | skip
                refine x_iload_n C D_X9_add_3.2.2.2.2.1 rfl rfl ?_
                refine x_iconst C (v := (-1)) D_X9_add_3.2.2.2.2.2.1 (by decide +kernel) ?_
                refine x_icmp_eq C 94 D_X9_add_3.2.2.2.2.2.2.1 (by decide) (fun c_77 => ?_) (fun c_77 => ?_)
                · skip
                  first
                  | have d_77 := cv_eq c_77 (by omega) (by omega)
                  | skip
                  refine x_aload_n C D_X9_add_4.2.2.2.2.2.1 rfl rfl (by first | exact Or.inr ⟨_, rfl⟩ | exact va_rf_or _ | exact Or.inl rfl) ?_
                  refine x_aload_n C D_X9_add_4.2.2.2.2.2.2.1 rfl rfl (by first | exact Or.inr ⟨_, rfl⟩ | exact va_rf_or _ | exact Or.inl rfl) ?_
                  refine x_getQ C (ci := 8) (k0 := 7) (by assumption) (by decide) rfl (by decide) in_X9 k_909 rfl rfl D_X9_add_4.2.2.2.2.2.2.2.1 ?_
                  refine x_eqr (hM.2.1 7 (by decide)).1 ?_
                  refine x_iload_n C D_X9_add_4.2.2.2.2.2.2.2.2.1 rfl rfl ?_
                  refine x_callVi C (y := yX9_leaf) (c_X9_leaf l G m n (ar 7) pl1 ar sp (cv1 c) hM i2n (by omega) (hM.2.1 7 (by decide)).2.1 (hM.nk 7 (by decide)) (fun i hi => ⟨by rw [i2 _ hm7]; exact hk7 i hi, by have := (hB i hi).2.1; omega⟩) (by
                    rw [← hlf1]
                    refine leafW_congr (fun p j hj => ?_) _ _
                    have hjn := (lastF_lt hj).1
                    rw [i2 _ hm5, hk5 j hjn]
                    simp only [cv1_lt hc (hB j hjn).1])) (ci := 8) hM.1 (by decide) rfl rfl k_986 k_988 k_39 k_67 k_989 hd_X9_leaf ⟨(Nat.le_of_ble_eq_true rfl), (Nat.le_of_ble_eq_true rfl)⟩ rfl (by first | exact Nat.le_of_ble_eq_true rfl | simp [x_crf, Value.category]) rfl rfl D_X9_add_4.2.2.2.2.2.2.2.2.2.1 ⟨(Nat.le_of_ble_eq_true rfl), (Nat.le_of_ble_eq_true rfl)⟩ (fun r_100 S_100 h_100 => ?_)
                  obtain ⟨rfl, rfl⟩ := h_100
                  refine x_istore C (lv' := [_, _, _, _, _, _]) D_X9_add_4.2.2.2.2.2.2.2.2.2.2.1 (Nat.le_of_ble_eq_true rfl) (by first | rfl | exact x_ok_q rfl) rfl ?_
                  refine x_aload_n C D_X9_add_4.2.2.2.2.2.2.2.2.2.2.2 rfl rfl (by first | exact Or.inr ⟨_, rfl⟩ | exact va_rf_or _ | exact Or.inl rfl) ?_
                  refine x_getI C (ci := 8) (k0 := 0) (by assumption) (by decide) rfl (by decide) in_X9 k_902 rfl rfl D_X9_add_5.1 ?_
                  refine x_eqi _ i2n ?_
                  refine x_istore C (lv' := [_, _, _, _, _, _]) D_X9_add_5.2.1 (Nat.le_of_ble_eq_true rfl) (by first | rfl | exact x_ok_q rfl) rfl ?_
                  have L_111 : ∀ (w_111 : Nat) (a : Nat) (I1 : Nat → Nat → Int32), a < w_111 → (a ≤ n) → (insP (fun k => decide (c < kc k)) a = insP (fun k => decide (c < kc k)) n) → ((∀ t j, I1 t j = if (a < j ∧ j ≤ n) ∧ (t = ar 5 ∨ t = ar 6 ∨ t = ar 7 ∨ t = ar 8 ∨ t = ar 9) then I2 t (j - 1) else I2 t j)) → XW pP l eE rm_X9_addN sS mM aA bB hH cC G Z 0 0 (K, N, I1, Q, J) 111 [some (.ref m), some (.int (cv1 c)), some (.int (oI none)), some (.int (nI 0)), some (.int (nI pl1)), some (.int (nI a))] [] := by
                    intro w_111
                    induction w_111 with
                    | zero =>
                      intro a I1 hw_111
                      exact absurd hw_111 (Nat.not_lt_zero _)
                    | succ w_111 ih_111 =>
                      intro a I1 hw_111 han hP hSH
                      refine x_iload C D_X9_add_5.2.2.1 rfl ?_
                      have L_145 : (insP (fun k => decide (c < kc k)) n = a) → XW pP l eE rm_X9_addN sS mM aA bB hH cC G Z 0 0 (K, N, I1, Q, J) 145 [some (.ref m), some (.int (cv1 c)), some (.int (oI none)), some (.int (nI 0)), some (.int (nI pl1)), some (.int (nI a))] [] := by
                        intro  hex
                        refine x_aload_n C D_X9_add_6.2.2.2.2.2.2.2.2.1 rfl rfl (by first | exact Or.inr ⟨_, rfl⟩ | exact va_rf_or _ | exact Or.inl rfl) ?_
                        refine x_getQ C (ci := 8) (k0 := 5) (by assumption) (by decide) rfl (by decide) in_X9 k_907 rfl rfl D_X9_add_6.2.2.2.2.2.2.2.2.2.1 ?_
                        refine x_eqr (hM.2.1 5 (by decide)).1 ?_
                        refine x_iload C D_X9_add_6.2.2.2.2.2.2.2.2.2.2.1 rfl ?_
                        refine x_iload_n C D_X9_add_6.2.2.2.2.2.2.2.2.2.2.2 rfl rfl ?_
                        refine x_iast C _ (by first | assumption | exact (hM.2.1 _ (by decide)).2.1) rfl (by first | omega | (rw [hM.nk _ (by decide)]; omega) | (rw [hM.np _ (by decide)]; omega)) (by first | omega | (rw [hM.nk _ (by decide)]; omega) | (rw [hM.np _ (by decide)]; omega)) D_X9_add_7.1 (fun I3 eI3 => ?_)
                        refine x_aload_n C D_X9_add_7.2.1 rfl rfl (by first | exact Or.inr ⟨_, rfl⟩ | exact va_rf_or _ | exact Or.inl rfl) ?_
                        refine x_getQ C (ci := 8) (k0 := 6) (by assumption) (by decide) rfl (by decide) in_X9 k_908 rfl rfl D_X9_add_7.2.2.1 ?_
                        refine x_eqr (hM.2.1 6 (by decide)).1 ?_
                        refine x_iload C D_X9_add_7.2.2.2.1 rfl ?_
                        refine x_iconst C (v := nI 1) D_X9_add_7.2.2.2.2.1 (by decide +kernel) ?_
                        refine x_zast C _ true rfl (by first | assumption | exact (hM.2.1 _ (by decide)).2.1) rfl (by first | omega | (rw [hM.nk _ (by decide)]; omega) | (rw [hM.np _ (by decide)]; omega)) (by first | omega | (rw [hM.nk _ (by decide)]; omega) | (rw [hM.np _ (by decide)]; omega)) D_X9_add_7.2.2.2.2.2.1 (fun I4 eI4 => ?_)
                        refine x_aload_n C D_X9_add_7.2.2.2.2.2.2.1 rfl rfl (by first | exact Or.inr ⟨_, rfl⟩ | exact va_rf_or _ | exact Or.inl rfl) ?_
                        refine x_getQ C (ci := 8) (k0 := 7) (by assumption) (by decide) rfl (by decide) in_X9 k_909 rfl rfl D_X9_add_7.2.2.2.2.2.2.2.1 ?_
                        refine x_eqr (hM.2.1 7 (by decide)).1 ?_
                        refine x_iload C D_X9_add_7.2.2.2.2.2.2.2.2.1 rfl ?_
                        refine x_iload C D_X9_add_7.2.2.2.2.2.2.2.2.2.1 rfl ?_
                        refine x_iast C _ (by first | assumption | exact (hM.2.1 _ (by decide)).2.1) rfl (by first | omega | (rw [hM.nk _ (by decide)]; omega) | (rw [hM.np _ (by decide)]; omega)) (by first | omega | (rw [hM.nk _ (by decide)]; omega) | (rw [hM.np _ (by decide)]; omega)) D_X9_add_7.2.2.2.2.2.2.2.2.2.2.1 (fun I5 eI5 => ?_)
                        refine x_aload_n C D_X9_add_7.2.2.2.2.2.2.2.2.2.2.2 rfl rfl (by first | exact Or.inr ⟨_, rfl⟩ | exact va_rf_or _ | exact Or.inl rfl) ?_
                        refine x_getQ C (ci := 8) (k0 := 8) (by assumption) (by decide) rfl (by decide) in_X9 k_910 rfl rfl D_X9_add_8.1 ?_
                        refine x_eqr (hM.2.1 8 (by decide)).1 ?_
                        refine x_iload C D_X9_add_8.2.1 rfl ?_
                        refine x_iconst C (v := nI 0) D_X9_add_8.2.2.1 (by decide +kernel) ?_
                        refine x_iast C _ (by first | assumption | exact (hM.2.1 _ (by decide)).2.1) rfl (by first | omega | (rw [hM.nk _ (by decide)]; omega) | (rw [hM.np _ (by decide)]; omega)) (by first | omega | (rw [hM.nk _ (by decide)]; omega) | (rw [hM.np _ (by decide)]; omega)) D_X9_add_8.2.2.2.1 (fun I6 eI6 => ?_)
                        refine x_aload_n C D_X9_add_8.2.2.2.2.1 rfl rfl (by first | exact Or.inr ⟨_, rfl⟩ | exact va_rf_or _ | exact Or.inl rfl) ?_
                        refine x_getQ C (ci := 8) (k0 := 9) (by assumption) (by decide) rfl (by decide) in_X9 k_911 rfl rfl D_X9_add_8.2.2.2.2.2.1 ?_
                        refine x_eqr (hM.2.1 9 (by decide)).1 ?_
                        refine x_iload C D_X9_add_8.2.2.2.2.2.2.1 rfl ?_
                        refine x_iconst C (v := nI 0) D_X9_add_8.2.2.2.2.2.2.2.1 (by decide +kernel) ?_
                        refine x_iast C _ (by first | assumption | exact (hM.2.1 _ (by decide)).2.1) rfl (by first | omega | (rw [hM.nk _ (by decide)]; omega) | (rw [hM.np _ (by decide)]; omega)) (by first | omega | (rw [hM.nk _ (by decide)]; omega) | (rw [hM.np _ (by decide)]; omega)) D_X9_add_8.2.2.2.2.2.2.2.2.1 (fun I7 eI7 => ?_)
                        refine x_aload_n C D_X9_add_8.2.2.2.2.2.2.2.2.2.1 rfl rfl (by first | exact Or.inr ⟨_, rfl⟩ | exact va_rf_or _ | exact Or.inl rfl) ?_
                        refine x_dup C D_X9_add_8.2.2.2.2.2.2.2.2.2.2.1 (by first | rfl | exact x_crf _) ?_
                        refine x_getI C (ci := 8) (k0 := 0) (by assumption) (by decide) rfl (by decide) in_X9 k_902 rfl rfl D_X9_add_8.2.2.2.2.2.2.2.2.2.2.2 ?_
                        refine x_eqi _ (show I7 m 0 = nI n by rw [eI7, x_u2_a _ _ hm9.symm, eI6, x_u2_a _ _ hm8.symm, eI5, x_u2_a _ _ hm7.symm, eI4, x_u2_a _ _ hm6.symm, eI3, x_u2_a _ _ hm5.symm, hSH, if_neg (fun z => z.2.elim (fun e => hm5 e.symm) (fun z => z.elim (fun e => hm6 e.symm) (fun z => z.elim (fun e => hm7 e.symm) (fun z => z.elim (fun e => hm8 e.symm) (fun e => hm9 e.symm))))), i2n]) ?_
                        refine x_iconst C (v := nI 1) D_X9_add_9.1 (by decide +kernel) ?_
                        refine x_iadd C D_X9_add_9.2.1 ?_
                        first
                        | refine x_eqi _ (nI_add _ _) ?_
                        | skip
                        refine x_putI C (ci := 8) (k0 := 0) (by assumption) (by decide) rfl (by decide) in_X9 k_902 rfl tyX9 tyX9_ok nmX9 rfl (by rfl) rfl rfl rfl D_X9_add_9.2.2.1 (fun I8 eI8 => ?_)
                        obtain rfl : A = a := eA.trans hex
                        have hSx : ∀ x j, mO x = true → x ≤ 9 → I1 (ar x) j = if A < j ∧ j ≤ n then I2 (ar x) (j - 1) else I2 (ar x) j := fun x j hx hx9 => by
                          have h5 : ar x = ar 5 ∨ ar x = ar 6 ∨ ar x = ar 7 ∨ ar x = ar 8 ∨ ar x = ar 9 := by
                            have h6 : 5 ≤ x := by
                              rcases Nat.lt_or_ge x 5 with h7 | h7
                              · exfalso
                                simp [mO] at hx
                                omega
                              · exact h7
                            have h8 : x = 5 ∨ x = 6 ∨ x = 7 ∨ x = 8 ∨ x = 9 := by omega
                            rcases h8 with e | e | e | e | e <;> subst e <;> simp
                          rw [hSH]
                          simp only [h5, and_true]
                        have g5 : ∀ i, i < n + 1 → I8 (ar 5) i = cv1 (ins kc A c i) := fun i hi => by
                          rw [eI8, x_u2_a _ _ hm5, eI7, x_u2_a _ _ n59, eI6, x_u2_a _ _ n58, eI5, x_u2_a _ _ n57, eI4, x_u2_a _ _ n56, eI3]
                          exact ins_arr (I0 := I2) (g := cv1) (fun j => hSx 5 j rfl (by omega)) (fun i hi => by rw [i2 _ hm5]; exact hk5 i hi) hAn i hi
                        have g6 : ∀ i, i < n + 1 → I8 (ar 6) i = xb (ins al A true i) := fun i hi => by
                          rw [eI8, x_u2_a _ _ hm6, eI7, x_u2_a _ _ n69, eI6, x_u2_a _ _ n68, eI5, x_u2_a _ _ n67, eI4]
                          refine ins_arr (I0 := I2) (g := xb) (v := true) (fun j => ?_) (fun i hi => by rw [i2 _ hm6]; exact hk6 i hi) hAn i hi
                          rw [eI3, x_u2_a _ _ n65]; exact hSx 6 j rfl (by omega)
                        have g7 : ∀ i, i < n + 1 → I8 (ar 7) i = nI (ins sp A pl1 i) := fun i hi => by
                          rw [eI8, x_u2_a _ _ hm7, eI7, x_u2_a _ _ n79, eI6, x_u2_a _ _ n78, eI5]
                          refine ins_arr (I0 := I2) (g := nI) (fun j => ?_) (fun i hi => by rw [i2 _ hm7]; exact hk7 i hi) hAn i hi
                          rw [eI4, x_u2_a _ _ n76, eI3, x_u2_a _ _ n75]; exact hSx 7 j rfl (by omega)
                        have g8 : ∀ i, i < n + 1 → I8 (ar 8) i = nI (ins tu A 0 i) := fun i hi => by
                          rw [eI8, x_u2_a _ _ hm8, eI7, x_u2_a _ _ n89, eI6]
                          refine ins_arr (I0 := I2) (g := nI) (fun j => ?_) (fun i hi => by rw [i2 _ hm8]; exact hk8 i hi) hAn i hi
                          rw [eI5, x_u2_a _ _ n87, eI4, x_u2_a _ _ n86, eI3, x_u2_a _ _ n85]; exact hSx 8 j rfl (by omega)
                        have g9 : ∀ i, i < n + 1 → I8 (ar 9) i = nI (ins pt A 0 i) := fun i hi => by
                          rw [eI8, x_u2_a _ _ hm9, eI7]
                          refine ins_arr (I0 := I2) (g := nI) (fun j => ?_) (fun i hi => by rw [i2 _ hm9]; exact hk9_ i hi) hAn i hi
                          rw [eI6, x_u2_a _ _ n98, eI5, x_u2_a _ _ n97, eI4, x_u2_a _ _ n96, eI3, x_u2_a _ _ n95]; exact hSx 9 j rfl (by omega)
                        have g0 : I8 m 0 = nI (n + 1) := by rw [eI8, x_u2_s]
                        have go : ∀ t, t ≠ m → t ≠ ar 5 → t ≠ ar 6 → t ≠ ar 7 → t ≠ ar 8 → t ≠ ar 9 → I8 t = I t := fun t h1 h5 h6 h7 h8 h9 => by
                          rw [eI8, x_u2_a _ _ h1, eI7, x_u2_a _ _ h9, eI6, x_u2_a _ _ h8, eI5, x_u2_a _ _ h7, eI4, x_u2_a _ _ h6, eI3, x_u2_a _ _ h5]
                          funext j
                          rw [hSH, if_neg (fun z => by rcases z.2 with e | e | e | e | e <;> contradiction), i2 t h1]
                        have gm : ∀ j, j ≠ 0 → I8 m j = I2 m j := fun j hj => by
                          rw [eI8, x_u2_j _ _ hj, eI7, x_u2_a _ _ hm9.symm, eI6, x_u2_a _ _ hm8.symm, eI5, x_u2_a _ _ hm7.symm, eI4, x_u2_a _ _ hm6.symm, eI3, x_u2_a _ _ hm5.symm, hSH, if_neg (fun z => z.2.elim (fun e => hm5 e.symm) (fun z => z.elim (fun e => hm6 e.symm) (fun z => z.elim (fun e => hm7 e.symm) (fun z => z.elim (fun e => hm8 e.symm) (fun e => hm9 e.symm)))))]
                        have hbs : ∀ i, i < n + 1 → 0 < ins sp A pl1 i ∧ ins sp A pl1 i < 2 ^ 20 := fun i hi => ⟨ins_bp (fun i hi => (hB i hi).2.1.1) hp1.1 hAn i hi, ins_bd (fun i hi => (hB i hi).2.1.2) hp1.2 hAn i hi⟩
                        have hbt : ∀ i, i < n + 1 → ins tu A 0 i < 2 ^ 24 := ins_bd (fun i hi => (hB i hi).2.2.1) (by omega) hAn
                        have hbp : ∀ i, i < n + 1 → ins pt A 0 i < 1000 := ins_bd (fun i hi => (hB i hi).2.2.2) (by omega) hAn
                        have hbc : ∀ i, i < n + 1 → ins kc A c i < 1999 := ins_bd (fun i hi => (hB i hi).1) hc hAn
                        refine x_aload_n C D_X9_add_9.2.2.2.1 rfl rfl (by first | exact Or.inr ⟨_, rfl⟩ | exact va_rf_or _ | exact Or.inl rfl) ?_
                        refine x_iload C D_X9_add_9.2.2.2.2.1 rfl ?_
                        refine x_callVv C (y := yX9_growTree) (c_X9_growTree l G m (n + 1) A ar (ins sp A pl1) hM g0 (by omega) (fun i hi => ⟨g7 i hi, hbs i hi⟩) (by omega)) (ci := 8) hM.1 (by decide) rfl rfl k_1025 k_1027 k_45 k_67 k_1028 hd_X9_growTree ⟨(Nat.le_of_ble_eq_true rfl), (Nat.le_of_ble_eq_true rfl)⟩ rfl (by first | exact Nat.le_of_ble_eq_true rfl | simp [x_crf, Value.category]) rfl rfl D_X9_add_9.2.2.2.2.2.1 ⟨(Nat.le_of_ble_eq_true rfl), (Nat.le_of_ble_eq_true rfl)⟩ (fun _ S_199 h_199 => ?_)
                        obtain ⟨I9, rfl, p1, p2, p3⟩ := h_199
                        have q9 : ∀ t, t ≠ m → t ≠ ar 7 → I9 t = I8 t := fun t h1 h2 => by funext j; exact p3 t j (fun e => h2 e.1) (fun e => h1 e.1)
                        have q9m : ∀ j, j ≠ 2 → I9 m j = I8 m j := fun j hj => p3 m j (fun e => hm7 e.1.symm) (fun e => hj e.2)
                        refine x_aload_n C D_X9_add_9.2.2.2.2.2.2.1 rfl rfl (by first | exact Or.inr ⟨_, rfl⟩ | exact va_rf_or _ | exact Or.inl rfl) ?_
                        refine x_callVv C (y := yX9_growParts) (c_X9_growParts l G m (n + 1) ar (ins pt A 0) hM (by rw [q9m 0 (by omega)]; exact g0) (by omega) (fun i hi => ⟨by rw [q9 _ hm9 n97]; exact g9 i hi, hbp i hi⟩)) (ci := 8) hM.1 (by decide) rfl rfl k_1038 k_1040 k_47 k_67 k_1041 hd_X9_growParts ⟨(Nat.le_of_ble_eq_true rfl), (Nat.le_of_ble_eq_true rfl)⟩ rfl (by first | exact Nat.le_of_ble_eq_true rfl | simp [x_crf, Value.category]) rfl rfl D_X9_add_9.2.2.2.2.2.2.2.1 ⟨(Nat.le_of_ble_eq_true rfl), (Nat.le_of_ble_eq_true rfl)⟩ (fun _ S_203 h_203 => ?_)
                        obtain ⟨I10, rfl, r1, r2, r3⟩ := h_203
                        have q10 : ∀ t, t ≠ m → t ≠ ar 9 → I10 t = I9 t := fun t h1 h2 => by funext j; exact r3 t j (fun e => h2 e.1) (fun e => h1 e.1)
                        have q10m : ∀ j, j ≠ 4 → I10 m j = I9 m j := fun j hj => r3 m j (fun e => hm9 e.1.symm) (fun e => hj e.2)
                        refine x_aload_n C D_X9_add_9.2.2.2.2.2.2.2.2.1 rfl rfl (by first | exact Or.inr ⟨_, rfl⟩ | exact va_rf_or _ | exact Or.inl rfl) ?_
                        refine x_iload C D_X9_add_9.2.2.2.2.2.2.2.2.2.1 rfl ?_
                        refine x_callVv C (y := yX9_grows) (c_X9_grows l G m (n + 1) A pl2 ar (ins tu A 0) hM (by rw [q10m 0 (by omega), q9m 0 (by omega)]; exact g0) (by omega) (fun i hi => ⟨by rw [q10 _ hm8 n89, q9 _ hm8 n87]; exact g8 i hi, by have := hbt i hi; omega⟩) (by omega) (by
                          rw [← hlf2]
                          refine leafW_congr (fun p j hj => ?_) _ _
                          have hjn := (lastF_lt hj).1
                          rw [q10 _ hm5 n59, q9 _ hm5 n57, g5 A (by omega), g5 j hjn]
                          simp only [cv1_lt (hbc A (by omega)) (hbc j hjn)]) (by omega) hBO) (ci := 8) hM.1 (by decide) rfl rfl k_982 k_984 k_38 k_67 k_985 hd_X9_grows ⟨(Nat.le_of_ble_eq_true rfl), (Nat.le_of_ble_eq_true rfl)⟩ rfl (by first | exact Nat.le_of_ble_eq_true rfl | simp [x_crf, Value.category]) rfl rfl D_X9_add_9.2.2.2.2.2.2.2.2.2.2.1 ⟨(Nat.le_of_ble_eq_true rfl), (Nat.le_of_ble_eq_true rfl)⟩ (fun _ S_209 h_209 => ?_)
                        obtain ⟨I11, rfl, s1, s2, s3⟩ := h_209
                        have q11 : ∀ t, t ≠ m → t ≠ ar 8 → I11 t = I10 t := fun t h1 h2 => by funext j; exact s3 t j (fun e => h2 e.1) (fun e => h1 e.1)
                        have q11m : ∀ j, j ≠ 3 → I11 m j = I10 m j := fun j hj => s3 m j (fun e => hm8 e.1.symm) (fun e => hj e.2)
                        refine x_iconst C (v := nI 1) D_X9_add_9.2.2.2.2.2.2.2.2.2.2.2 (by decide +kernel) ?_
                        refine ret _ _ _ _ _ _ true rfl D_X9_add_10 (Nat.le_of_ble_eq_true rfl) (Nat.le_of_ble_eq_true rfl) rfl ?_
                        rw [← eA]
                        refine ⟨rfl, I11, rfl, ⟨?_, by omega, fun i hi => ?_, fun i hi => ?_, fun i hi => ?_, s1, fun i hi => ?_⟩, fun t h1 h5 h6 h7 h8 h9 => ?_, ?_, ?_, ?_, ?_, fun j h0 h1 h2 h3 h4 => ?_⟩
                        · rw [q11m 0 (by omega), q10m 0 (by omega), q9m 0 (by omega)]; exact g0
                        · rw [q11 _ hm5 n58, q10 _ hm5 n59, q9 _ hm5 n57]; exact g5 i hi
                        · rw [q11 _ hm6 n68, q10 _ hm6 n69, q9 _ hm6 n67]; exact g6 i hi
                        · rw [q11 _ hm7 n78, q10 _ hm7 n79]; exact p1 i hi
                        · rw [q11 _ hm9 n98]; exact r1 i hi
                        · rw [q11 t h1 h8, q10 t h1 h9, q9 t h1 h7]; exact go t h1 h5 h6 h7 h8 h9
                        · rw [q11m 18 (by omega), q10m 18 (by omega), q9m 18 (by omega), gm 18 (by omega), eI2, x_u2_s]
                        · rw [q11m 2 (by omega), q10m 2 (by omega), p2, gm 2 (by omega), i2m 2 (by omega)]; rfl
                        · rw [s2, q10m 3 (by omega), q9m 3 (by omega), gm 3 (by omega), i2m 3 (by omega)]
                        · rw [q11m 4 (by omega), r2, q9m 4 (by omega), gm 4 (by omega), i2m 4 (by omega)]
                        · rw [q11m j h3, q10m j h4, q9m j h2, gm j h0, i2m j h1]
                      refine x_if_le C 145 D_X9_add_5.2.2.2.1 (by decide) (fun c_113 => ?_) (fun c_113 => ?_)
                      · skip
                        first
                        | have d_113 := cz_le c_113 (by omega)
                        | skip
                        have hex : insP (fun k => decide (c < kc k)) n = a := by rw [← hP, d_113]; rfl
                        exact L_145 hex
                      · skip
                        first
                        | have d_113 := cz_nle c_113 (by omega)
                        | skip
                        obtain ⟨a0, rfl⟩ : ∃ a0, a = a0 + 1 := ⟨a - 1, by omega⟩
                        have hk1 : I1 (ar 5) a0 = cv1 (kc a0) := by rw [hSH, if_neg (fun z => by omega), i2 _ hm5]; exact hk5 a0 (by omega)
                        have hk2 : I1 (ar 6) a0 = xb (al a0) := by rw [hSH, if_neg (fun z => by omega), i2 _ hm6]; exact hk6 a0 (by omega)
                        refine x_aload_n C D_X9_add_5.2.2.2.2.1 rfl rfl (by first | exact Or.inr ⟨_, rfl⟩ | exact va_rf_or _ | exact Or.inl rfl) ?_
                        refine x_getQ C (ci := 8) (k0 := 5) (by assumption) (by decide) rfl (by decide) in_X9 k_907 rfl rfl D_X9_add_5.2.2.2.2.2.1 ?_
                        refine x_eqr (hM.2.1 5 (by decide)).1 ?_
                        refine x_iload C D_X9_add_5.2.2.2.2.2.2.1 rfl ?_
                        refine x_iconst C (v := nI 1) D_X9_add_5.2.2.2.2.2.2.2.1 (by decide +kernel) ?_
                        refine x_isub C D_X9_add_5.2.2.2.2.2.2.2.2.1 ?_
                        refine x_eqi (nI a0) (pk_sub (by omega)) ?_
                        refine x_iald C _ (by first | assumption | exact (hM.2.1 _ (by decide)).2.1) rfl (by first | omega | (rw [hM.nk _ (by decide)]; omega) | (rw [hM.np _ (by decide)]; omega)) (by first | omega | (rw [hM.nk _ (by decide)]; omega) | (rw [hM.np _ (by decide)]; omega)) D_X9_add_5.2.2.2.2.2.2.2.2.2.1 ?_
                        refine x_eqi _ hk1 ?_
                        refine x_iload_n C D_X9_add_5.2.2.2.2.2.2.2.2.2.2.1 rfl rfl ?_
                        refine x_icmp_le C 145 D_X9_add_5.2.2.2.2.2.2.2.2.2.2.2 (by decide) (fun c_126 => ?_) (fun c_126 => ?_)
                        · skip
                          have hex : insP (fun k => decide (c < kc k)) n = a0 + 1 := by
                            have h9 : ¬ c < kc a0 := fun z => by
                              rw [i32_le] at c_126
                              have h8 := (cv1_lt hc (hB a0 (by omega)).1).mpr z
                              rw [i32_lt] at h8
                              omega
                            rw [← hP]; simp only [insP]; rw [if_neg (by simp only [decide_eq_true_eq]; exact h9)]
                          exact L_145 hex
                        · skip
                          have hgt : c < kc a0 := by
                            refine (cv1_lt hc (hB a0 (by omega)).1).mp ?_
                            rw [i32_le] at c_126
                            rw [i32_lt]; omega
                          refine x_aload_n C D_X9_add_6.1 rfl rfl (by first | exact Or.inr ⟨_, rfl⟩ | exact va_rf_or _ | exact Or.inl rfl) ?_
                          refine x_iload C D_X9_add_6.2.1 rfl ?_
                          refine x_iconst C (v := nI 1) D_X9_add_6.2.2.1 (by decide +kernel) ?_
                          refine x_isub C D_X9_add_6.2.2.2.1 ?_
                          refine x_eqi (nI a0) (pk_sub (by omega)) ?_
                          refine x_iload C D_X9_add_6.2.2.2.2.1 rfl ?_
                          refine x_callVv C (y := yX9_copies) (c_X9_copies l G m a0 (a0 + 1) ar (al a0) hM (by omega) (by omega) hk2) (ci := 8) hM.1 (by decide) rfl rfl k_1021 k_1023 k_44 k_67 k_1024 hd_X9_copies ⟨(Nat.le_of_ble_eq_true rfl), (Nat.le_of_ble_eq_true rfl)⟩ rfl (by first | exact Nat.le_of_ble_eq_true rfl | simp [x_crf, Value.category]) rfl rfl D_X9_add_6.2.2.2.2.2.1 ⟨(Nat.le_of_ble_eq_true rfl), (Nat.le_of_ble_eq_true rfl)⟩ (fun _ S_136 h_136 => ?_)
                          obtain ⟨I3, rfl, hC3⟩ := h_136
                          first
                          | refine x_iinc C (lv' := [_, _, _, _, _, _]) D_X9_add_6.2.2.2.2.2.2.1 rfl (x_incN_m1 _) (by first | rfl | exact x_ok_q rfl) rfl ?_
                          | refine x_iinc C (lv' := [_, _, _, _, _, _]) D_X9_add_6.2.2.2.2.2.2.1 rfl (x_inc_m1 _) (by first | rfl | exact x_ok_q rfl) rfl ?_
                          refine x_goto C 111 D_X9_add_6.2.2.2.2.2.2.2.1 (by decide) ?_
                          refine ih_111 a0 I3 (by omega) (by omega) (by rw [← hP]; simp only [insP]; rw [if_pos (decide_eq_true hgt)]) (fun t j => ?_)
                          rw [hC3, hSH, hSH]
                          by_cases e : t = ar 5 ∨ t = ar 6 ∨ t = ar 7 ∨ t = ar 8 ∨ t = ar 9
                          · simp only [e, and_true]
                            by_cases e2 : j = a0 + 1
                            · subst e2
                              rw [if_pos rfl, if_neg (by omega), if_pos (by omega)]; rfl
                            · rw [if_neg e2]
                              by_cases e3 : a0 < j ∧ j ≤ n
                              · rw [if_pos e3, if_pos (by omega)]
                              · rw [if_neg e3, if_neg (by omega)]
                          · simp only [e, and_false, if_false]
                  exact L_111 _ n I2 (Nat.lt_succ_self _) (Nat.le_refl _) rfl (fun t j => by rw [if_neg (fun z => by omega)])
                · skip
                  exact absurd c_77 (by decide)
              · skip
                exact absurd c_70 (by decide)
          · skip
            first
            | have d_55 := cv_eq c_55 (by omega) (by omega)
            | skip
            exfalso; omega
            --end
      · skip
        exact absurd hrg.2 c_38
        --end
  · skip
    exact absurd c_8 (by decide)
