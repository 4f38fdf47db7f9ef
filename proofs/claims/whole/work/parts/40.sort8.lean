abbrev rm_X6_enterN : Room := { frames := 2, cells := 1, slots := 4, locals := 44 }
theorem hd_X0_init : yX0_init.cls ≠ "java/lang/invoke/MethodHandle" ∧ yX0_init.cls ≠ "java/lang/invoke/VarHandle" ∧ (parseMethodDescriptor yX0_init.desc).map (fun d => d.parameters.length) = some 1 := by decide +kernel
theorem hd_X6_insert : yX6_insert.cls ≠ "java/lang/invoke/MethodHandle" ∧ yX6_insert.cls ≠ "java/lang/invoke/VarHandle" ∧ (parseMethodDescriptor yX6_insert.desc).map (fun d => d.parameters.length) = some 1 := by decide +kernel
theorem hd_X6_mergeEqualParts : yX6_mergeEqualParts.cls ≠ "java/lang/invoke/MethodHandle" ∧ yX6_mergeEqualParts.cls ≠ "java/lang/invoke/VarHandle" ∧ (parseMethodDescriptor yX6_mergeEqualParts.desc).map (fun d => d.parameters.length) = some 0 := by decide +kernel
set_option maxHeartbeats 4000000 in
set_option maxRecDepth 100000 in
theorem c_X6_enterN (l : Launch) (G : xG) {K N : Nat → Nat} {I : Nat → Nat → Int32} {Q : Nat → Nat → Option Nat} {J : Nat → Nat → Int64} (t c : Nat) (lst : List Nat) (cd pr : Nat → Nat) (h : K t = 6) (hC0 : CH K Q lst (Q t 0)) (hN0 : NE K I cd lst) (hc : c < 1999) (hf : lst.find? (fun a => decide (cd a = c)) = none) (hnd : lst.Nodup) (hl : lst.length < 900) (hp0 : ∀ a ∈ lst, I a 2 = nI (pr a)) (hb0 : ∀ a ∈ lst, pr a < 1000) : XM l yX6_enter cX6_enter 3 none rm_X6_enterN G Rv [.ref t, .int (cv1 c)] (K, N, I, Q, J) (fun _ S1 => ∃ v K1 I1 Q1, S1 = (K1, N, I1, Q1, J) ∧ K v = 0 ∧ K1 = x_up K v 1 ∧ CH K1 Q1 (insC (fun a => decide (cd a < c)) v lst) (Q1 t 0) ∧ I1 v 0 = cv1 c ∧ I1 v 1 = nI 1 ∧ (∀ a ∈ (insC (fun a => decide (cd a < c)) v lst), I1 a 2 = nI ((mrg (insC (fun a => decide (cd a < c)) v lst) 8 0 (x_up pr v 0)).1 a)) ∧ (∀ a j, a ≠ v → a ≠ t → ¬ (a ∈ lst ∧ j = 2) → I1 a j = I a j) ∧ (∀ a, a ∉ lst → a ≠ v → a ≠ t → Q1 a = Q a) ∧ I1 t 1 = I t 1 + nI 1 ∧ I1 t 2 = I t 2 + nI 1 ∧ I1 t 3 = I t 3 + nI (mrg (insC (fun a => decide (cd a < c)) v lst) 8 0 (x_up pr v 0)).2) := by
  refine x_metv (lv := [_, _, _]) (by decide +kernel) (x_cc (by first | rfl | exact x_crf _) (x_cc (by first | rfl | exact x_crf _) x_cn)) (Nat.le_of_ble_eq_true rfl) rfl ?_
  intro pP eE sS mM aA bB hH cC Z C hini ret
  refine x_aload_n C D_X6_enter_0.1 rfl rfl (by first | exact Or.inr ⟨_, rfl⟩ | exact va_rf_or _ | exact Or.inl rfl) ?_
  refine x_iload_n C D_X6_enter_0.2.1 rfl rfl ?_
  refine x_callVq C (y := yX6_find) (c_X6_find l G t c lst cd h hC0 hN0 hc) (ci := 5) h (by decide) rfl rfl k_200 k_201 k_202 k_65 k_203 hd_X6_find ⟨(Nat.le_of_ble_eq_true rfl), (Nat.le_of_ble_eq_true rfl)⟩ rfl (by first | exact Nat.le_of_ble_eq_true rfl | simp [x_crf, Value.category]) rfl rfl D_X6_enter_0.2.2.1 ⟨(Nat.le_of_ble_eq_true rfl), (Nat.le_of_ble_eq_true rfl)⟩ (fun r_2 S_2 h_2 => ?_)
  obtain ⟨hr, rfl⟩ := h_2
  rw [hf] at hr
  subst hr
  refine x_astore_n C (lv' := [_, _, _]) D_X6_enter_0.2.2.2.1 rfl (Nat.le_of_ble_eq_true rfl) (by first | rfl | exact x_ok_q rfl) (by first | exact Or.inr ⟨_, rfl⟩ | exact va_rf_or _ | exact Or.inl rfl) rfl ?_
  refine x_aload_n C D_X6_enter_0.2.2.2.2.1 rfl rfl (by first | exact Or.inr ⟨_, rfl⟩ | exact va_rf_or _ | exact Or.inl rfl) ?_
  refine x_dup C D_X6_enter_0.2.2.2.2.2.1 (by first | rfl | exact x_crf _) ?_
  refine x_getI C (ci := 5) (k0 := 2) h (by decide) rfl (by decide) in_X6 k_155 rfl rfl D_X6_enter_0.2.2.2.2.2.2.1 ?_
  refine x_iconst C (v := nI 1) D_X6_enter_0.2.2.2.2.2.2.2.1 (by decide +kernel) ?_
  refine x_iadd C D_X6_enter_0.2.2.2.2.2.2.2.2.1 ?_
  refine x_putI C (ci := 5) (k0 := 2) h (by decide) rfl (by decide) in_X6 k_155 rfl tyX6 tyX6_ok nmX6 rfl (by rfl) rfl rfl rfl D_X6_enter_0.2.2.2.2.2.2.2.2.2.1 (fun I2 eI2 => ?_)
  refine x_aload_n C D_X6_enter_0.2.2.2.2.2.2.2.2.2.2.1 rfl rfl (by first | exact Or.inr ⟨_, rfl⟩ | exact va_rf_or _ | exact Or.inl rfl) ?_
  refine x_ifnull C 26 D_X6_enter_0.2.2.2.2.2.2.2.2.2.2.2 (by decide) (fun e_17 => ?_) (fun q9 e_17 => ?_)
  · skip
    refine x_aload_n C D_X6_enter_1.2.2.2.2.1 rfl rfl (by first | exact Or.inr ⟨_, rfl⟩ | exact va_rf_or _ | exact Or.inl rfl) ?_
    refine x_new C (ci := 0) rfl (by decide) in_X0 tyX0 tyX0_ok x_layX0 k_672 k_673 k_75 (Nat.le_of_ble_eq_true rfl) (Nat.le_of_ble_eq_true rfl) D_X6_enter_1.2.2.2.2.2.1 (fun v K_27 I_27 Q_27 fv eK_27 eI_27 eQ_27 => ?_)
    refine x_dup C D_X6_enter_1.2.2.2.2.2.2.1 (by first | rfl | exact x_crf _) ?_
    refine x_iload_n C D_X6_enter_1.2.2.2.2.2.2.2.1 rfl rfl ?_
    refine x_callI (ret := none) C (y := yX0_init) (c_X0_init l G v (cv1 c) (by rw [eK_27, x_up_s])) k_676 k_75 k_674 k_675 rfl hd_X0_init ⟨(Nat.le_of_ble_eq_true rfl), (Nat.le_of_ble_eq_true rfl)⟩ rfl (by first | exact Nat.le_of_ble_eq_true rfl | simp [x_crf, Value.category]) rfl rfl D_X6_enter_1.2.2.2.2.2.2.2.2.1 ⟨(Nat.le_of_ble_eq_true rfl), (Nat.le_of_ble_eq_true rfl)⟩ (fun _ S_32 h_32 => ?_)
    obtain rfl := h_32
    obtain ⟨I3, eI3⟩ : ∃ I3, I3 = x_u2 (x_u2 (x_u2 I_27 v 1 (nI 1)) v 2 (nI 0)) v 0 (cv1 c) := ⟨_, rfl⟩
    rw [← eI3]
    have hne : ∀ q, K q ≠ 0 → q ≠ v := fun q hq e => hq (by rw [e]; exact fv)
    have htv : t ≠ v := hne t (by omega)
    have hlv : ∀ a ∈ lst, a ≠ v := fun a ha => hne a (by rw [(hN0 a ha).1]; omega)
    have hlt : ∀ a ∈ lst, a ≠ t := fun a ha e => by have := (hN0 a ha).1; rw [e] at this; omega
    have hvl : v ∉ lst := fun hm => hlv v hm rfl
    have i3v : I3 v 0 = cv1 c ∧ I3 v 1 = nI 1 ∧ I3 v 2 = nI 0 := by rw [eI3]; simp [x_u2, x_up]
    have i3o : ∀ q, q ≠ v → I3 q = I2 q := fun q hq => by rw [eI3, x_u2_a _ _ hq, x_u2_a _ _ hq, x_u2_a _ _ hq, eI_27, x_up_n _ _ hq]
    have i2o : ∀ q, q ≠ t → I2 q = I q := fun q hq => by rw [eI2, x_u2_a _ _ hq]
    have k1o : ∀ q, q ≠ v → K_27 q = K q := fun q hq => by rw [eK_27, x_up_n _ _ hq]
    have q1o : ∀ q, q ≠ v → Q_27 q = Q q := fun q hq => by rw [eQ_27, x_up_n _ _ hq]
    have hk6 : K_27 t = 6 := by rw [k1o t htv]; exact h
    have hkv : K_27 v = 1 := by rw [eK_27, x_up_s]
    have hC1 : CH K_27 Q_27 lst (Q_27 t 0) := by
      rw [q1o t htv]
      exact hC0.congr (fun a ha => by rw [k1o a (hlv a ha), q1o a (hlv a ha)]; exact ⟨rfl, rfl⟩)
    refine x_callVv C (y := yX6_insert) (c_X6_insert l G t v lst hk6 hkv hC1 hnd hvl) (ci := 5) hk6 (by decide) rfl rfl k_696 k_698 k_31 k_65 k_699 hd_X6_insert ⟨(Nat.le_of_ble_eq_true rfl), (Nat.le_of_ble_eq_true rfl)⟩ rfl (by first | exact Nat.le_of_ble_eq_true rfl | simp [x_crf, Value.category]) rfl rfl D_X6_enter_1.2.2.2.2.2.2.2.2.2.1 ⟨(Nat.le_of_ble_eq_true rfl), (Nat.le_of_ble_eq_true rfl)⟩ (fun _ S_35 h_35 => ?_)
    obtain ⟨Q4, rfl, hC4, hQ4⟩ := h_35
    have hin : insC (fun a => decide (I3 a 0 < I3 v 0)) v lst = insC (fun a => decide (cd a < c)) v lst := insC_congr (fun a ha => by
      obtain ⟨n1, n2, n3⟩ := hN0 a ha
      rw [i3v.1, i3o a (hlv a ha), i2o a (hlt a ha), n2]
      simp only [cv1_lt n3 hc])
    rw [hin] at hC4
    refine x_aload_n C D_X6_enter_1.2.2.2.2.2.2.2.2.2.2.1 rfl rfl (by first | exact Or.inr ⟨_, rfl⟩ | exact va_rf_or _ | exact Or.inl rfl) ?_
    refine x_dup C D_X6_enter_1.2.2.2.2.2.2.2.2.2.2.2 (by first | rfl | exact x_crf _) ?_
    refine x_getI C (ci := 5) (k0 := 1) hk6 (by decide) rfl (by decide) in_X6 k_154 rfl rfl D_X6_enter_2.1 ?_
    refine x_iconst C (v := nI 1) D_X6_enter_2.2.1 (by decide +kernel) ?_
    refine x_iadd C D_X6_enter_2.2.2.1 ?_
    refine x_putI C (ci := 5) (k0 := 1) hk6 (by decide) rfl (by decide) in_X6 k_154 rfl tyX6 tyX6_ok nmX6 rfl (by rfl) rfl rfl rfl D_X6_enter_2.2.2.2.1 (fun I5 eI5 => ?_)
    have i5v : I5 v = I3 v := by rw [eI5, x_u2_a _ _ htv.symm]
    have i5o : ∀ q, q ≠ v → q ≠ t → I5 q = I q := fun q h1 h2 => by rw [eI5, x_u2_a _ _ h2, i3o q h1, i2o q h2]
    have hmem : ∀ a, a ∈ insC (fun a => decide (cd a < c)) v lst ↔ a = v ∨ a ∈ lst := fun a => insC_mem
    refine x_aload_n C D_X6_enter_2.2.2.2.2.1 rfl rfl (by first | exact Or.inr ⟨_, rfl⟩ | exact va_rf_or _ | exact Or.inl rfl) ?_
    refine x_callVv C (y := yX6_mergeEqualParts) (c_X6_mergeEqualParts l G t (insC (fun a => decide (cd a < c)) v lst) (x_up pr v 0) hk6 hC4 (insC_nodup hnd hvl) (by rw [insC_len]; omega) (fun a ha => by
      rcases (hmem a).mp ha with e | e
      · subst e; rw [x_up_s, i5v]; exact i3v.2.2
      · rw [x_up_n _ _ (hlv a e), i5o a (hlv a e) (hlt a e)]; exact hp0 a e) (fun a ha => by
      rcases (hmem a).mp ha with e | e
      · subst e; rw [x_up_s]; omega
      · rw [x_up_n _ _ (hlv a e)]; exact hb0 a e)) (ci := 5) hk6 (by decide) rfl rfl k_700 k_702 k_32 k_65 k_703 hd_X6_mergeEqualParts ⟨(Nat.le_of_ble_eq_true rfl), (Nat.le_of_ble_eq_true rfl)⟩ rfl (by first | exact Nat.le_of_ble_eq_true rfl | simp [x_crf, Value.category]) rfl rfl D_X6_enter_2.2.2.2.2.2.1 ⟨(Nat.le_of_ble_eq_true rfl), (Nat.le_of_ble_eq_true rfl)⟩ (fun _ S_49 h_49 => ?_)
    obtain ⟨I6, rfl, m1, m2, m3⟩ := h_49
    refine ret _ _ _ _ _ rfl D_X6_enter_2.2.2.2.2.2.2 (Nat.le_of_ble_eq_true rfl) (Nat.le_of_ble_eq_true rfl) ?_
    have htn : t ∉ insC (fun a => decide (cd a < c)) v lst := fun hm => by
      rcases (hmem t).mp hm with e | e
      · exact htv e
      · exact hlt t e rfl
    have i6v : ∀ j, j ≠ 2 → I6 v j = I3 v j := fun j hj => by rw [m2 v j (fun e => hj e.2) (fun e => htv e.1.symm), i5v]
    have i2t : ∀ j, j ≠ 2 → I2 t j = I t j := fun j hj => by rw [eI2, x_u2_j _ _ hj]
    have i3t : ∀ j, I3 t j = I2 t j := fun j => by rw [i3o t htv]
    refine ⟨v, K_27, I6, Q4, rfl, fv, eK_27, hC4, ?_, ?_, m1, ?_, ?_, ?_, ?_, ?_⟩
    · rw [i6v 0 (by omega)]; exact i3v.1
    · rw [i6v 1 (by omega)]; exact i3v.2.1
    · intro a j h1 h2 h3
      rw [m2 a j (fun e => by
        rcases (hmem a).mp e.1 with e1 | e1
        · exact h1 e1
        · exact h3 ⟨e1, e.2⟩) (fun e => h2 e.1), i5o a h1 h2]
    · intro a h1 h2 h3
      rw [hQ4 a h1 h2 h3, q1o a h2]
    · rw [m2 t 1 (fun e => htn e.1) (fun e => by omega), eI5, x_u2_s, i3t, i2t 1 (by omega)]
    · rw [m2 t 2 (fun e => htn e.1) (fun e => by omega), eI5, x_u2_j _ _ (by omega), i3t, eI2, x_u2_s]
    · rw [m3, eI5, x_u2_j _ _ (by omega), i3t, i2t 3 (by omega)]
  · skip
    exact absurd e_17 (by simp)
    --end
