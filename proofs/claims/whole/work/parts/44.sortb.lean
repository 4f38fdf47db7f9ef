abbrev rm_X6_retire : Room := { frames := 3, cells := 0, slots := 0, locals := 67 }
theorem hd_X6_dropDead : yX6_dropDead.cls ≠ "java/lang/invoke/MethodHandle" ∧ yX6_dropDead.cls ≠ "java/lang/invoke/VarHandle" ∧ (parseMethodDescriptor yX6_dropDead.desc).map (fun d => d.parameters.length) = some 0 := by decide +kernel
set_option maxHeartbeats 4000000 in
set_option maxRecDepth 100000 in
theorem c_X6_retire (l : Launch) (G : xG) {K N : Nat → Nat} {I : Nat → Nat → Int32} {Q : Nat → Nat → Option Nat} {J : Nat → Nat → Int64} (t c e0 lv : Nat) (lst : List Nat) (cd : Nat → Nat) (h : K t = 6) (hC0 : CH K Q lst (Q t 0)) (hN0 : NE K I cd lst) (hc : c < 1999) (hf : lst.find? (fun a => decide (cd a = c)) = some e0) (ha : alv I e0 = true) (hnd : lst.Nodup) (hl : lst.length < 256) (hl1 : I t 1 = nI lst.length) (hl2 : I t 2 = nI (lv + 1)) (hlv : (lst.filter (fun a => alv I a && decide (a ≠ e0))).length = lv) : XM l yX6_retire cX6_retire 3 none rm_X6_retire G Rv [.ref t, .int (cv1 c)] (K, N, I, Q, J) (fun _ S1 => ∃ I1 Q1, S1 = (K, N, I1, Q1, J) ∧ CH K Q1 (if lv < lst.length - lv then lst.filter (fun a => alv I a && decide (a ≠ e0)) else lst) (Q1 t 0) ∧ I1 e0 1 = nI 0 ∧ (∀ a j, ¬ (a = e0 ∧ j = 1) → ¬ (a ∈ lst ∧ j = 2) → ¬ (a = t ∧ (j = 1 ∨ j = 2)) → I1 a j = I a j) ∧ (∀ i a, (if lv < lst.length - lv then lst.filter (fun a => alv I a && decide (a ≠ e0)) else lst)[i]? = some a → I1 a 2 = if lv < lst.length - lv then nI ((dls lv 9).getD i 0) else I a 2) ∧ I1 t 1 = nI (if lv < lst.length - lv then lst.filter (fun a => alv I a && decide (a ≠ e0)) else lst).length ∧ I1 t 2 = nI lv ∧ (∀ a, a ∉ lst → a ≠ t → Q1 a = Q a)) := by
  refine x_metv (lv := [_, _, _]) (by decide +kernel) (x_cc (by first | rfl | exact x_crf _) (x_cc (by first | rfl | exact x_crf _) x_cn)) (Nat.le_of_ble_eq_true rfl) rfl ?_
  intro pP eE sS mM aA bB hH cC Z C hini ret
  have he0 := List.mem_of_find?_eq_some hf
  have hk0 := (hN0 e0 he0).1
  have het : e0 ≠ t := fun e => by rw [e] at hk0; omega
  have hlvl : lv ≤ lst.length := by rw [← hlv]; exact List.length_filter_le _ _
  refine x_aload_n C D_X6_retire_0.1 rfl rfl (by first | exact Or.inr ⟨_, rfl⟩ | exact va_rf_or _ | exact Or.inl rfl) ?_
  refine x_iload_n C D_X6_retire_0.2.1 rfl rfl ?_
  refine x_callVq C (y := yX6_find) (c_X6_find l G t c lst cd h hC0 hN0 hc) (ci := 5) h (by decide) rfl rfl k_200 k_201 k_202 k_65 k_203 hd_X6_find ⟨(Nat.le_of_ble_eq_true rfl), (Nat.le_of_ble_eq_true rfl)⟩ rfl (by first | exact Nat.le_of_ble_eq_true rfl | simp [x_crf, Value.category]) rfl rfl D_X6_retire_0.2.2.1 ⟨(Nat.le_of_ble_eq_true rfl), (Nat.le_of_ble_eq_true rfl)⟩ (fun r_2 S_2 h_2 => ?_)
  obtain ⟨hr, rfl⟩ := h_2
  rw [hf] at hr
  subst hr
  refine x_astore_n C (lv' := [_, _, _]) D_X6_retire_0.2.2.2.1 rfl (Nat.le_of_ble_eq_true rfl) (by first | rfl | exact x_ok_q rfl) (by first | exact Or.inr ⟨_, rfl⟩ | exact va_rf_or _ | exact Or.inl rfl) rfl ?_
  refine x_aload_n C D_X6_retire_0.2.2.2.2.1 rfl rfl (by first | exact Or.inr ⟨_, rfl⟩ | exact va_rf_or _ | exact Or.inl rfl) ?_
  refine x_ifnull C 17 D_X6_retire_0.2.2.2.2.2.1 (by decide) (fun e_7 => ?_) (fun q9 e_7 => ?_)
  · skip
    exact absurd e_7 (by simp)
    --end
  · skip
    obtain rfl : e0 = q9 := Option.some.inj e_7
    refine x_aload_n C D_X6_retire_0.2.2.2.2.2.2.1 rfl rfl (by first | exact Or.inr ⟨_, rfl⟩ | exact va_rf_or _ | exact Or.inl rfl) ?_
    refine x_getI C (ci := 0) (k0 := 1) hk0 (by decide) rfl (by decide) in_X0 k_682 rfl rfl D_X6_retire_0.2.2.2.2.2.2.2.1 ?_
    refine x_if_ne C 18 D_X6_retire_0.2.2.2.2.2.2.2.2.1 (by decide) (fun c_14 => ?_) (fun c_14 => ?_)
    · skip
      refine x_aload_n C D_X6_retire_0.2.2.2.2.2.2.2.2.2.2.1 rfl rfl (by first | exact Or.inr ⟨_, rfl⟩ | exact va_rf_or _ | exact Or.inl rfl) ?_
      refine x_iconst C (v := nI 0) D_X6_retire_0.2.2.2.2.2.2.2.2.2.2.2 (by decide +kernel) ?_
      refine x_putI C (ci := 0) (k0 := 1) hk0 (by decide) rfl (by decide) in_X0 k_682 rfl tyX0 tyX0_ok nmX0 rfl (by rfl) rfl rfl rfl D_X6_retire_1.1 (fun I2 eI2 => ?_)
      refine x_aload_n C D_X6_retire_1.2.1 rfl rfl (by first | exact Or.inr ⟨_, rfl⟩ | exact va_rf_or _ | exact Or.inl rfl) ?_
      refine x_dup C D_X6_retire_1.2.2.1 (by first | rfl | exact x_crf _) ?_
      refine x_getI C (ci := 5) (k0 := 2) h (by decide) rfl (by decide) in_X6 k_155 rfl rfl D_X6_retire_1.2.2.2.1 ?_
      refine x_eqi _ (show I2 t 2 = nI (lv + 1) by rw [eI2, x_u2_a _ _ het.symm]; exact hl2) ?_
      refine x_iconst C (v := nI 1) D_X6_retire_1.2.2.2.2.1 (by decide +kernel) ?_
      refine x_isub C D_X6_retire_1.2.2.2.2.2.1 ?_
      refine x_eqi _ (pk_sub (by omega)) ?_
      refine x_putI C (ci := 5) (k0 := 2) h (by decide) rfl (by decide) in_X6 k_155 rfl tyX6 tyX6_ok nmX6 rfl (by rfl) rfl rfl rfl D_X6_retire_1.2.2.2.2.2.2.1 (fun I3 eI3 => ?_)
      have i3t : I3 t 2 = nI lv := by rw [eI3, x_u2_s]; rfl
      have i3t1 : I3 t 1 = nI lst.length := by rw [eI3, x_u2_j _ _ (by omega), eI2, x_u2_a _ _ het.symm]; exact hl1
      have i3e : I3 e0 1 = nI 0 := by rw [eI3, x_u2_a _ _ het, eI2, x_u2_s]
      have i3o : ∀ a j, ¬ (a = e0 ∧ j = 1) → ¬ (a = t ∧ j = 2) → I3 a j = I a j := fun a j h1 h2 => by
        have e2 : I2 a j = I a j := by
          rw [eI2]
          by_cases e : a = e0
          · subst e; exact x_u2_j _ _ (fun z => h1 ⟨rfl, z⟩)
          · rw [x_u2_a _ _ e]
        rw [eI3]
        by_cases e : a = t
        · subst e; rw [x_u2_j _ _ (fun z => h2 ⟨rfl, z⟩), e2]
        · rw [x_u2_a _ _ e, e2]
      have hfe : lst.filter (alv I3) = lst.filter (fun a => alv I a && decide (a ≠ e0)) := by
        refine List.filter_congr (fun a ha9 => ?_)
        have hat : a ≠ t := fun e => by have := hC0.kind a ha9; rw [e] at this; omega
        by_cases e : a = e0
        · subst e; simp [alv, i3e, nI_0]
        · simp only [alv, i3o a 1 (fun z => e z.1) (fun z => hat z.1)]; simp [e]
      refine x_aload_n C D_X6_retire_1.2.2.2.2.2.2.2.1 rfl rfl (by first | exact Or.inr ⟨_, rfl⟩ | exact va_rf_or _ | exact Or.inl rfl) ?_
      refine x_getI C (ci := 5) (k0 := 1) h (by decide) rfl (by decide) in_X6 k_154 rfl rfl D_X6_retire_1.2.2.2.2.2.2.2.2.1 ?_
      refine x_eqi _ i3t1 ?_
      refine x_aload_n C D_X6_retire_1.2.2.2.2.2.2.2.2.2.1 rfl rfl (by first | exact Or.inr ⟨_, rfl⟩ | exact va_rf_or _ | exact Or.inl rfl) ?_
      refine x_getI C (ci := 5) (k0 := 2) h (by decide) rfl (by decide) in_X6 k_155 rfl rfl D_X6_retire_1.2.2.2.2.2.2.2.2.2.2.1 ?_
      refine x_eqi _ i3t ?_
      refine x_isub C D_X6_retire_1.2.2.2.2.2.2.2.2.2.2.2 ?_
      refine x_eqi _ (pk_sub hlvl) ?_
      refine x_aload_n C D_X6_retire_2.1 rfl rfl (by first | exact Or.inr ⟨_, rfl⟩ | exact va_rf_or _ | exact Or.inl rfl) ?_
      refine x_getI C (ci := 5) (k0 := 2) h (by decide) rfl (by decide) in_X6 k_155 rfl rfl D_X6_retire_2.2.1 ?_
      refine x_eqi _ i3t ?_
      refine x_icmp_le C 53 D_X6_retire_2.2.2.1 (by decide) (fun c_46 => ?_) (fun c_46 => ?_)
      · skip
        have c1 : ¬ lv < lst.length - lv := by
          have h9 := (nI_leI (by omega) (by omega)).mp c_46
          omega
        refine ret _ _ _ _ _ rfl D_X6_retire_2.2.2.2.2.2 (Nat.le_of_ble_eq_true rfl) (Nat.le_of_ble_eq_true rfl) ?_
        refine ⟨I3, Q, rfl, ?_, i3e, fun a j h1 h2 h3 => i3o a j h1 (fun e => h3 ⟨e.1, Or.inr e.2⟩), ?_, ?_, i3t, fun _ _ _ => rfl⟩
        · rw [if_neg c1]; exact hC0
        · intro i a hi
          rw [if_neg c1] at hi ⊢
          have ha9 := List.mem_of_getElem? hi
          exact i3o a 2 (fun e => by omega) (fun e => by have := hC0.kind a ha9; rw [e.1] at this; omega)
        · rw [if_neg c1]; exact i3t1
      · skip
        have c1 : lv < lst.length - lv := by
          rcases Nat.lt_or_ge lv (lst.length - lv) with h9 | h9
          · exact h9
          · exact absurd ((nI_leI (by omega) (by omega)).mpr h9) c_46
        refine x_aload_n C D_X6_retire_2.2.2.2.1 rfl rfl (by first | exact Or.inr ⟨_, rfl⟩ | exact va_rf_or _ | exact Or.inl rfl) ?_
        refine x_callVv C (y := yX6_dropDead) (c_X6_dropDead l G t lst h hC0 hnd hl (by rw [hfe, hlv]; exact i3t)) (ci := 5) h (by decide) rfl rfl k_327 k_329 k_28 k_65 k_330 hd_X6_dropDead ⟨(Nat.le_of_ble_eq_true rfl), (Nat.le_of_ble_eq_true rfl)⟩ rfl (by first | exact Nat.le_of_ble_eq_true rfl | simp [x_crf, Value.category]) rfl rfl D_X6_retire_2.2.2.2.2.1 ⟨(Nat.le_of_ble_eq_true rfl), (Nat.le_of_ble_eq_true rfl)⟩ (fun _ S_50 h_50 => ?_)
        obtain ⟨I4, Q4, rfl, d1, d2, d3, d4, d5⟩ := h_50
        rw [hfe] at d1 d2 d4
        refine ret _ _ _ _ _ rfl D_X6_retire_2.2.2.2.2.2 (Nat.le_of_ble_eq_true rfl) (Nat.le_of_ble_eq_true rfl) ?_
        refine ⟨I4, Q4, rfl, ?_, ?_, ?_, ?_, ?_, ?_, d5⟩
        · rw [if_pos c1]; exact d1
        · rw [d3 e0 1 (fun e => by omega) (fun e => het e.1)]; exact i3e
        · intro a j h1 h2 h3
          rw [d3 a j h2 (fun e => h3 ⟨e.1, Or.inl e.2⟩)]
          exact i3o a j h1 (fun e => h3 ⟨e.1, Or.inr e.2⟩)
        · intro i a hi
          rw [if_pos c1] at hi ⊢
          have h9 := d2 i a hi
          rw [hlv] at h9; exact h9
        · rw [if_pos c1]; exact d4
        · rw [d3 t 2 (fun e => by have := hC0.kind t e.1; omega) (fun e => by omega)]; exact i3t
    · skip
      exact absurd ha (by simp [alv, c_14])
      --end
