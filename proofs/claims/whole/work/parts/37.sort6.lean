theorem D_X6_enter_0 : decode cX6_enter 0 = .ok (.aload_n 0, 1) ∧ decode cX6_enter 1 = .ok (.iload_n 1, 1) ∧ decode cX6_enter 2 = .ok (.invokevirtual 31, 3) ∧ decode cX6_enter 5 = .ok (.astore_n 2, 1) ∧ decode cX6_enter 6 = .ok (.aload_n 0, 1) ∧ decode cX6_enter 7 = .ok (.dup, 1) ∧ decode cX6_enter 8 = .ok (.getfield 17, 3) ∧ decode cX6_enter 11 = .ok (.iconst 1, 1) ∧ decode cX6_enter 12 = .ok (.iadd, 1) ∧ decode cX6_enter 13 = .ok (.putfield 17, 3) ∧ decode cX6_enter 16 = .ok (.aload_n 2, 1) ∧ decode cX6_enter 17 = .ok (.ifnull 9, 3) := by decide +kernel
theorem D_X6_enter_1 : decode cX6_enter 20 = .ok (.aload_n 2, 1) ∧ decode cX6_enter 21 = .ok (.iconst 1, 1) ∧ decode cX6_enter 22 = .ok (.putfield 35, 3) ∧ decode cX6_enter 25 = .ok (.return_, 1) ∧ decode cX6_enter 26 = .ok (.aload_n 0, 1) ∧ decode cX6_enter 27 = .ok (.new 24, 3) ∧ decode cX6_enter 30 = .ok (.dup, 1) ∧ decode cX6_enter 31 = .ok (.iload_n 1, 1) ∧ decode cX6_enter 32 = .ok (.invokespecial 46, 3) ∧ decode cX6_enter 35 = .ok (.invokevirtual 49, 3) ∧ decode cX6_enter 38 = .ok (.aload_n 0, 1) ∧ decode cX6_enter 39 = .ok (.dup, 1) := by decide +kernel
theorem D_X6_enter_2 : decode cX6_enter 40 = .ok (.getfield 13, 3) ∧ decode cX6_enter 43 = .ok (.iconst 1, 1) ∧ decode cX6_enter 44 = .ok (.iadd, 1) ∧ decode cX6_enter 45 = .ok (.putfield 13, 3) ∧ decode cX6_enter 48 = .ok (.aload_n 0, 1) ∧ decode cX6_enter 49 = .ok (.invokevirtual 53, 3) ∧ decode cX6_enter 52 = .ok (.return_, 1) := by decide +kernel
abbrev rm_X6_enterF : Room := { frames := 1, cells := 1, slots := 4, locals := 22 }
set_option maxHeartbeats 4000000 in
set_option maxRecDepth 100000 in
theorem c_X6_enterF (l : Launch) (G : xG) {K N : Nat → Nat} {I : Nat → Nat → Int32} {Q : Nat → Nat → Option Nat} {J : Nat → Nat → Int64} (t c e0 : Nat) (lst : List Nat) (cd : Nat → Nat) (h : K t = 6) (hC0 : CH K Q lst (Q t 0)) (hN0 : NE K I cd lst) (hc : c < 1999) (hf : lst.find? (fun a => decide (cd a = c)) = some e0) : XM l yX6_enter cX6_enter 3 none rm_X6_enterF G Rv [.ref t, .int (cv1 c)] (K, N, I, Q, J) (fun _ S1 => S1 = (K, N, x_u2 (x_u2 I t 2 (I t 2 + nI 1)) e0 1 (nI 1), Q, J)) := by
  refine x_metv (lv := [_, _, _]) (by decide +kernel) (x_cc (by first | rfl | exact x_crf _) (x_cc (by first | rfl | exact x_crf _) x_cn)) (Nat.le_of_ble_eq_true rfl) rfl ?_
  intro pP eE sS mM aA bB hH cC Z C hini ret
  have hk0 := (hN0 e0 (List.mem_of_find?_eq_some hf)).1
  refine x_aload_n C D_X6_enter_0.1 rfl rfl (by first | exact Or.inr ⟨_, rfl⟩ | exact va_rf_or _ | exact Or.inl rfl) ?_
  refine x_iload_n C D_X6_enter_0.2.1 rfl rfl ?_
  refine x_callVq C (y := yX6_find) (c_X6_find l G t c lst cd h hC0 hN0 hc) (ci := 5) h (by decide) rfl rfl k_200 k_201 k_202 k_65 k_203 hd_X6_find ⟨(Nat.le_of_ble_eq_true rfl), (Nat.le_of_ble_eq_true rfl)⟩ rfl (by first | exact Nat.le_of_ble_eq_true rfl | simp [x_crf, Value.category]) rfl rfl D_X6_enter_0.2.2.1 ⟨(Nat.le_of_ble_eq_true rfl), (Nat.le_of_ble_eq_true rfl)⟩ (fun r_2 S_2 h_2 => ?_)
  obtain ⟨hr, rfl⟩ := h_2
  rw [hf] at hr
  subst hr
  refine x_astore_n C (lv' := [_, _, _]) D_X6_enter_0.2.2.2.1 rfl (Nat.le_of_ble_eq_true rfl) (by first | rfl | exact x_ok_q rfl) (by first | exact Or.inr ⟨_, rfl⟩ | exact va_rf_or _ | exact Or.inl rfl) rfl ?_
  refine x_aload_n C D_X6_enter_0.2.2.2.2.1 rfl rfl (by first | exact Or.inr ⟨_, rfl⟩ | exact va_rf_or _ | exact Or.inl rfl) ?_
  refine x_dup C D_X6_enter_0.2.2.2.2.2.1 (by first | rfl | exact x_crf _) ?_
  refine x_getI C (ci := 5) (k0 := 2) h (by decide) rfl (by decide) in_X6 k_155 rfl rfl D_X6_enter_0.2.2.2.2.2.2.1 ?_
  refine x_iconst C (v := nI 1) D_X6_enter_0.2.2.2.2.2.2.2.1 (by decide +kernel) ?_
  refine x_iadd C D_X6_enter_0.2.2.2.2.2.2.2.2.1 ?_
  refine x_putI C (ci := 5) (k0 := 2) h (by decide) rfl (by decide) in_X6 k_155 rfl tyX6 tyX6_ok nmX6 rfl (by rfl) rfl rfl rfl D_X6_enter_0.2.2.2.2.2.2.2.2.2.1 (fun I2 eI2 => ?_)
  refine x_aload_n C D_X6_enter_0.2.2.2.2.2.2.2.2.2.2.1 rfl rfl (by first | exact Or.inr ⟨_, rfl⟩ | exact va_rf_or _ | exact Or.inl rfl) ?_
  refine x_ifnull C 26 D_X6_enter_0.2.2.2.2.2.2.2.2.2.2.2 (by decide) (fun e_17 => ?_) (fun q9 e_17 => ?_)
  · skip
    exact absurd e_17 (by simp)
    --end
  · skip
    obtain rfl : e0 = q9 := Option.some.inj e_17
    refine x_aload_n C D_X6_enter_1.1 rfl rfl (by first | exact Or.inr ⟨_, rfl⟩ | exact va_rf_or _ | exact Or.inl rfl) ?_
    refine x_iconst C (v := nI 1) D_X6_enter_1.2.1 (by decide +kernel) ?_
    refine x_putI C (ci := 0) (k0 := 1) hk0 (by decide) rfl (by decide) in_X0 k_682 rfl tyX0 tyX0_ok nmX0 rfl (by rfl) rfl rfl rfl D_X6_enter_1.2.2.1 (fun I3 eI3 => ?_)
    refine ret _ _ _ _ _ rfl D_X6_enter_1.2.2.2.1 (Nat.le_of_ble_eq_true rfl) (Nat.le_of_ble_eq_true rfl) ?_
    rw [eI3, eI2]
