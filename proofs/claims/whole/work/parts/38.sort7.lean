theorem D_X6_deal_0 : decode cX6_deal 0 = .ok (.aload_n 0, 1) ∧ decode cX6_deal 1 = .ok (.astore_n 2, 1) ∧ decode cX6_deal 2 = .ok (.iconst 0, 1) ∧ decode cX6_deal 3 = .ok (.istore_n 3, 1) ∧ decode cX6_deal 4 = .ok (.iload_n 3, 1) ∧ decode cX6_deal 5 = .ok (.iconst 1, 1) ∧ decode cX6_deal 6 = .ok (.iload_n 1, 1) ∧ decode cX6_deal 7 = .ok (.ishl, 1) ∧ decode cX6_deal 8 = .ok (.if_icmp .ge 23, 3) ∧ decode cX6_deal 11 = .ok (.aload_n 2, 1) ∧ decode cX6_deal 12 = .ok (.ifnull 19, 3) ∧ decode cX6_deal 15 = .ok (.aload_n 2, 1) := by decide +kernel
theorem D_X6_deal_1 : decode cX6_deal 16 = .ok (.iload_n 1, 1) ∧ decode cX6_deal 17 = .ok (.putfield 43, 3) ∧ decode cX6_deal 20 = .ok (.aload_n 2, 1) ∧ decode cX6_deal 21 = .ok (.getfield 28, 3) ∧ decode cX6_deal 24 = .ok (.astore_n 2, 1) ∧ decode cX6_deal 25 = .ok (.iinc 3 1, 3) ∧ decode cX6_deal 28 = .ok (.goto (-24), 3) ∧ decode cX6_deal 31 = .ok (.aload_n 2, 1) ∧ decode cX6_deal 32 = .ok (.areturn, 1) := by decide +kernel
abbrev rm_X6_deal : Room := { frames := 0, cells := 0, slots := 0, locals := 0 }
set_option maxHeartbeats 4000000 in
set_option maxRecDepth 100000 in
theorem c_X6_deal (l : Launch) (G : xG) {K N : Nat → Nat} {I : Nat → Nat → Int32} {Q : Nat → Nat → Option Nat} {J : Nat → Nat → Int64} (o : Option Nat) (j : Nat) (B : List Nat) (hC0 : CH K Q B o) (hj : j < 9) : XM l yX6_deal cX6_deal 4 (some (.object "ScapegoatSpur$Entry")) rm_X6_deal G Rq [va_rf o, .int (nI j)] (K, N, I, Q, J) (fun r S1 => ∃ I1, S1 = (K, N, I1, Q, J) ∧ CH K Q (B.drop (2 ^ j)) r ∧ ∀ a i, I1 a i = if a ∈ B.take (2 ^ j) ∧ i = 2 then nI j else I a i) := by
  refine x_metq (lv := [_, _, _, _]) (by decide +kernel) (x_cc (by first | rfl | exact x_crf _) (x_cc (by first | rfl | exact x_crf _) x_cn)) (Nat.le_of_ble_eq_true rfl) rfl ?_
  intro pP eE sS mM aA bB hH cC Z C hini ret
  have hpw := pw_lt hj
  refine x_aload_n C D_X6_deal_0.1 rfl rfl (by first | exact Or.inr ⟨_, rfl⟩ | exact va_rf_or _ | exact Or.inl rfl) ?_
  refine x_astore_n C (lv' := [_, _, _, _]) D_X6_deal_0.2.1 rfl (Nat.le_of_ble_eq_true rfl) (by first | rfl | exact x_ok_q rfl) (by first | exact Or.inr ⟨_, rfl⟩ | exact va_rf_or _ | exact Or.inl rfl) rfl ?_
  refine x_iconst C (v := nI 0) D_X6_deal_0.2.2.1 (by decide +kernel) ?_
  refine x_istore_n C (lv' := [_, _, _, _]) D_X6_deal_0.2.2.2.1 rfl (Nat.le_of_ble_eq_true rfl) (by first | rfl | exact x_ok_q rfl) rfl ?_
  have L_4 : ∀ (w_4 : Nat) (i0 : Nat) (o1 : Option Nat) (I1 : Nat → Nat → Int32), 2 ^ j - i0 < w_4 → (i0 ≤ 2 ^ j) → (CH K Q (B.drop i0) o1) → (∀ a i, I1 a i = if a ∈ B.take i0 ∧ i = 2 then nI j else I a i) → XW pP l eE rm_X6_deal sS mM aA bB hH cC G Z 0 0 (K, N, I1, Q, J) 4 [some (va_rf o), some (.int (nI j)), some (va_rf o1), some (.int (nI i0))] [] := by
    intro w_4
    induction w_4 with
    | zero =>
      intro i0 o1 I1 hw_4
      exact absurd hw_4 (Nat.not_lt_zero _)
    | succ w_4 ih_4 =>
      intro i0 o1 I1 hw_4 hi0 hC hI1
      refine x_iload_n C D_X6_deal_0.2.2.2.2.1 rfl rfl ?_
      refine x_iconst C (v := nI 1) D_X6_deal_0.2.2.2.2.2.1 (by decide +kernel) ?_
      refine x_iload_n C D_X6_deal_0.2.2.2.2.2.2.1 rfl rfl ?_
      refine x_ishl C D_X6_deal_0.2.2.2.2.2.2.2.1 ?_
      refine x_eqi _ (shl_pw hj) ?_
      refine x_icmp_ge C 31 D_X6_deal_0.2.2.2.2.2.2.2.2.1 (by decide) (fun c_8 => ?_) (fun c_8 => ?_)
      · skip
        have hie : i0 = 2 ^ j := by
          have h9 := (nI_leI (by omega) (by omega)).mp c_8
          omega
        subst hie
        refine x_aload_n C D_X6_deal_1.2.2.2.2.2.2.2.1 rfl rfl (by first | exact Or.inr ⟨_, rfl⟩ | exact va_rf_or _ | exact Or.inl rfl) ?_
        refine ret _ _ _ _ _ _ _ ⟨_, rfl⟩ D_X6_deal_1.2.2.2.2.2.2.2.2 (Nat.le_of_ble_eq_true rfl) (Nat.le_of_ble_eq_true rfl) (by first | exact rfl | exact (rfl : _ = va_rf (some _)) | exact (rfl : _ = va_rf none)) ?_
        exact ⟨I1, rfl, hC, hI1⟩
      · skip
        have hil : i0 < 2 ^ j := by
          rcases Nat.lt_or_ge i0 (2 ^ j) with h9 | h9
          · exact h9
          · exact absurd ((nI_leI (by omega) (by omega)).mpr h9) c_8
        refine x_aload_n C D_X6_deal_0.2.2.2.2.2.2.2.2.2.1 rfl rfl (by first | exact Or.inr ⟨_, rfl⟩ | exact va_rf_or _ | exact Or.inl rfl) ?_
        refine x_ifnull C 31 D_X6_deal_0.2.2.2.2.2.2.2.2.2.2.1 (by decide) (fun e_12 => ?_) (fun a9 e_12 => ?_)
        · skip
          subst e_12
          have hdr := hC.none
          have hln : B.length ≤ i0 := List.drop_eq_nil_iff.mp hdr
          refine x_aload_n C D_X6_deal_1.2.2.2.2.2.2.2.1 rfl rfl (by first | exact Or.inr ⟨_, rfl⟩ | exact va_rf_or _ | exact Or.inl rfl) ?_
          refine ret _ _ _ _ _ _ _ ⟨_, rfl⟩ D_X6_deal_1.2.2.2.2.2.2.2.2 (Nat.le_of_ble_eq_true rfl) (Nat.le_of_ble_eq_true rfl) (by first | exact rfl | exact (rfl : _ = va_rf (some _)) | exact (rfl : _ = va_rf none)) ?_
          exact ⟨I1, rfl, by rw [List.drop_eq_nil_iff.mpr (by omega)]; rfl, fun a i => by rw [hI1, List.take_of_length_le hln, List.take_of_length_le (by omega)]⟩
        · skip
          subst e_12
          obtain ⟨l9, hdr, hk9, hCl⟩ := hC.some
          have hil2 : i0 < B.length := by
            rcases Nat.lt_or_ge i0 B.length with h9 | h9
            · exact h9
            · rw [List.drop_eq_nil_iff.mpr h9] at hdr; cases hdr
          rw [List.drop_eq_getElem_cons hil2] at hdr
          obtain ⟨ha9, hl9⟩ := List.cons.inj hdr
          rw [← hl9] at hCl
          refine x_aload_n C D_X6_deal_0.2.2.2.2.2.2.2.2.2.2.2 rfl rfl (by first | exact Or.inr ⟨_, rfl⟩ | exact va_rf_or _ | exact Or.inl rfl) ?_
          refine x_iload_n C D_X6_deal_1.1 rfl rfl ?_
          refine x_putI C (ci := 0) (k0 := 2) hk9 (by decide) rfl (by decide) in_X0 k_684 rfl tyX0 tyX0_ok nmX0 rfl (by rfl) rfl rfl rfl D_X6_deal_1.2.1 (fun I2 eI2 => ?_)
          refine x_aload_n C D_X6_deal_1.2.2.1 rfl rfl (by first | exact Or.inr ⟨_, rfl⟩ | exact va_rf_or _ | exact Or.inl rfl) ?_
          refine x_getQ C (ci := 0) (k0 := 3) hk9 (by decide) rfl (by decide) in_X0 k_686 rfl rfl D_X6_deal_1.2.2.2.1 ?_
          refine x_eqq _ (rfl : Q a9 3 = Q a9 3) ?_
          refine x_astore_n C (lv' := [_, _, _, _]) D_X6_deal_1.2.2.2.2.1 rfl (Nat.le_of_ble_eq_true rfl) (by first | rfl | exact x_ok_q rfl) (by first | exact Or.inr ⟨_, rfl⟩ | exact va_rf_or _ | exact Or.inl rfl) rfl ?_
          refine x_iinc C (lv' := [_, _, _, _]) D_X6_deal_1.2.2.2.2.2.1 rfl (x_inc_1 _) (by first | rfl | exact x_ok_q rfl) rfl ?_
          refine x_lv (lv := [_, _, _, some (.int (nI (i0 + 1)))]) (by rw [nI_add]) ?_
          refine x_goto C 4 D_X6_deal_1.2.2.2.2.2.2.1 (by decide) ?_
          refine ih_4 (i0 + 1) _ I2 (by omega) (by omega) hCl (fun a i => ?_)
          rw [eI2, List.take_succ_eq_append_getElem hil2, ha9]
          by_cases e : a = a9
          · subst e
            by_cases e2 : i = 2
            · subst e2; rw [x_u2_s]; simp
            · rw [x_u2_j _ _ e2, hI1]; simp [e2]
          · rw [x_u2_a _ _ e, hI1]; simp [e]
  exact L_4 _ 0 _ I (Nat.lt_succ_self _) (Nat.zero_le _) hC0 (fun a i => by simp)
