theorem D_X7_walkToHeir_0 : decode cX7_walkToHeir 0 = .ok (.aload_n 1, 1) ∧ decode cX7_walkToHeir 1 = .ok (.getfield 48, 3) ∧ decode cX7_walkToHeir 4 = .ok (.invokestatic 69, 3) ∧ decode cX7_walkToHeir 7 = .ok (.aload_n 1, 1) ∧ decode cX7_walkToHeir 8 = .ok (.getfield 51, 3) ∧ decode cX7_walkToHeir 11 = .ok (.invokestatic 69, 3) ∧ decode cX7_walkToHeir 14 = .ok (.if_icmp .le 7, 3) ∧ decode cX7_walkToHeir 17 = .ok (.iconst 1, 1) ∧ decode cX7_walkToHeir 18 = .ok (.goto 4, 3) ∧ decode cX7_walkToHeir 21 = .ok (.iconst 0, 1) ∧ decode cX7_walkToHeir 22 = .ok (.istore_n 2, 1) ∧ decode cX7_walkToHeir 23 = .ok (.aload_n 1, 1) := by decide +kernel
theorem D_X7_walkToHeir_1 : decode cX7_walkToHeir 24 = .ok (.astore_n 3, 1) ∧ decode cX7_walkToHeir 25 = .ok (.iload_n 2, 1) ∧ decode cX7_walkToHeir 26 = .ok (.ifCond .eq 10, 3) ∧ decode cX7_walkToHeir 29 = .ok (.aload_n 1, 1) ∧ decode cX7_walkToHeir 30 = .ok (.getfield 48, 3) ∧ decode cX7_walkToHeir 33 = .ok (.goto 7, 3) ∧ decode cX7_walkToHeir 36 = .ok (.aload_n 1, 1) ∧ decode cX7_walkToHeir 37 = .ok (.getfield 51, 3) ∧ decode cX7_walkToHeir 40 = .ok (.astore 4, 2) ∧ decode cX7_walkToHeir 42 = .ok (.aload 4, 2) ∧ decode cX7_walkToHeir 44 = .ok (.ifnull 37, 3) ∧ decode cX7_walkToHeir 47 = .ok (.aload_n 0, 1) := by decide +kernel
theorem D_X7_walkToHeir_2 : decode cX7_walkToHeir 48 = .ok (.getfield 14, 3) ∧ decode cX7_walkToHeir 51 = .ok (.aload 4, 2) ∧ decode cX7_walkToHeir 53 = .ok (.invokevirtual 39, 3) ∧ decode cX7_walkToHeir 56 = .ok (.aload 4, 2) ∧ decode cX7_walkToHeir 58 = .ok (.astore_n 3, 1) ∧ decode cX7_walkToHeir 59 = .ok (.iload_n 2, 1) ∧ decode cX7_walkToHeir 60 = .ok (.ifCond .eq 11, 3) ∧ decode cX7_walkToHeir 63 = .ok (.aload 4, 2) ∧ decode cX7_walkToHeir 65 = .ok (.getfield 51, 3) ∧ decode cX7_walkToHeir 68 = .ok (.goto 8, 3) ∧ decode cX7_walkToHeir 71 = .ok (.aload 4, 2) ∧ decode cX7_walkToHeir 73 = .ok (.getfield 48, 3) := by decide +kernel
theorem D_X7_walkToHeir_3 : decode cX7_walkToHeir 76 = .ok (.astore 4, 2) ∧ decode cX7_walkToHeir 78 = .ok (.goto (-36), 3) ∧ decode cX7_walkToHeir 81 = .ok (.aload_n 3, 1) ∧ decode cX7_walkToHeir 82 = .ok (.areturn, 1) := by decide +kernel
theorem D_X7_insert_0 : decode cX7_insert 0 = .ok (.aload_n 0, 1) ∧ decode cX7_insert 1 = .ok (.iload_n 1, 1) ∧ decode cX7_insert 2 = .ok (.invokevirtual 28, 3) ∧ decode cX7_insert 5 = .ok (.ifnull 4, 3) ∧ decode cX7_insert 8 = .ok (.return_, 1) ∧ decode cX7_insert 9 = .ok (.new 44, 3) ∧ decode cX7_insert 12 = .ok (.dup, 1) ∧ decode cX7_insert 13 = .ok (.iload_n 1, 1) ∧ decode cX7_insert 14 = .ok (.invokespecial 54, 3) ∧ decode cX7_insert 17 = .ok (.astore_n 2, 1) ∧ decode cX7_insert 18 = .ok (.aload_n 0, 1) ∧ decode cX7_insert 19 = .ok (.getfield 14, 3) := by decide +kernel
theorem D_X7_insert_1 : decode cX7_insert 22 = .ok (.aload_n 0, 1) ∧ decode cX7_insert 23 = .ok (.getfield 14, 3) ∧ decode cX7_insert 26 = .ok (.invokevirtual 32, 3) ∧ decode cX7_insert 29 = .ok (.iconst 1, 1) ∧ decode cX7_insert 30 = .ok (.isub, 1) ∧ decode cX7_insert 31 = .ok (.invokevirtual 55, 3) ∧ decode cX7_insert 34 = .ok (.astore_n 3, 1) ∧ decode cX7_insert 35 = .ok (.aload_n 3, 1) ∧ decode cX7_insert 36 = .ok (.ifnonnull 11, 3) ∧ decode cX7_insert 39 = .ok (.aload_n 0, 1) ∧ decode cX7_insert 40 = .ok (.aload_n 2, 1) ∧ decode cX7_insert 41 = .ok (.putfield 20, 3) := by decide +kernel
theorem D_X7_insert_2 : decode cX7_insert 44 = .ok (.goto 24, 3) ∧ decode cX7_insert 47 = .ok (.iload_n 1, 1) ∧ decode cX7_insert 48 = .ok (.aload_n 3, 1) ∧ decode cX7_insert 49 = .ok (.getfield 43, 3) ∧ decode cX7_insert 52 = .ok (.if_icmp .ge 11, 3) ∧ decode cX7_insert 55 = .ok (.aload_n 3, 1) ∧ decode cX7_insert 56 = .ok (.aload_n 2, 1) ∧ decode cX7_insert 57 = .ok (.putfield 48, 3) ∧ decode cX7_insert 60 = .ok (.goto 8, 3) ∧ decode cX7_insert 63 = .ok (.aload_n 3, 1) ∧ decode cX7_insert 64 = .ok (.aload_n 2, 1) ∧ decode cX7_insert 65 = .ok (.putfield 51, 3) := by decide +kernel
theorem D_X7_insert_3 : decode cX7_insert 68 = .ok (.aload_n 0, 1) ∧ decode cX7_insert 69 = .ok (.aload_n 0, 1) ∧ decode cX7_insert 70 = .ok (.getfield 14, 3) ∧ decode cX7_insert 73 = .ok (.invokevirtual 32, 3) ∧ decode cX7_insert 76 = .ok (.iconst 1, 1) ∧ decode cX7_insert 77 = .ok (.isub, 1) ∧ decode cX7_insert 78 = .ok (.invokevirtual 58, 3) ∧ decode cX7_insert 81 = .ok (.return_, 1) := by decide +kernel
theorem D_X7_delete_0 : decode cX7_delete 0 = .ok (.aload_n 0, 1) ∧ decode cX7_delete 1 = .ok (.iload_n 1, 1) ∧ decode cX7_delete 2 = .ok (.invokevirtual 28, 3) ∧ decode cX7_delete 5 = .ok (.astore_n 2, 1) ∧ decode cX7_delete 6 = .ok (.aload_n 2, 1) ∧ decode cX7_delete 7 = .ok (.ifnonnull 4, 3) ∧ decode cX7_delete 10 = .ok (.return_, 1) ∧ decode cX7_delete 11 = .ok (.aload_n 2, 1) ∧ decode cX7_delete 12 = .ok (.astore_n 3, 1) ∧ decode cX7_delete 13 = .ok (.aload_n 2, 1) ∧ decode cX7_delete 14 = .ok (.getfield 48, 3) ∧ decode cX7_delete 17 = .ok (.ifnull 24, 3) := by decide +kernel
theorem D_X7_delete_1 : decode cX7_delete 20 = .ok (.aload_n 2, 1) ∧ decode cX7_delete 21 = .ok (.getfield 51, 3) ∧ decode cX7_delete 24 = .ok (.ifnull 17, 3) ∧ decode cX7_delete 27 = .ok (.aload_n 0, 1) ∧ decode cX7_delete 28 = .ok (.aload_n 2, 1) ∧ decode cX7_delete 29 = .ok (.invokevirtual 61, 3) ∧ decode cX7_delete 32 = .ok (.astore_n 3, 1) ∧ decode cX7_delete 33 = .ok (.aload_n 2, 1) ∧ decode cX7_delete 34 = .ok (.aload_n 3, 1) ∧ decode cX7_delete 35 = .ok (.getfield 43, 3) ∧ decode cX7_delete 38 = .ok (.putfield 43, 3) ∧ decode cX7_delete 41 = .ok (.aload_n 0, 1) := by decide +kernel
theorem D_X7_delete_2 : decode cX7_delete 42 = .ok (.getfield 14, 3) ∧ decode cX7_delete 45 = .ok (.invokevirtual 32, 3) ∧ decode cX7_delete 48 = .ok (.iconst 2, 1) ∧ decode cX7_delete 49 = .ok (.isub, 1) ∧ decode cX7_delete 50 = .ok (.istore 4, 2) ∧ decode cX7_delete 52 = .ok (.aload_n 0, 1) ∧ decode cX7_delete 53 = .ok (.aload_n 0, 1) ∧ decode cX7_delete 54 = .ok (.getfield 14, 3) ∧ decode cX7_delete 57 = .ok (.iload 4, 2) ∧ decode cX7_delete 59 = .ok (.invokevirtual 55, 3) ∧ decode cX7_delete 62 = .ok (.aload_n 3, 1) ∧ decode cX7_delete 63 = .ok (.aload_n 3, 1) := by decide +kernel
theorem D_X7_delete_3 : decode cX7_delete 64 = .ok (.getfield 48, 3) ∧ decode cX7_delete 67 = .ok (.ifnonnull 10, 3) ∧ decode cX7_delete 70 = .ok (.aload_n 3, 1) ∧ decode cX7_delete 71 = .ok (.getfield 51, 3) ∧ decode cX7_delete 74 = .ok (.goto 7, 3) ∧ decode cX7_delete 77 = .ok (.aload_n 3, 1) ∧ decode cX7_delete 78 = .ok (.getfield 48, 3) ∧ decode cX7_delete 81 = .ok (.invokevirtual 65, 3) ∧ decode cX7_delete 84 = .ok (.aload_n 0, 1) ∧ decode cX7_delete 85 = .ok (.iload 4, 2) ∧ decode cX7_delete 87 = .ok (.invokevirtual 58, 3) ∧ decode cX7_delete 90 = .ok (.return_, 1) := by decide +kernel
abbrev rm_X7_walkToHeir : Room := { frames := 1, cells := 0, slots := 0, locals := 21 }
set_option maxHeartbeats 4000000 in
set_option maxRecDepth 100000 in
theorem c_X7_walkToHeir (l : Launch) (G : xG) {K N : Nat → Nat} {I : Nat → Nat → Int32} {Q : Nat → Nat → Option Nat} {J : Nat → Nat → Int64} (t pq pn q : Nat) (l_ r_ X : Tr) (d : Bool) (pth : List Nat) (hz : TZ K N Q t pq pn) (hT : TP K Q (.branch q l_ r_) (some q)) (hW : WT I (.branch q l_ r_)) (hs1 : sz l_ < 1000) (hs2 : sz r_ < 1000) (hX : X = (if sz r_ < sz l_ then l_ else r_)) (hd : d = (decide (sz r_ < sz l_))) (hlp : (pth ++ hps d X).length ≤ 40) (hgl : pth.getLast? = some q) (hIp : I pq 1 = nI pth.length) (hsg0 : SEG (Q pn) 0 pth) : XM l yX7_walkToHeir cX7_walkToHeir 5 (some (.object "ScapegoatSpur$Node")) rm_X7_walkToHeir G Rq [.ref t, .ref q] (K, N, I, Q, J) (fun r S1 => ∃ hh g, (pth ++ hps d X).getLast? = some hh ∧ r = some hh ∧ S1 = (K, N, x_u2 I pq 1 (nI (pth ++ hps d X).length), x_up Q pn g, J) ∧ SEG g 0 (pth ++ hps d X)) := by
  refine x_metq (lv := [_, _, _, _, _]) (by decide +kernel) (x_cc (by first | rfl | exact x_crf _) (x_cc (by first | rfl | exact x_crf _) x_cn)) (Nat.le_of_ble_eq_true rfl) rfl ?_
  intro pP eE sS mM aA bB hH cC Z C hini ret
  obtain ⟨hk7, hq0, hp⟩ := hz
  obtain ⟨-, hq3, hTl, hTr⟩ := hT
  obtain ⟨hWq, hWl, hWr⟩ := hW
  have htn : t ≠ pn := fun e => by have := hp.2.2.1; rw [← e, hk7] at this; omega
  have L_42 : ∀ (w_42 : Nat) (B : Tr) (Pw : List Nat) (o : Option Nat) (hh : Nat) (I1 : Nat → Nat → Int32) (Q1 : Nat → Nat → Option Nat) (g : Nat → Option Nat), sz B < w_42 → ((pth ++ hps d X).length ≤ 40) → (TP K Q B o) → (pth ++ hps d X = Pw ++ hps d B) → (Pw.getLast? = some hh) → (I1 = x_u2 I pq 1 (nI Pw.length)) → (Q1 = x_up Q pn g) → (SEG g 0 Pw) → XW pP l eE rm_X7_walkToHeir sS mM aA bB hH cC G Z 0 0 (K, N, I1, Q1, J) 42 [some (.ref t), some (.ref q), some (.int (xb d)), some (.ref hh), some (va_rf o)] [] := by
    intro w_42
    induction w_42 with
    | zero =>
      intro B Pw o hh I1 Q1 g hw_42
      exact absurd hw_42 (Nat.not_lt_zero _)
    | succ w_42 ih_42 =>
      intro B Pw o hh I1 Q1 g hw_42 hlp hTB hP hgP eI1 eQ1 hseg_
      refine x_aload C D_X7_walkToHeir_1.2.2.2.2.2.2.2.2.2.1 rfl (by first | exact Or.inr ⟨_, rfl⟩ | exact va_rf_or _ | exact Or.inl rfl) ?_
      refine x_ifnull C 81 D_X7_walkToHeir_1.2.2.2.2.2.2.2.2.2.2.1 (by decide) (fun e_44 => ?_) (fun x9 e_44 => ?_)
      · skip
        subst e_44
        obtain rfl := hTB.none
        simp only [hps, List.append_nil] at hP
        refine x_aload_n C D_X7_walkToHeir_3.2.2.1 rfl rfl (by first | exact Or.inr ⟨_, rfl⟩ | exact va_rf_or _ | exact Or.inl rfl) ?_
        refine ret _ _ _ _ _ _ _ ⟨_, rfl⟩ D_X7_walkToHeir_3.2.2.2 (Nat.le_of_ble_eq_true rfl) (Nat.le_of_ble_eq_true rfl) (by first | exact rfl | exact (rfl : _ = va_rf (some _)) | exact (rfl : _ = va_rf none)) ?_
        exact ⟨hh, g, by rw [hP]; exact hgP, rfl, by rw [hP, eI1, eQ1], by rw [hP]; exact hseg_⟩
      · skip
        subst e_44
        obtain ⟨l9, r9, rfl, hx3, hT9l, hT9r⟩ := hTB.some
        have hPl : Pw.length < 40 := by
          rw [hP] at hlp
          simp only [hps, List.length_append, List.length_cons] at hlp
          omega
        have hxt : x9 ≠ pq := nodes_ne hx3 hp.1 (by omega)
        have hxn : x9 ≠ pn := nodes_ne hx3 hp.2.2.1 (by omega)
        have hrow : RowOK K N I1 Q1 pq pn 40 Pw.length := by rw [eI1, eQ1]; exact (hp.row g).ok (x_u2_s _ _ _ _) (by omega)
        refine x_aload_n C D_X7_walkToHeir_1.2.2.2.2.2.2.2.2.2.2.2 rfl rfl (by first | exact Or.inr ⟨_, rfl⟩ | exact va_rf_or _ | exact Or.inl rfl) ?_
        refine x_getQ C (ci := 6) (k0 := 0) hk7 (by decide) rfl (by decide) in_X7 k_137 rfl rfl D_X7_walkToHeir_2.1 ?_
        refine x_eqr (show Q1 t 0 = some pq by rw [eQ1, x_up_n _ _ htn]; exact hq0) ?_
        refine x_aload C D_X7_walkToHeir_2.2.1 rfl (by first | exact Or.inr ⟨_, rfl⟩ | exact va_rf_or _ | exact Or.inl rfl) ?_
        refine x_callVv C (y := yX4_append) (c_X4_append l G pq pn 40 Pw.length x9 hrow hx3 hPl) (ci := 3) hp.1 (by decide) rfl rfl k_289 k_225 k_226 k_63 k_227 hd_X4_append ⟨(Nat.le_of_ble_eq_true rfl), (Nat.le_of_ble_eq_true rfl)⟩ rfl (by first | exact Nat.le_of_ble_eq_true rfl | simp [x_crf, Value.category]) rfl rfl D_X7_walkToHeir_2.2.2.1 ⟨(Nat.le_of_ble_eq_true rfl), (Nat.le_of_ble_eq_true rfl)⟩ (fun _ S_53 h_53 => ?_)
        obtain ⟨I2, Q2, rfl, eI2, eQ2⟩ : ∃ I2 Q2, S_53 = (K, N, I2, Q2, J) ∧ I2 = x_u2 I pq 1 (nI (Pw ++ [x9]).length) ∧ Q2 = x_up Q pn (x_up g Pw.length (some x9)) := ⟨_, _, h_53, by rw [eI1, x_u2_u2]; simp, by rw [eQ1, x_u2_up]⟩
        have hseg2 : SEG (x_up g Pw.length (some x9)) 0 (Pw ++ [x9]) := by
          intro i hi
          simp at hi
          by_cases e : i = Pw.length
          · subst e; simp [x_up]
          · rw [Nat.zero_add, x_up_n _ _ e, List.getElem?_append_left (by omega)]
            have := hseg_ i (by omega)
            rwa [Nat.zero_add] at this
        refine x_aload C D_X7_walkToHeir_2.2.2.2.1 rfl (by first | exact Or.inr ⟨_, rfl⟩ | exact va_rf_or _ | exact Or.inl rfl) ?_
        refine x_astore_n C (lv' := [_, _, _, _, _]) D_X7_walkToHeir_2.2.2.2.2.1 rfl (Nat.le_of_ble_eq_true rfl) (by first | rfl | exact x_ok_q rfl) (by first | exact Or.inr ⟨_, rfl⟩ | exact va_rf_or _ | exact Or.inl rfl) rfl ?_
        refine x_iload_n C D_X7_walkToHeir_2.2.2.2.2.2.1 rfl rfl ?_
        refine x_if_eq C 71 D_X7_walkToHeir_2.2.2.2.2.2.2.1 (by decide) (fun c_60 => ?_) (fun c_60 => ?_)
        · skip
          have hd9 : d = false := by
            cases d
            · rfl
            · exact absurd c_60 (by decide)
          subst hd9
          refine x_aload C D_X7_walkToHeir_2.2.2.2.2.2.2.2.2.2.2.1 rfl (by first | exact Or.inr ⟨_, rfl⟩ | exact va_rf_or _ | exact Or.inl rfl) ?_
          refine x_getQ C (ci := 2) (k0 := 3) hx3 (by decide) rfl (by decide) in_X3 k_620 rfl rfl D_X7_walkToHeir_2.2.2.2.2.2.2.2.2.2.2.2 ?_
          refine x_eqq _ (show Q2 x9 3 = Q x9 3 by rw [eQ2, x_up_n _ _ hxn]) ?_
          refine x_astore C (lv' := [_, _, _, _, _]) D_X7_walkToHeir_3.1 (Nat.le_of_ble_eq_true rfl) (by first | rfl | exact x_ok_q rfl) (by first | exact Or.inr ⟨_, rfl⟩ | exact va_rf_or _ | exact Or.inl rfl) rfl ?_
          refine x_goto C 42 D_X7_walkToHeir_3.2.1 (by decide) ?_
          exact ih_42 l9 (Pw ++ [x9]) _ x9 I2 Q2 _ (by simp only [sz] at hw_42; omega) hlp hT9l (by rw [hP]; simp [hps]) (by simp) eI2 eQ2 hseg2
        · skip
          have hd9 : d = true := by
            cases d
            · exact absurd rfl c_60
            · rfl
          subst hd9
          refine x_aload C D_X7_walkToHeir_2.2.2.2.2.2.2.2.1 rfl (by first | exact Or.inr ⟨_, rfl⟩ | exact va_rf_or _ | exact Or.inl rfl) ?_
          refine x_getQ C (ci := 2) (k0 := 4) hx3 (by decide) rfl (by decide) in_X3 k_623 rfl rfl D_X7_walkToHeir_2.2.2.2.2.2.2.2.2.1 ?_
          refine x_eqq _ (show Q2 x9 4 = Q x9 4 by rw [eQ2, x_up_n _ _ hxn]) ?_
          refine x_goto C 76 D_X7_walkToHeir_2.2.2.2.2.2.2.2.2.2.1 (by decide) ?_
          refine x_astore C (lv' := [_, _, _, _, _]) D_X7_walkToHeir_3.1 (Nat.le_of_ble_eq_true rfl) (by first | rfl | exact x_ok_q rfl) (by first | exact Or.inr ⟨_, rfl⟩ | exact va_rf_or _ | exact Or.inl rfl) rfl ?_
          refine x_goto C 42 D_X7_walkToHeir_3.2.1 (by decide) ?_
          exact ih_42 r9 (Pw ++ [x9]) _ x9 I2 Q2 _ (by simp only [sz] at hw_42; omega) hlp hT9r (by rw [hP]; simp [hps]) (by simp) eI2 eQ2 hseg2
  refine x_aload_n C D_X7_walkToHeir_0.1 rfl rfl (by first | exact Or.inr ⟨_, rfl⟩ | exact va_rf_or _ | exact Or.inl rfl) ?_
  refine x_getQ C (ci := 2) (k0 := 3) hq3 (by decide) rfl (by decide) in_X3 k_620 rfl rfl D_X7_walkToHeir_0.2.1 ?_
  refine x_eqq _ (rfl : Q q 3 = Q q 3) ?_
  refine x_callSi C (y := yX3_weightOf) (c_X3_weightOf l G (Q q 3) (fun z hz9 => by have h7 := hTl; rw [hz9] at h7; obtain ⟨_, _, _, hk, _⟩ := h7.some; exact hk)) k_294 k_248 k_73 k_249 hd_X3_weightOf ⟨(Nat.le_of_ble_eq_true rfl), (Nat.le_of_ble_eq_true rfl)⟩ rfl (by first | exact Nat.le_of_ble_eq_true rfl | simp [x_crf, Value.category]) rfl rfl D_X7_walkToHeir_0.2.2.1 ⟨(Nat.le_of_ble_eq_true rfl), (Nat.le_of_ble_eq_true rfl)⟩ (fun r_4 S_4 h_4 => ?_)
  obtain ⟨rfl, rfl⟩ := h_4
  refine x_eqi _ (wOf_TP hTl hWl) ?_
  refine x_aload_n C D_X7_walkToHeir_0.2.2.2.1 rfl rfl (by first | exact Or.inr ⟨_, rfl⟩ | exact va_rf_or _ | exact Or.inl rfl) ?_
  refine x_getQ C (ci := 2) (k0 := 4) hq3 (by decide) rfl (by decide) in_X3 k_623 rfl rfl D_X7_walkToHeir_0.2.2.2.2.1 ?_
  refine x_eqq _ (rfl : Q q 4 = Q q 4) ?_
  refine x_callSi C (y := yX3_weightOf) (c_X3_weightOf l G (Q q 4) (fun z hz9 => by have h7 := hTr; rw [hz9] at h7; obtain ⟨_, _, _, hk, _⟩ := h7.some; exact hk)) k_294 k_248 k_73 k_249 hd_X3_weightOf ⟨(Nat.le_of_ble_eq_true rfl), (Nat.le_of_ble_eq_true rfl)⟩ rfl (by first | exact Nat.le_of_ble_eq_true rfl | simp [x_crf, Value.category]) rfl rfl D_X7_walkToHeir_0.2.2.2.2.2.1 ⟨(Nat.le_of_ble_eq_true rfl), (Nat.le_of_ble_eq_true rfl)⟩ (fun r_11 S_11 h_11 => ?_)
  obtain ⟨rfl, rfl⟩ := h_11
  refine x_eqi _ (wOf_TP hTr hWr) ?_
  refine x_icmp_le C 21 D_X7_walkToHeir_0.2.2.2.2.2.2.1 (by decide) (fun c_14 => ?_) (fun c_14 => ?_)
  · skip
    have c1 : ¬ sz r_ < sz l_ := by
      have h9 := (nI_leI (by omega) (by omega)).mp c_14
      omega
    rw [if_neg c1] at hX
    obtain rfl : d = false := by rw [hd]; simp [c1]
    subst hX
    refine x_iconst C (v := nI 0) D_X7_walkToHeir_0.2.2.2.2.2.2.2.2.2.1 (by decide +kernel) ?_
    refine x_istore_n C (lv' := [_, _, _, _, _]) D_X7_walkToHeir_0.2.2.2.2.2.2.2.2.2.2.1 rfl (Nat.le_of_ble_eq_true rfl) (by first | rfl | exact x_ok_q rfl) rfl ?_
    refine x_aload_n C D_X7_walkToHeir_0.2.2.2.2.2.2.2.2.2.2.2 rfl rfl (by first | exact Or.inr ⟨_, rfl⟩ | exact va_rf_or _ | exact Or.inl rfl) ?_
    refine x_astore_n C (lv' := [_, _, _, _, _]) D_X7_walkToHeir_1.1 rfl (Nat.le_of_ble_eq_true rfl) (by first | rfl | exact x_ok_q rfl) (by first | exact Or.inr ⟨_, rfl⟩ | exact va_rf_or _ | exact Or.inl rfl) rfl ?_
    refine x_iload_n C D_X7_walkToHeir_1.2.1 rfl rfl ?_
    refine x_if_eq C 36 D_X7_walkToHeir_1.2.2.1 (by decide) (fun c_26 => ?_) (fun c_26 => ?_)
    · skip
      refine x_aload_n C D_X7_walkToHeir_1.2.2.2.2.2.2.1 rfl rfl (by first | exact Or.inr ⟨_, rfl⟩ | exact va_rf_or _ | exact Or.inl rfl) ?_
      refine x_getQ C (ci := 2) (k0 := 4) hq3 (by decide) rfl (by decide) in_X3 k_623 rfl rfl D_X7_walkToHeir_1.2.2.2.2.2.2.2.1 ?_
      refine x_eqq _ (rfl : Q q 4 = Q q 4) ?_
      refine x_astore C (lv' := [_, _, _, _, _]) D_X7_walkToHeir_1.2.2.2.2.2.2.2.2.1 (Nat.le_of_ble_eq_true rfl) (by first | rfl | exact x_ok_q rfl) (by first | exact Or.inr ⟨_, rfl⟩ | exact va_rf_or _ | exact Or.inl rfl) rfl ?_
      exact L_42 _ _ pth _ q I Q (Q pn) (Nat.lt_succ_self _) hlp hTr rfl hgl (by rw [← hIp, x_u2_id]) (x_up_id Q pn).symm hsg0
    · skip
      exact absurd rfl c_26
      --end
  · skip
    have c1 : sz r_ < sz l_ := by
      rcases Nat.lt_or_ge (sz r_) (sz l_) with h | h
      · exact h
      · exact absurd ((nI_leI (by omega) (by omega)).mpr h) c_14
    rw [if_pos c1] at hX
    obtain rfl : d = true := by rw [hd]; simp [c1]
    subst hX
    refine x_iconst C (v := nI 1) D_X7_walkToHeir_0.2.2.2.2.2.2.2.1 (by decide +kernel) ?_
    refine x_goto C 22 D_X7_walkToHeir_0.2.2.2.2.2.2.2.2.1 (by decide) ?_
    refine x_istore_n C (lv' := [_, _, _, _, _]) D_X7_walkToHeir_0.2.2.2.2.2.2.2.2.2.2.1 rfl (Nat.le_of_ble_eq_true rfl) (by first | rfl | exact x_ok_q rfl) rfl ?_
    refine x_aload_n C D_X7_walkToHeir_0.2.2.2.2.2.2.2.2.2.2.2 rfl rfl (by first | exact Or.inr ⟨_, rfl⟩ | exact va_rf_or _ | exact Or.inl rfl) ?_
    refine x_astore_n C (lv' := [_, _, _, _, _]) D_X7_walkToHeir_1.1 rfl (Nat.le_of_ble_eq_true rfl) (by first | rfl | exact x_ok_q rfl) (by first | exact Or.inr ⟨_, rfl⟩ | exact va_rf_or _ | exact Or.inl rfl) rfl ?_
    refine x_iload_n C D_X7_walkToHeir_1.2.1 rfl rfl ?_
    refine x_if_eq C 36 D_X7_walkToHeir_1.2.2.1 (by decide) (fun c_26 => ?_) (fun c_26 => ?_)
    · skip
      exact absurd c_26 (by decide)
      --end
    · skip
      refine x_aload_n C D_X7_walkToHeir_1.2.2.2.1 rfl rfl (by first | exact Or.inr ⟨_, rfl⟩ | exact va_rf_or _ | exact Or.inl rfl) ?_
      refine x_getQ C (ci := 2) (k0 := 3) hq3 (by decide) rfl (by decide) in_X3 k_620 rfl rfl D_X7_walkToHeir_1.2.2.2.2.1 ?_
      refine x_eqq _ (rfl : Q q 3 = Q q 3) ?_
      refine x_goto C 40 D_X7_walkToHeir_1.2.2.2.2.2.1 (by decide) ?_
      refine x_astore C (lv' := [_, _, _, _, _]) D_X7_walkToHeir_1.2.2.2.2.2.2.2.2.1 (Nat.le_of_ble_eq_true rfl) (by first | rfl | exact x_ok_q rfl) (by first | exact Or.inr ⟨_, rfl⟩ | exact va_rf_or _ | exact Or.inl rfl) rfl ?_
      exact L_42 _ _ pth _ q I Q (Q pn) (Nat.lt_succ_self _) hlp hTl rfl hgl (by rw [← hIp, x_u2_id]) (x_up_id Q pn).symm hsg0
