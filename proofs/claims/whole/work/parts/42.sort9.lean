theorem D_X6_dropDead_0 : decode cX6_dropDead 0 = .ok (.aconst_null, 1) ∧ decode cX6_dropDead 1 = .ok (.astore_n 1, 1) ∧ decode cX6_dropDead 2 = .ok (.aload_n 0, 1) ∧ decode cX6_dropDead 3 = .ok (.getfield 7, 3) ∧ decode cX6_dropDead 6 = .ok (.astore_n 2, 1) ∧ decode cX6_dropDead 7 = .ok (.aload_n 0, 1) ∧ decode cX6_dropDead 8 = .ok (.aconst_null, 1) ∧ decode cX6_dropDead 9 = .ok (.putfield 7, 3) ∧ decode cX6_dropDead 12 = .ok (.aload_n 2, 1) ∧ decode cX6_dropDead 13 = .ok (.ifnull 37, 3) ∧ decode cX6_dropDead 16 = .ok (.aload_n 2, 1) ∧ decode cX6_dropDead 17 = .ok (.getfield 35, 3) := by decide +kernel
theorem D_X6_dropDead_1 : decode cX6_dropDead 20 = .ok (.ifCond .eq 22, 3) ∧ decode cX6_dropDead 23 = .ok (.aload_n 1, 1) ∧ decode cX6_dropDead 24 = .ok (.ifnonnull 11, 3) ∧ decode cX6_dropDead 27 = .ok (.aload_n 0, 1) ∧ decode cX6_dropDead 28 = .ok (.aload_n 2, 1) ∧ decode cX6_dropDead 29 = .ok (.putfield 7, 3) ∧ decode cX6_dropDead 32 = .ok (.goto 8, 3) ∧ decode cX6_dropDead 35 = .ok (.aload_n 1, 1) ∧ decode cX6_dropDead 36 = .ok (.aload_n 2, 1) ∧ decode cX6_dropDead 37 = .ok (.putfield 28, 3) ∧ decode cX6_dropDead 40 = .ok (.aload_n 2, 1) ∧ decode cX6_dropDead 41 = .ok (.astore_n 1, 1) := by decide +kernel
theorem D_X6_dropDead_2 : decode cX6_dropDead 42 = .ok (.aload_n 2, 1) ∧ decode cX6_dropDead 43 = .ok (.getfield 28, 3) ∧ decode cX6_dropDead 46 = .ok (.astore_n 2, 1) ∧ decode cX6_dropDead 47 = .ok (.goto (-35), 3) ∧ decode cX6_dropDead 50 = .ok (.aload_n 1, 1) ∧ decode cX6_dropDead 51 = .ok (.ifnull 8, 3) ∧ decode cX6_dropDead 54 = .ok (.aload_n 1, 1) ∧ decode cX6_dropDead 55 = .ok (.aconst_null, 1) ∧ decode cX6_dropDead 56 = .ok (.putfield 28, 3) ∧ decode cX6_dropDead 59 = .ok (.aload_n 0, 1) ∧ decode cX6_dropDead 60 = .ok (.aload_n 0, 1) ∧ decode cX6_dropDead 61 = .ok (.getfield 17, 3) := by decide +kernel
theorem D_X6_dropDead_3 : decode cX6_dropDead 64 = .ok (.putfield 13, 3) ∧ decode cX6_dropDead 67 = .ok (.aload_n 0, 1) ∧ decode cX6_dropDead 68 = .ok (.invokevirtual 63, 3) ∧ decode cX6_dropDead 71 = .ok (.return_, 1) := by decide +kernel
theorem D_X6_dealOut_0 : decode cX6_dealOut 0 = .ok (.aload_n 0, 1) ∧ decode cX6_dealOut 1 = .ok (.getfield 7, 3) ∧ decode cX6_dealOut 4 = .ok (.astore_n 1, 1) ∧ decode cX6_dealOut 5 = .ok (.bipush 8, 2) ∧ decode cX6_dealOut 7 = .ok (.istore_n 2, 1) ∧ decode cX6_dealOut 8 = .ok (.iload_n 2, 1) ∧ decode cX6_dealOut 9 = .ok (.ifCond .lt 26, 3) ∧ decode cX6_dealOut 12 = .ok (.aload_n 0, 1) ∧ decode cX6_dealOut 13 = .ok (.getfield 17, 3) ∧ decode cX6_dealOut 16 = .ok (.iconst 1, 1) ∧ decode cX6_dealOut 17 = .ok (.iload_n 2, 1) ∧ decode cX6_dealOut 18 = .ok (.ishl, 1) := by decide +kernel
theorem D_X6_dealOut_1 : decode cX6_dealOut 19 = .ok (.iand, 1) ∧ decode cX6_dealOut 20 = .ok (.ifCond .eq 9, 3) ∧ decode cX6_dealOut 23 = .ok (.aload_n 1, 1) ∧ decode cX6_dealOut 24 = .ok (.iload_n 2, 1) ∧ decode cX6_dealOut 25 = .ok (.invokestatic 66, 3) ∧ decode cX6_dealOut 28 = .ok (.astore_n 1, 1) ∧ decode cX6_dealOut 29 = .ok (.iinc 2 (-1), 3) ∧ decode cX6_dealOut 32 = .ok (.goto (-24), 3) ∧ decode cX6_dealOut 35 = .ok (.return_, 1) := by decide +kernel
theorem D_X6_retire_0 : decode cX6_retire 0 = .ok (.aload_n 0, 1) ∧ decode cX6_retire 1 = .ok (.iload_n 1, 1) ∧ decode cX6_retire 2 = .ok (.invokevirtual 31, 3) ∧ decode cX6_retire 5 = .ok (.astore_n 2, 1) ∧ decode cX6_retire 6 = .ok (.aload_n 2, 1) ∧ decode cX6_retire 7 = .ok (.ifnull 10, 3) ∧ decode cX6_retire 10 = .ok (.aload_n 2, 1) ∧ decode cX6_retire 11 = .ok (.getfield 35, 3) ∧ decode cX6_retire 14 = .ok (.ifCond .ne 4, 3) ∧ decode cX6_retire 17 = .ok (.return_, 1) ∧ decode cX6_retire 18 = .ok (.aload_n 2, 1) ∧ decode cX6_retire 19 = .ok (.iconst 0, 1) := by decide +kernel
theorem D_X6_retire_1 : decode cX6_retire 20 = .ok (.putfield 35, 3) ∧ decode cX6_retire 23 = .ok (.aload_n 0, 1) ∧ decode cX6_retire 24 = .ok (.dup, 1) ∧ decode cX6_retire 25 = .ok (.getfield 17, 3) ∧ decode cX6_retire 28 = .ok (.iconst 1, 1) ∧ decode cX6_retire 29 = .ok (.isub, 1) ∧ decode cX6_retire 30 = .ok (.putfield 17, 3) ∧ decode cX6_retire 33 = .ok (.aload_n 0, 1) ∧ decode cX6_retire 34 = .ok (.getfield 13, 3) ∧ decode cX6_retire 37 = .ok (.aload_n 0, 1) ∧ decode cX6_retire 38 = .ok (.getfield 17, 3) ∧ decode cX6_retire 41 = .ok (.isub, 1) := by decide +kernel
theorem D_X6_retire_2 : decode cX6_retire 42 = .ok (.aload_n 0, 1) ∧ decode cX6_retire 43 = .ok (.getfield 17, 3) ∧ decode cX6_retire 46 = .ok (.if_icmp .le 7, 3) ∧ decode cX6_retire 49 = .ok (.aload_n 0, 1) ∧ decode cX6_retire 50 = .ok (.invokevirtual 60, 3) ∧ decode cX6_retire 53 = .ok (.return_, 1) := by decide +kernel
abbrev rm_X6_dealOut : Room := { frames := 1, cells := 0, slots := 0, locals := 23 }
theorem hd_X6_deal : yX6_deal.cls ≠ "java/lang/invoke/MethodHandle" ∧ yX6_deal.cls ≠ "java/lang/invoke/VarHandle" ∧ (parseMethodDescriptor yX6_deal.desc).map (fun d => d.parameters.length) = some 2 := by decide +kernel
set_option maxHeartbeats 4000000 in
set_option maxRecDepth 100000 in
theorem c_X6_dealOut (l : Launch) (G : xG) {K N : Nat → Nat} {I : Nat → Nat → Int32} {Q : Nat → Nat → Option Nat} {J : Nat → Nat → Int64} (t : Nat) (lst : List Nat) (h : K t = 6) (hC0 : CH K Q lst (Q t 0)) (hn : lst.Nodup) (hl : lst.length < 256) (hlv : I t 2 = nI lst.length) : XM l yX6_dealOut cX6_dealOut 3 none rm_X6_dealOut G Rv [.ref t] (K, N, I, Q, J) (fun _ S1 => ∃ I1, S1 = (K, N, I1, Q, J) ∧ (∀ i a, lst[i]? = some a → I1 a 2 = nI ((dls lst.length 9).getD i 0)) ∧ (∀ a j, ¬ (a ∈ lst ∧ j = 2) → I1 a j = I a j)) := by
  refine x_metv (lv := [_, _, _]) (by decide +kernel) (x_cc (by first | rfl | exact x_crf _) x_cn) (Nat.le_of_ble_eq_true rfl) rfl ?_
  intro pP eE sS mM aA bB hH cC Z C hini ret
  have htl : t ∉ lst := fun hm => by have := hC0.kind t hm; omega
  obtain ⟨lv, elv⟩ : ∃ lv, lv = lst.length := ⟨_, rfl⟩
  rw [← elv] at hlv hl
  obtain ⟨D9, eD9⟩ : ∃ D9, D9 = dls lv 9 := ⟨_, rfl⟩
  have hD9 : D9.length = lv := by rw [eD9, dls_len]; exact Nat.mod_eq_of_lt (by omega)
  refine x_aload_n C D_X6_dealOut_0.1 rfl rfl (by first | exact Or.inr ⟨_, rfl⟩ | exact va_rf_or _ | exact Or.inl rfl) ?_
  refine x_getQ C (ci := 5) (k0 := 0) h (by decide) rfl (by decide) in_X6 k_153 rfl rfl D_X6_dealOut_0.2.1 ?_
  refine x_eqq _ (rfl : Q t 0 = Q t 0) ?_
  refine x_astore_n C (lv' := [_, _, _]) D_X6_dealOut_0.2.2.1 rfl (Nat.le_of_ble_eq_true rfl) (by first | rfl | exact x_ok_q rfl) (by first | exact Or.inr ⟨_, rfl⟩ | exact va_rf_or _ | exact Or.inl rfl) rfl ?_
  refine x_bipush C (v := nI 8) D_X6_dealOut_0.2.2.2.1 (by decide +kernel) ?_
  refine x_istore_n C (lv' := [_, _, _]) D_X6_dealOut_0.2.2.2.2.1 rfl (Nat.le_of_ble_eq_true rfl) (by first | rfl | exact x_ok_q rfl) rfl ?_
  have L_8 : ∀ (w_8 : Nat) (f : Nat) (DD B P : List Nat) (o : Option Nat) (I1 : Nat → Nat → Int32), f < w_8 → (f ≤ 9) → (CH K Q B o) → (lst = DD ++ B) → (P ++ dls lv f = D9) → (P.length = DD.length) → (∀ i a, DD[i]? = some a → I1 a 2 = nI (P.getD i 0)) → (∀ a j, ¬ (a ∈ DD ∧ j = 2) → I1 a j = I a j) → XW pP l eE rm_X6_dealOut sS mM aA bB hH cC G Z 0 0 (K, N, I1, Q, J) 8 [some (.ref t), some (va_rf o), some (.int (dn f))] [] := by
    intro w_8
    induction w_8 with
    | zero =>
      intro f DD B P o I1 hw_8
      exact absurd hw_8 (Nat.not_lt_zero _)
    | succ w_8 ih_8 =>
      intro f DD B P o I1 hw_8 hf9 hC hL hP hPl hPI hfr
      refine x_iload_n C D_X6_dealOut_0.2.2.2.2.2.1 rfl rfl ?_
      refine x_if_lt C 35 D_X6_dealOut_0.2.2.2.2.2.2.1 (by decide) (fun c_9 => ?_) (fun c_9 => ?_)
      · skip
        have hf0 := dn_neg c_9 (by omega)
        subst hf0
        refine ret _ _ _ _ _ rfl D_X6_dealOut_1.2.2.2.2.2.2.2.2 (Nat.le_of_ble_eq_true rfl) (Nat.le_of_ble_eq_true rfl) ?_
        refine ⟨I1, rfl, fun i a hi => ?_, fun a j hj => hfr a j (fun e => hj ⟨by rw [hL]; simp [e.1], e.2⟩)⟩
        simp only [dls, List.append_nil] at hP
        have hDl : DD.length = lst.length := by
          rw [← hPl, hP]; omega
        have hB0 : B = [] := by
          have h7 := congrArg List.length hL
          simp only [List.length_append] at h7
          exact List.eq_nil_of_length_eq_zero (by omega)
        rw [hB0, List.append_nil] at hL
        rw [hL] at hi
        rw [← elv, ← eD9, ← hP]
        exact hPI i a hi
      · skip
        obtain ⟨g, rfl⟩ := dn_nneg c_9
        refine x_lv (lv := [_, _, some (.int (nI g))]) rfl ?_
        have hi1t : I1 t 2 = nI lv := by rw [hfr t 2 (fun e => htl (by rw [hL]; simp [e.1]))]; exact hlv
        refine x_aload_n C D_X6_dealOut_0.2.2.2.2.2.2.2.1 rfl rfl (by first | exact Or.inr ⟨_, rfl⟩ | exact va_rf_or _ | exact Or.inl rfl) ?_
        refine x_getI C (ci := 5) (k0 := 2) h (by decide) rfl (by decide) in_X6 k_155 rfl rfl D_X6_dealOut_0.2.2.2.2.2.2.2.2.1 ?_
        refine x_eqi _ hi1t ?_
        refine x_iconst C (v := nI 1) D_X6_dealOut_0.2.2.2.2.2.2.2.2.2.1 (by decide +kernel) ?_
        refine x_iload_n C D_X6_dealOut_0.2.2.2.2.2.2.2.2.2.2.1 rfl rfl ?_
        refine x_ishl C D_X6_dealOut_0.2.2.2.2.2.2.2.2.2.2.2 ?_
        refine x_eqi _ (shl_pw (by omega)) ?_
        refine x_iand C D_X6_dealOut_1.1 ?_
        refine x_if_eq C 29 D_X6_dealOut_1.2.1 (by decide) (fun c_20 => ?_) (fun c_20 => ?_)
        · skip
          have c1 := (bit_c hl (by omega)).mp c_20
          refine x_iinc C (lv' := [_, _, _]) D_X6_dealOut_1.2.2.2.2.2.2.1 rfl (x_inc_m1 _) (by first | rfl | exact x_ok_q rfl) rfl ?_
          refine x_goto C 8 D_X6_dealOut_1.2.2.2.2.2.2.2.1 (by decide) ?_
          refine x_lv (lv := [_, _, some (.int (dn g))]) (by rw [dn_dec]) ?_
          refine ih_8 g DD B P _ I1 (by omega) (by omega) hC hL ?_ hPl hPI hfr
          rw [← hP]; simp only [dls, if_neg (show ¬ lv / 2 ^ g % 2 = 1 by omega), List.nil_append]
        · skip
          have c1 : lv / 2 ^ g % 2 = 1 := by
            have h8 : ¬ lv / 2 ^ g % 2 = 0 := fun e => c_20 ((bit_c hl (by omega)).mpr e)
            omega
          have hpl : 2 ^ g ≤ B.length := by
            have h8 := congrArg List.length hP
            simp only [dls, if_pos c1, List.length_append, List.length_replicate] at h8
            have h7 := congrArg List.length hL
            simp only [List.length_append] at h7
            omega
          refine x_aload_n C D_X6_dealOut_1.2.2.1 rfl rfl (by first | exact Or.inr ⟨_, rfl⟩ | exact va_rf_or _ | exact Or.inl rfl) ?_
          refine x_iload_n C D_X6_dealOut_1.2.2.2.1 rfl rfl ?_
          refine x_callSq C (y := yX6_deal) (c_X6_deal l G o g B hC (by omega)) k_335 k_336 k_65 k_337 hd_X6_deal ⟨(Nat.le_of_ble_eq_true rfl), (Nat.le_of_ble_eq_true rfl)⟩ rfl (by first | exact Nat.le_of_ble_eq_true rfl | simp [x_crf, Value.category]) rfl rfl D_X6_dealOut_1.2.2.2.2.1 ⟨(Nat.le_of_ble_eq_true rfl), (Nat.le_of_ble_eq_true rfl)⟩ (fun r_25 S_25 h_25 => ?_)
          obtain ⟨I2, rfl, hC2, hI2⟩ := h_25
          refine x_astore_n C (lv' := [_, _, _]) D_X6_dealOut_1.2.2.2.2.2.1 rfl (Nat.le_of_ble_eq_true rfl) (by first | rfl | exact x_ok_q rfl) (by first | exact Or.inr ⟨_, rfl⟩ | exact va_rf_or _ | exact Or.inl rfl) rfl ?_
          refine x_iinc C (lv' := [_, _, _]) D_X6_dealOut_1.2.2.2.2.2.2.1 rfl (x_inc_m1 _) (by first | rfl | exact x_ok_q rfl) rfl ?_
          refine x_goto C 8 D_X6_dealOut_1.2.2.2.2.2.2.2.1 (by decide) ?_
          refine x_lv (lv := [_, _, some (.int (dn g))]) (by rw [dn_dec]) ?_
          have hsp : lst = (DD ++ B.take (2 ^ g)) ++ B.drop (2 ^ g) := by rw [hL, List.append_assoc, List.take_append_drop]
          have hdis : ∀ a ∈ DD, a ∉ B.take (2 ^ g) := fun a h1 h2 => by
            rw [hL, List.nodup_append] at hn
            exact hn.2.2 a h1 a (List.mem_of_mem_take h2) rfl
          refine ih_8 g (DD ++ B.take (2 ^ g)) (B.drop (2 ^ g)) (P ++ List.replicate (2 ^ g) g) _ I2 (by omega) (by omega) hC2 hsp ?_ ?_ (fun i a hi => ?_) (fun a j hj => ?_)
          · rw [← hP]; simp only [dls, if_pos c1, List.append_assoc]
          · simp only [List.length_append, List.length_replicate, List.length_take]; omega
          · by_cases hil : i < DD.length
            · rw [List.getElem?_append_left hil] at hi
              have ha : a ∈ DD := List.mem_of_getElem? hi
              rw [hI2, if_neg (fun e => hdis a ha e.1), hPI i a hi, List.getD_eq_getElem?_getD, List.getD_eq_getElem?_getD, List.getElem?_append_left (by omega)]
            · rw [List.getElem?_append_right (by omega)] at hi
              have ha : a ∈ B.take (2 ^ g) := List.mem_of_getElem? hi
              have hil2 := (List.getElem?_eq_some_iff.mp hi).1
              rw [List.length_take] at hil2
              rw [hI2, if_pos ⟨ha, rfl⟩, List.getD_eq_getElem?_getD, List.getElem?_append_right (by omega), List.getElem?_replicate, if_pos (by omega)]; rfl
          · rw [hI2, if_neg (fun e => hj ⟨by simp [e.1], e.2⟩)]
            exact hfr a j (fun e => hj ⟨by simp [e.1], e.2⟩)
  exact L_8 _ 9 [] lst [] _ I (Nat.lt_succ_self _) (Nat.le_refl _) hC0 rfl eD9.symm rfl (fun i a hi => by simp at hi) (fun a j _ => rfl)
