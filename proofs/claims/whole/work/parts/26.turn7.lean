abbrev rm_X7_delete : Room := { frames := 5, cells := 0, slots := 0, locals := 107 }
theorem hd_X7_walkToHeir : yX7_walkToHeir.cls ≠ "java/lang/invoke/MethodHandle" ∧ yX7_walkToHeir.cls ≠ "java/lang/invoke/VarHandle" ∧ (parseMethodDescriptor yX7_walkToHeir.desc).map (fun d => d.parameters.length) = some 1 := by decide +kernel
set_option maxHeartbeats 4000000 in
set_option maxRecDepth 100000 in
theorem c_X7_delete (l : Launch) (G : xG) {K N : Nat → Nat} {I : Nat → Nat → Int32} {Q : Nat → Nat → Option Nat} {J : Nat → Nat → Int64} (t pq pn c q0 : Nat) (l_ r_ A : Tr) (cd : Nat → Nat) (hz : TZ K N Q t pq pn) (hT0 : TP K Q A (Q t 1)) (hW0 : WT I A) (hnA : (ino A).Nodup) (hN : ND cv1 1999 K I cd (ino A)) (hA : ht A ≤ 40) (hsz : sz A < 1000) (hc : c < 1999) (hD : fpT cd c A = .branch q0 l_ r_) : XM l yX7_delete cX7_delete 5 none rm_X7_delete G Rv [.ref t, .int (cv1 c)] (K, N, I, Q, J) (fun _ S1 => ∃ I1 Q1, S1 = (K, N, I1, Q1, J) ∧ TP K Q1 (balF (delF cd c A) (upT (delT cd c A))) (Q1 t 1) ∧ WT I1 (balF (delF cd c A) (upT (delT cd c A))) ∧ (∀ x j, x ≠ pq → ¬ (x = q0 ∧ j = 0) → ¬ (x ∈ ino A ∧ j = 2) → ¬ (x = t ∧ j = 2) → I1 x j = I x j) ∧ (∀ hh, rtq (delT cd c A) = [hh] → I1 q0 0 = cv1 (cd hh)) ∧ (∀ x j, x ∉ ino A → x ≠ pn → ¬ (x = t ∧ j = 1) → Q1 x j = Q x j) ∧ I1 t 2 = I t 2 + nI (balC (delF cd c A) (upT (delT cd c A)))) := by
  refine x_metv (lv := [_, _, _, _, _]) (by decide +kernel) (x_cc (by first | rfl | exact x_crf _) (x_cc (by first | rfl | exact x_crf _) x_cn)) (Nat.le_of_ble_eq_true rfl) rfl ?_
  intro pP eE sS mM aA bB hH cC Z C hini ret
  have hk7 := hz.1
  have hq0 := hz.2.1
  have hpk := hz.2.2.1
  have hpn3 := hz.2.2.2.2.1
  have htpn : t ≠ pn := fun e => by rw [e] at hk7; omega
  have htpq : t ≠ pq := fun e => by rw [e] at hk7; omega
  have hpqn : pq ≠ pn := fun e => by rw [e] at hpk; omega
  have hAn : ∀ q ∈ ino A, q ≠ pq ∧ q ≠ pn ∧ q ≠ t := fun q hq => ⟨nodes_ne (hN q hq).1 hpk (by omega), nodes_ne (hN q hq).1 hpn3 (by omega), nodes_ne (hN q hq).1 hk7 (by omega)⟩
  have hsf : sfind od1 cd c A 0 = some q0 := by rw [fp_sfind, hD]; rfl
  have hTs := hT0
  have hWs := hW0
  rw [← fp_plug cd c A, hD] at hTs hWs
  obtain ⟨o9, hPA, hTD⟩ := (plug_TP _ _ _).mp hTs
  have hWD := (plug_WT hWs).2
  have hq0A : q0 ∈ ino A := sfind_mem _ _ _ _ _ _ hsf
  have hq03 : K q0 = 3 := (hN q0 hq0A).1
  have hTDb : TP K Q (.branch q0 l_ r_) (some q0) := by rw [← hTD.root]; exact hTD
  obtain ⟨-, -, hTl, hTr⟩ := hTD
  have hslr : sz l_ + sz r_ < 1000 := by
    have h9 : sz (plug (fpF cd c A) (.branch q0 l_ r_)) = sz A := by rw [← hD, fp_plug]
    have h8 := plug_szl (fpF cd c A) (.branch q0 l_ r_)
    simp only [sz] at h8
    omega
  have hhd : ∀ hh, rtq (delT cd c A) = [hh] → hh ∈ ino A := fun hh h => by
    rw [← del_plug cd c A]
    refine (plug_ino _ _).mem_iff.mpr (List.mem_append_right _ ?_)
    cases hd : delT cd c A with
    | leaf u => rw [hd] at h; cases h
    | branch a b c => rw [hd] at h; simp [rtq] at h; simp [ino, h]
  refine x_aload_n C D_X7_delete_0.1 rfl rfl (by first | exact Or.inr ⟨_, rfl⟩ | exact va_rf_or _ | exact Or.inl rfl) ?_
  refine x_iload_n C D_X7_delete_0.2.1 rfl rfl ?_
  refine x_callVq C (y := yX7_find) (c_X7_find l G t pq pn c A cd hz hT0 hN hA hc) (ci := 6) hk7 (by decide) rfl rfl k_284 k_286 k_21 k_64 k_287 hd_X7_find ⟨(Nat.le_of_ble_eq_true rfl), (Nat.le_of_ble_eq_true rfl)⟩ rfl (by first | exact Nat.le_of_ble_eq_true rfl | (cases lastA F2 <;> exact Nat.le_of_ble_eq_true rfl) | simp [x_crf, Value.category]) rfl rfl D_X7_delete_0.2.2.1 ⟨(Nat.le_of_ble_eq_true rfl), (Nat.le_of_ble_eq_true rfl)⟩ (fun r_2 S_2 h_2 => ?_)
  obtain ⟨hr, g, rfl, hsg⟩ := h_2
  rw [hsf] at hr
  subst hr
  rw [fp_spath, hD] at hsg
  have eP1 : nI (spath od1 cd c A 0).length = nI ((fpF cd c A).length + 1) := by rw [fp_spath, hD]; simp [rtq]
  rw [eP1]
  obtain ⟨I9, eI9⟩ : ∃ I9, I9 = x_u2 I pq 1 (nI ((fpF cd c A).length + 1)) := ⟨_, rfl⟩
  obtain ⟨Q9, eQ9⟩ : ∃ Q9, Q9 = x_up Q pn g := ⟨_, rfl⟩
  rw [← eI9, ← eQ9]
  have q9 : ∀ x, x ≠ pn → Q9 x = Q x := fun x hx => by rw [eQ9, x_up_n _ _ hx]
  have i9 : ∀ x, x ≠ pq → I9 x = I x := fun x hx => by rw [eI9, x_u2_a _ _ hx]
  have hq0n := hAn q0 hq0A
  refine x_astore_n C (lv' := [_, _, _, _, _]) D_X7_delete_0.2.2.2.1 rfl (Nat.le_of_ble_eq_true rfl) (by first | rfl | exact x_ok_q rfl) (by first | exact Or.inr ⟨_, rfl⟩ | exact va_rf_or _ | exact Or.inl rfl) rfl ?_
  refine x_aload_n C D_X7_delete_0.2.2.2.2.1 rfl rfl (by first | exact Or.inr ⟨_, rfl⟩ | exact va_rf_or _ | exact Or.inl rfl) ?_
  refine x_ifnonnull C 11 D_X7_delete_0.2.2.2.2.2.1 (by decide) (fun q9 e_7 => ?_) (fun e_7 => ?_)
  · skip
    obtain rfl : q0 = q9 := Option.some.inj e_7
    refine x_aload_n C D_X7_delete_0.2.2.2.2.2.2.2.1 rfl rfl (by first | exact Or.inr ⟨_, rfl⟩ | exact va_rf_or _ | exact Or.inl rfl) ?_
    refine x_astore_n C (lv' := [_, _, _, _, _]) D_X7_delete_0.2.2.2.2.2.2.2.2.1 rfl (Nat.le_of_ble_eq_true rfl) (by first | rfl | exact x_ok_q rfl) (by first | exact Or.inr ⟨_, rfl⟩ | exact va_rf_or _ | exact Or.inl rfl) rfl ?_
    have L_41 : ∀ (hh : Nat) (l2 r2 : Tr) (I2 : Nat → Nat → Int32) (Q2 : Nat → Nat → Option Nat) (g2 : Nat → Option Nat) (v4 : Option Value), (delT cd c A = .branch hh l2 r2) → (I2 q0 0 = cv1 (cd hh)) → (∀ x j, x ≠ pq → ¬ (x = q0 ∧ j = 0) → I2 x j = I x j) → (I2 pq 1 = nI ((delF cd c A).length + 1)) → (Q2 = x_up Q pn g2) → (SEG g2 0 ((delF cd c A).map (·.1) ++ [hh])) → XW pP l eE rm_X7_delete sS mM aA bB hH cC G Z 0 0 (K, N, I2, Q2, J) 41 [some (.ref t), some (.int (cv1 c)), some (.ref q0), some (.ref hh), v4] [] := by
      intro hh l2 r2 I2 Q2 g2 v4 hE i2k i2 i2p_ eQ2 hsg2_
      obtain ⟨F2, eF2⟩ : ∃ F2, F2 = delF cd c A := ⟨_, rfl⟩
      have i2p : I2 pq 1 = nI (F2.length + 1) := by rw [eF2]; exact i2p_
      have hsg2 : SEG g2 0 (F2.map (·.1) ++ [hh]) := by rw [eF2]; exact hsg2_
      have hplg : plug F2 (.branch hh l2 r2) = A := by rw [eF2, ← hE]; exact del_plug cd c A
      have hnl : F2.length + 1 ≤ 40 := by
        have h9 := plug_ht F2 (.branch hh l2 r2)
        rw [hplg] at h9
        simp only [ht] at h9
        omega
      have hz2 : TZ K N Q2 t pq pn := ⟨hk7, by rw [eQ2, x_up_n _ _ htpn]; exact hq0, hpk, by rw [eQ2, x_up_n _ _ hpqn]; exact hz.2.2.2.1, hz.2.2.2.2⟩
      have hrow2 : RowOK K N I2 Q2 pq pn 40 (F2.length + 1) := hz2.2.2.ok i2p hnl
      have hTp : TP K Q2 A (Q2 t 1) := by
        rw [show Q2 t 1 = Q t 1 by rw [eQ2, x_up_n _ _ htpn]]
        exact hT0.congr (fun x hx => by rw [eQ2, x_up_n _ _ (hAn x hx).2.1]; exact ⟨rfl, rfl, rfl⟩)
      have hWp : WT I2 A := hW0.congr (fun x hx => i2 x 2 (hAn x hx).1 (fun e => by omega))
      rw [← hplg] at hTp hWp
      obtain ⟨o8, hPL3, hTh⟩ := (plug_TP _ _ _).mp hTp
      obtain rfl := hTh.root
      obtain ⟨hWF, hWh⟩ := plug_WT hWp
      obtain ⟨-, hW2l, hW2r⟩ := hWh
      have hTh2 := hTh
      obtain ⟨-, hh3, hT2l, hT2r⟩ := hTh2
      have hpmF := plug_ino F2 (.branch hh l2 r2)
      rw [hplg] at hpmF
      have hnd3 := hpmF.nodup_iff.mp hnA
      have hmF : ∀ x, x ∈ fad F2 ++ ino (.branch hh l2 r2 : Tr) ↔ x ∈ ino A := fun x => hpmF.mem_iff.symm
      have htA : t ∉ ino A := fun h => (hAn t h).2.2 rfl
      have hpqA : pq ∉ ino A := fun h => (hAn pq h).1 rfl
      have hpnA : pn ∉ ino A := fun h => (hAn pn h).2.1 rfl
      have htF : t ∉ fad F2 ++ ino (.branch hh l2 r2 : Tr) := fun h => htA ((hmF t).mp h)
      have hsg3 : ∀ i f, F2[i]? = some f → Q2 pn i = some f.1 := fun i f hi => by
        have hil : i < F2.length := (List.getElem?_eq_some_iff.mp hi).1
        rw [eQ2, x_up_s, ← Nat.zero_add i, hsg2 i (by simp; omega), List.getElem?_append_left (by simpa using hil), List.getElem?_map, hi]; rfl
      refine x_aload_n C D_X7_delete_1.2.2.2.2.2.2.2.2.2.2.2 rfl rfl (by first | exact Or.inr ⟨_, rfl⟩ | exact va_rf_or _ | exact Or.inl rfl) ?_
      refine x_getQ C (ci := 6) (k0 := 0) hk7 (by decide) rfl (by decide) in_X7 k_137 rfl rfl D_X7_delete_2.1 ?_
      refine x_eqr hz2.2.1 ?_
      refine x_callVi C (y := yX4_length) (c_X4_length l G pq hpk) (ci := 3) hpk (by decide) rfl rfl k_295 k_221 k_222 k_63 k_223 hd_X4_length ⟨(Nat.le_of_ble_eq_true rfl), (Nat.le_of_ble_eq_true rfl)⟩ rfl (by first | exact Nat.le_of_ble_eq_true rfl | (cases lastA F2 <;> exact Nat.le_of_ble_eq_true rfl) | simp [x_crf, Value.category]) rfl rfl D_X7_delete_2.2.1 ⟨(Nat.le_of_ble_eq_true rfl), (Nat.le_of_ble_eq_true rfl)⟩ (fun r_45 S_45 h_45 => ?_)
      obtain ⟨rfl, rfl⟩ := h_45
      refine x_eqi _ i2p ?_
      refine x_iconst C (v := nI 2) D_X7_delete_2.2.2.1 (by decide +kernel) ?_
      refine x_isub C D_X7_delete_2.2.2.2.1 ?_
      refine x_eqi _ (nI_m2 _) ?_
      refine x_istore C (lv' := [_, _, _, _, _]) D_X7_delete_2.2.2.2.2.1 (Nat.le_of_ble_eq_true rfl) (by first | rfl | exact x_ok_q rfl) rfl ?_
      refine x_aload_n C D_X7_delete_2.2.2.2.2.2.1 rfl rfl (by first | exact Or.inr ⟨_, rfl⟩ | exact va_rf_or _ | exact Or.inl rfl) ?_
      refine x_aload_n C D_X7_delete_2.2.2.2.2.2.2.1 rfl rfl (by first | exact Or.inr ⟨_, rfl⟩ | exact va_rf_or _ | exact Or.inl rfl) ?_
      refine x_getQ C (ci := 6) (k0 := 0) hk7 (by decide) rfl (by decide) in_X7 k_137 rfl rfl D_X7_delete_2.2.2.2.2.2.2.2.1 ?_
      refine x_eqr hz2.2.1 ?_
      refine x_iload C D_X7_delete_2.2.2.2.2.2.2.2.2.1 rfl ?_
      refine x_callVq C (y := yX4_at) (c_X4_at l G pq pn 40 (F2.length + 1) (nI F2.length - nI 1) hrow2) (ci := 3) hpk (by decide) rfl rfl k_296 k_273 k_274 k_63 k_275 hd_X4_at ⟨(Nat.le_of_ble_eq_true rfl), (Nat.le_of_ble_eq_true rfl)⟩ rfl (by first | exact Nat.le_of_ble_eq_true rfl | (cases lastA F2 <;> exact Nat.le_of_ble_eq_true rfl) | simp [x_crf, Value.category]) rfl rfl D_X7_delete_2.2.2.2.2.2.2.2.2.2.1 ⟨(Nat.le_of_ble_eq_true rfl), (Nat.le_of_ble_eq_true rfl)⟩ (fun r_59 S_59 h_59 => ?_)
      obtain ⟨hr59, rfl⟩ := h_59
      have hla : r_59 = lastA F2 := by
        rcases fr_split F2 with h | ⟨F00, f0, h⟩
        · rw [hr59, h, atv_out _ (Or.inl (by decide)) (by simp)]; rfl
        · have hl9 : F2.length = F00.length + 1 := by rw [h]; simp
          rw [hr59, hl9, pk_sub (by omega), Nat.add_sub_cancel, atv_in _ (by omega) (by omega), hsg3 F00.length f0 (by rw [h]; simp), h, lastA_app]
      subst hla
      have hop : ∀ p0, lastA F2 = some p0 → K p0 = 3 := fun p0 hp => by
        rcases fr_split F2 with h | ⟨F00, f0, h⟩
        · rw [h, lastA_nil] at hp; cases hp
        · rw [h, lastA_app] at hp
          obtain rfl := Option.some.inj hp
          exact hPL3.fkind _ (by rw [h, fad_app]; simp [fad])
      refine x_aload_n C D_X7_delete_2.2.2.2.2.2.2.2.2.2.2.1 rfl rfl (by first | exact Or.inr ⟨_, rfl⟩ | exact va_rf_or _ | exact Or.inl rfl) ?_
      refine x_aload_n C D_X7_delete_2.2.2.2.2.2.2.2.2.2.2.2 rfl rfl (by first | exact Or.inr ⟨_, rfl⟩ | exact va_rf_or _ | exact Or.inl rfl) ?_
      refine x_getQ C (ci := 2) (k0 := 3) hh3 (by decide) rfl (by decide) in_X3 k_620 rfl rfl D_X7_delete_3.1 ?_
      refine x_eqq _ (rfl : Q2 hh 3 = Q2 hh 3) ?_
      refine x_ifnonnull C 77 D_X7_delete_3.2.1 (by decide) (fun a8 e_67 => ?_) (fun e_67 => ?_)
      · skip
        have hXy : (upT (.branch hh l2 r2) = l2 ∧ Q2 hh 3 = Q2 hh 3) ∨ (upT (.branch hh l2 r2) = r2 ∧ Q2 hh 3 = Q2 hh 4) := Or.inl ⟨upT_cons (by rw [e_67] at hT2l; exact hT2l), rfl⟩
        refine x_aload_n C D_X7_delete_3.2.2.2.2.2.1 rfl rfl (by first | exact Or.inr ⟨_, rfl⟩ | exact va_rf_or _ | exact Or.inl rfl) ?_
        refine x_getQ C (ci := 2) (k0 := 3) hh3 (by decide) rfl (by decide) in_X3 k_620 rfl rfl D_X7_delete_3.2.2.2.2.2.2.1 ?_
        refine x_eqq _ (rfl : Q2 hh 3 = Q2 hh 3) ?_
        refine x_callVv C (y := yX7_replace) (c_X7_replace l G t hh (lastA F2) (Q2 hh 3) hk7 hop) (ci := 6) (by assumption) (by decide) rfl rfl k_297 k_299 k_23 k_64 k_300 hd_X7_replace ⟨(Nat.le_of_ble_eq_true rfl), (Nat.le_of_ble_eq_true rfl)⟩ rfl (by first | exact Nat.le_of_ble_eq_true rfl | (cases lastA F2 <;> exact Nat.le_of_ble_eq_true rfl) | simp [x_crf, Value.category]) rfl rfl D_X7_delete_3.2.2.2.2.2.2.2.1 ⟨(Nat.le_of_ble_eq_true rfl), (Nat.le_of_ble_eq_true rfl)⟩ (fun _ S_81 h_81 => ?_)
        obtain ⟨Q4, eQ4⟩ : ∃ Q4, Q4 = (match lastA F2 with | none => x_u2 Q2 t 1 (Q2 hh 3) | some p0 => if Q2 p0 3 = some hh then x_u2 Q2 p0 3 (Q2 hh 3) else x_u2 Q2 p0 4 (Q2 hh 3)) := ⟨_, rfl⟩
        have h_81' : S_81 = (K, N, I2, Q4, J) := by
          rw [h_81, eQ4]
          clear h_81
          revert hop
          generalize lastA F2 = zz
          intro hop
          cases zz <;> rfl
        clear h_81
        obtain rfl := h_81'
        obtain ⟨s1, s2, s3⟩ := del_step hPL3 hTh hnd3 htF hXy eQ4
        have hq4 : ∀ x j, x ∉ ino A → ¬ (x = t ∧ j = 1) → Q4 x j = Q2 x j := fun x j h1 h2 => s3 x j (fun h => h1 ((hmF x).mp h)) h2
        have hz4 : TZ K N Q4 t pq pn := ⟨hk7, by rw [hq4 t 0 htA (fun e => by omega)]; exact hz2.2.1, hpk, by rw [hq4 pq 0 hpqA (fun e => by omega)]; exact hz2.2.2.2.1, hz2.2.2.2.2⟩
        have hnd4 := List.Pairwise.sublist ((upT_sub hh l2 r2).append_left (fad F2)) hnd3
        have hlen4 : (fad F2 ++ ino (upT (.branch hh l2 r2))).length < 1000 := by
          have h9 := ((upT_sub hh l2 r2).append_left (fad F2)).length_le
          have h8 := hpmF.length_eq
          rw [ino_len] at h8
          omega
        have hsg4 : ∀ i f, F2[i]? = some f → Q4 pn i = some f.1 := fun i f hi => by rw [hq4 pn i hpnA (fun e => htpn e.1.symm)]; exact hsg3 i f hi
        refine x_aload_n C D_X7_delete_3.2.2.2.2.2.2.2.2.1 rfl rfl (by first | exact Or.inr ⟨_, rfl⟩ | exact va_rf_or _ | exact Or.inl rfl) ?_
        refine x_iload C D_X7_delete_3.2.2.2.2.2.2.2.2.2.1 rfl ?_
        refine x_callVv C (y := yX7_balanceUpFrom) (c_X7_balanceUpFrom l G t pq pn (F2.length + 1) _ F2 (upT (.branch hh l2 r2)) (Q2 hh 3) hz4 rfl hnd4 hlen4 s1 s2 (upT_WT hW2l hW2r) hWF i2p (by omega) hnl hsg4) (ci := 6) hk7 (by decide) rfl rfl k_301 k_303 k_24 k_64 k_304 hd_X7_balanceUpFrom ⟨(Nat.le_of_ble_eq_true rfl), (Nat.le_of_ble_eq_true rfl)⟩ rfl (by first | exact Nat.le_of_ble_eq_true rfl | (cases lastA F2 <;> exact Nat.le_of_ble_eq_true rfl) | simp [x_crf, Value.category]) rfl rfl D_X7_delete_3.2.2.2.2.2.2.2.2.2.2.1 ⟨(Nat.le_of_ble_eq_true rfl), (Nat.le_of_ble_eq_true rfl)⟩ (fun _ S_87 h_87 => ?_)
        obtain ⟨I5, Q5, rfl, b1, b2, b3, b4, b5⟩ := h_87
        refine ret _ _ _ _ _ rfl D_X7_delete_3.2.2.2.2.2.2.2.2.2.2.2 (Nat.le_of_ble_eq_true rfl) (Nat.le_of_ble_eq_true rfl) ?_
        have hm4 : ∀ x, x ∉ ino A → x ∉ fad F2 ++ ino (upT (.branch hh l2 r2)) := fun x h1 h2 => h1 ((hmF x).mp (((upT_sub hh l2 r2).append_left (fad F2)).subset h2))
        have hm5 : ∀ x, x ∈ fad F2 ++ ino (upT (.branch hh l2 r2)) → x ∈ ino A := fun x h2 => (hmF x).mp (((upT_sub hh l2 r2).append_left (fad F2)).subset h2)
        refine ⟨I5, Q5, rfl, ?_, ?_, ?_, ?_, ?_, ?_⟩
        · rw [hE, ← eF2]; exact b1
        · rw [hE, ← eF2]; exact b2
        · intro x j h1 h2 h3 h4
          rw [b3 x j (fun e => h3 ⟨hm5 x e.1, e.2⟩) h4]
          exact i2 x j h1 h2
        · intro h8 h9
          rw [hE] at h9
          obtain rfl : hh = h8 := by simpa [rtq] using h9
          rw [b3 q0 0 (fun e => by omega) (fun e => by omega)]; exact i2k
        · intro x j h1 h2 h3
          rw [b4 x j (hm4 x h1) h3, hq4 x j h1 h3, eQ2, x_up_n _ _ h2]
        · rw [hE, ← eF2, b5, i2 t 2 htpq (fun e => by omega)]
      · skip
        have hXy : (upT (.branch hh l2 r2) = l2 ∧ Q2 hh 4 = Q2 hh 3) ∨ (upT (.branch hh l2 r2) = r2 ∧ Q2 hh 4 = Q2 hh 4) := Or.inr ⟨upT_nil (by rw [e_67] at hT2l; exact hT2l), rfl⟩
        refine x_aload_n C D_X7_delete_3.2.2.1 rfl rfl (by first | exact Or.inr ⟨_, rfl⟩ | exact va_rf_or _ | exact Or.inl rfl) ?_
        refine x_getQ C (ci := 2) (k0 := 4) hh3 (by decide) rfl (by decide) in_X3 k_623 rfl rfl D_X7_delete_3.2.2.2.1 ?_
        refine x_eqq _ (rfl : Q2 hh 4 = Q2 hh 4) ?_
        refine x_goto C 81 D_X7_delete_3.2.2.2.2.1 (by decide) ?_
        refine x_callVv C (y := yX7_replace) (c_X7_replace l G t hh (lastA F2) (Q2 hh 4) hk7 hop) (ci := 6) (by assumption) (by decide) rfl rfl k_297 k_299 k_23 k_64 k_300 hd_X7_replace ⟨(Nat.le_of_ble_eq_true rfl), (Nat.le_of_ble_eq_true rfl)⟩ rfl (by first | exact Nat.le_of_ble_eq_true rfl | (cases lastA F2 <;> exact Nat.le_of_ble_eq_true rfl) | simp [x_crf, Value.category]) rfl rfl D_X7_delete_3.2.2.2.2.2.2.2.1 ⟨(Nat.le_of_ble_eq_true rfl), (Nat.le_of_ble_eq_true rfl)⟩ (fun _ S_81 h_81 => ?_)
        obtain ⟨Q4, eQ4⟩ : ∃ Q4, Q4 = (match lastA F2 with | none => x_u2 Q2 t 1 (Q2 hh 4) | some p0 => if Q2 p0 3 = some hh then x_u2 Q2 p0 3 (Q2 hh 4) else x_u2 Q2 p0 4 (Q2 hh 4)) := ⟨_, rfl⟩
        have h_81' : S_81 = (K, N, I2, Q4, J) := by
          rw [h_81, eQ4]
          clear h_81
          revert hop
          generalize lastA F2 = zz
          intro hop
          cases zz <;> rfl
        clear h_81
        obtain rfl := h_81'
        obtain ⟨s1, s2, s3⟩ := del_step hPL3 hTh hnd3 htF hXy eQ4
        have hq4 : ∀ x j, x ∉ ino A → ¬ (x = t ∧ j = 1) → Q4 x j = Q2 x j := fun x j h1 h2 => s3 x j (fun h => h1 ((hmF x).mp h)) h2
        have hz4 : TZ K N Q4 t pq pn := ⟨hk7, by rw [hq4 t 0 htA (fun e => by omega)]; exact hz2.2.1, hpk, by rw [hq4 pq 0 hpqA (fun e => by omega)]; exact hz2.2.2.2.1, hz2.2.2.2.2⟩
        have hnd4 := List.Pairwise.sublist ((upT_sub hh l2 r2).append_left (fad F2)) hnd3
        have hlen4 : (fad F2 ++ ino (upT (.branch hh l2 r2))).length < 1000 := by
          have h9 := ((upT_sub hh l2 r2).append_left (fad F2)).length_le
          have h8 := hpmF.length_eq
          rw [ino_len] at h8
          omega
        have hsg4 : ∀ i f, F2[i]? = some f → Q4 pn i = some f.1 := fun i f hi => by rw [hq4 pn i hpnA (fun e => htpn e.1.symm)]; exact hsg3 i f hi
        refine x_aload_n C D_X7_delete_3.2.2.2.2.2.2.2.2.1 rfl rfl (by first | exact Or.inr ⟨_, rfl⟩ | exact va_rf_or _ | exact Or.inl rfl) ?_
        refine x_iload C D_X7_delete_3.2.2.2.2.2.2.2.2.2.1 rfl ?_
        refine x_callVv C (y := yX7_balanceUpFrom) (c_X7_balanceUpFrom l G t pq pn (F2.length + 1) _ F2 (upT (.branch hh l2 r2)) (Q2 hh 4) hz4 rfl hnd4 hlen4 s1 s2 (upT_WT hW2l hW2r) hWF i2p (by omega) hnl hsg4) (ci := 6) hk7 (by decide) rfl rfl k_301 k_303 k_24 k_64 k_304 hd_X7_balanceUpFrom ⟨(Nat.le_of_ble_eq_true rfl), (Nat.le_of_ble_eq_true rfl)⟩ rfl (by first | exact Nat.le_of_ble_eq_true rfl | (cases lastA F2 <;> exact Nat.le_of_ble_eq_true rfl) | simp [x_crf, Value.category]) rfl rfl D_X7_delete_3.2.2.2.2.2.2.2.2.2.2.1 ⟨(Nat.le_of_ble_eq_true rfl), (Nat.le_of_ble_eq_true rfl)⟩ (fun _ S_87 h_87 => ?_)
        obtain ⟨I5, Q5, rfl, b1, b2, b3, b4, b5⟩ := h_87
        refine ret _ _ _ _ _ rfl D_X7_delete_3.2.2.2.2.2.2.2.2.2.2.2 (Nat.le_of_ble_eq_true rfl) (Nat.le_of_ble_eq_true rfl) ?_
        have hm4 : ∀ x, x ∉ ino A → x ∉ fad F2 ++ ino (upT (.branch hh l2 r2)) := fun x h1 h2 => h1 ((hmF x).mp (((upT_sub hh l2 r2).append_left (fad F2)).subset h2))
        have hm5 : ∀ x, x ∈ fad F2 ++ ino (upT (.branch hh l2 r2)) → x ∈ ino A := fun x h2 => (hmF x).mp (((upT_sub hh l2 r2).append_left (fad F2)).subset h2)
        refine ⟨I5, Q5, rfl, ?_, ?_, ?_, ?_, ?_, ?_⟩
        · rw [hE, ← eF2]; exact b1
        · rw [hE, ← eF2]; exact b2
        · intro x j h1 h2 h3 h4
          rw [b3 x j (fun e => h3 ⟨hm5 x e.1, e.2⟩) h4]
          exact i2 x j h1 h2
        · intro h8 h9
          rw [hE] at h9
          obtain rfl : hh = h8 := by simpa [rtq] using h9
          rw [b3 q0 0 (fun e => by omega) (fun e => by omega)]; exact i2k
        · intro x j h1 h2 h3
          rw [b4 x j (hm4 x h1) h3, hq4 x j h1 h3, eQ2, x_up_n _ _ h2]
        · rw [hE, ← eF2, b5, i2 t 2 htpq (fun e => by omega)]
    refine x_aload_n C D_X7_delete_0.2.2.2.2.2.2.2.2.2.1 rfl rfl (by first | exact Or.inr ⟨_, rfl⟩ | exact va_rf_or _ | exact Or.inl rfl) ?_
    refine x_getQ C (ci := 2) (k0 := 3) hq03 (by decide) rfl (by decide) in_X3 k_620 rfl rfl D_X7_delete_0.2.2.2.2.2.2.2.2.2.2.1 ?_
    refine x_eqq _ (show Q9 q0 3 = Q q0 3 by rw [q9 q0 hq0n.2.1]) ?_
    refine x_ifnull C 41 D_X7_delete_0.2.2.2.2.2.2.2.2.2.2.2 (by decide) (fun e_17 => ?_) (fun a9 e_17 => ?_)
    · skip
      have z1 : sz l_ = 0 := by rw [e_17] at hTl; rw [hTl.none]; rfl
      have eGF : delF cd c A = fpF cd c A ∧ delT cd c A = .branch q0 l_ r_ := by
        have hz0 : sz l_ = 0 ∨ sz r_ = 0 := by omega
        simp only [delF, delT, hD, delGF, delGT, if_pos hz0, List.append_nil, and_self]
      exact L_41 q0 l_ r_ I9 Q9 g _ eGF.2 (by rw [i9 q0 hq0n.1]; exact (hN q0 hq0A).2.1) (fun x j h1 _ => by rw [i9 x h1]) (by rw [eGF.1, eI9, x_u2_s]) eQ9 (by rw [eGF.1]; exact hsg)
    · skip
      have z1 : sz l_ ≠ 0 := by rw [e_17] at hTl; obtain ⟨_, _, hs, _⟩ := hTl.some; rw [hs]; simp [sz]
      refine x_aload_n C D_X7_delete_1.1 rfl rfl (by first | exact Or.inr ⟨_, rfl⟩ | exact va_rf_or _ | exact Or.inl rfl) ?_
      refine x_getQ C (ci := 2) (k0 := 4) hq03 (by decide) rfl (by decide) in_X3 k_623 rfl rfl D_X7_delete_1.2.1 ?_
      refine x_eqq _ (show Q9 q0 4 = Q q0 4 by rw [q9 q0 hq0n.2.1]) ?_
      refine x_ifnull C 41 D_X7_delete_1.2.2.1 (by decide) (fun e_24 => ?_) (fun b9 e_24 => ?_)
      · skip
        have z2 : sz r_ = 0 := by rw [e_24] at hTr; rw [hTr.none]; rfl
        have eGF : delF cd c A = fpF cd c A ∧ delT cd c A = .branch q0 l_ r_ := by
          have hz0 : sz l_ = 0 ∨ sz r_ = 0 := by omega
          simp only [delF, delT, hD, delGF, delGT, if_pos hz0, List.append_nil, and_self]
        exact L_41 q0 l_ r_ I9 Q9 g _ eGF.2 (by rw [i9 q0 hq0n.1]; exact (hN q0 hq0A).2.1) (fun x j h1 _ => by rw [i9 x h1]) (by rw [eGF.1, eI9, x_u2_s]) eQ9 (by rw [eGF.1]; exact hsg)
      · skip
        have z2 : sz r_ ≠ 0 := by rw [e_24] at hTr; obtain ⟨_, _, hs, _⟩ := hTr.some; rw [hs]; simp [sz]
        refine x_aload_n C D_X7_delete_1.2.2.2.1 rfl rfl (by first | exact Or.inr ⟨_, rfl⟩ | exact va_rf_or _ | exact Or.inl rfl) ?_
        refine x_aload_n C D_X7_delete_1.2.2.2.2.1 rfl rfl (by first | exact Or.inr ⟨_, rfl⟩ | exact va_rf_or _ | exact Or.inl rfl) ?_
        obtain ⟨oth, eG, eT⟩ := delG_two (q0 := q0) z1 z2
        obtain ⟨dd, edd⟩ : ∃ dd, dd = decide (sz r_ < sz l_) := ⟨_, rfl⟩
        obtain ⟨XX, eXX⟩ : ∃ XX, XX = (if sz r_ < sz l_ then l_ else r_) := ⟨_, rfl⟩
        rw [← edd, ← eXX] at eG eT
        obtain ⟨hh, l2, r2, hE, hem⟩ := delG_ex (A := .branch q0 l_ r_) (by simp [sz])
        have hpath : ((fpF cd c A).map (·.1) ++ [q0]) ++ hps dd XX = (delF cd c A).map (·.1) ++ [hh] := by
          rw [hp_hps, ← eT, hE, delF, hD, eG]; simp [rtq]
        have hdT : delT cd c A = .branch hh l2 r2 := by rw [delT, hD, hE]
        have hlp : (((fpF cd c A).map (·.1) ++ [q0]) ++ hps dd XX).length ≤ 40 := by
          rw [hpath]
          have h9 := plug_ht (delF cd c A) (delT cd c A)
          rw [del_plug, hdT] at h9
          simp only [ht] at h9
          simp only [List.length_append, List.length_map, List.length_singleton]
          omega
        have hhA : hh ∈ ino A := hhd hh (by rw [hdT]; rfl)
        have hhn := hN hh hhA
        have hDm : ∀ x ∈ ino (.branch q0 l_ r_ : Tr), x ∈ ino A := fun x hx => by
          rw [← fp_plug cd c A, hD]
          exact (plug_ino _ _).mem_iff.mpr (List.mem_append_right _ hx)
        have hz9 : TZ K N Q9 t pq pn := ⟨hk7, by rw [q9 t htpn]; exact hq0, hpk, by rw [q9 pq hpqn]; exact hz.2.2.2.1, hz.2.2.2.2⟩
        refine x_callVq C (y := yX7_walkToHeir) (c_X7_walkToHeir l G t pq pn q0 l_ r_ XX dd ((fpF cd c A).map (·.1) ++ [q0]) hz9 (hTDb.congr (fun x hx => by rw [q9 x (hAn x (hDm x hx)).2.1]; exact ⟨rfl, rfl, rfl⟩)) (hWD.congr (fun x hx => by rw [i9 x (hAn x (hDm x hx)).1])) (by omega) (by omega) eXX edd hlp (by simp) (by rw [eI9, x_u2_s]; simp) (by rw [eQ9, x_up_s]; exact hsg)) (ci := 6) hk7 (by decide) rfl rfl k_290 k_292 k_22 k_64 k_293 hd_X7_walkToHeir ⟨(Nat.le_of_ble_eq_true rfl), (Nat.le_of_ble_eq_true rfl)⟩ rfl (by first | exact Nat.le_of_ble_eq_true rfl | (cases lastA F2 <;> exact Nat.le_of_ble_eq_true rfl) | simp [x_crf, Value.category]) rfl rfl D_X7_delete_1.2.2.2.2.2.1 ⟨(Nat.le_of_ble_eq_true rfl), (Nat.le_of_ble_eq_true rfl)⟩ (fun r_29 S_29 h_29 => ?_)
        obtain ⟨h9h, g2, hgl, rfl, rfl, hsg2⟩ := h_29
        rw [hpath] at hgl hsg2
        obtain rfl : hh = h9h := by simpa using hgl
        have eI29 : x_u2 I9 pq 1 (nI (((fpF cd c A).map (·.1) ++ [q0]) ++ hps dd XX).length) = x_u2 I pq 1 (nI ((delF cd c A).length + 1)) := by rw [hpath, eI9, x_u2_u2]; simp
        rw [eI29, eQ9, x_up_up]
        refine x_astore_n C (lv' := [_, _, _, _, _]) D_X7_delete_1.2.2.2.2.2.2.1 rfl (Nat.le_of_ble_eq_true rfl) (by first | rfl | exact x_ok_q rfl) (by first | exact Or.inr ⟨_, rfl⟩ | exact va_rf_or _ | exact Or.inl rfl) rfl ?_
        refine x_aload_n C D_X7_delete_1.2.2.2.2.2.2.2.1 rfl rfl (by first | exact Or.inr ⟨_, rfl⟩ | exact va_rf_or _ | exact Or.inl rfl) ?_
        refine x_aload_n C D_X7_delete_1.2.2.2.2.2.2.2.2.1 rfl rfl (by first | exact Or.inr ⟨_, rfl⟩ | exact va_rf_or _ | exact Or.inl rfl) ?_
        refine x_getI C (ci := 2) (k0 := 0) hhn.1 (by decide) rfl (by decide) in_X3 k_609 rfl rfl D_X7_delete_1.2.2.2.2.2.2.2.2.2.1 ?_
        refine x_eqi _ (show x_u2 I pq 1 (nI ((delF cd c A).length + 1)) hh 0 = cv1 (cd hh) by rw [x_u2_a _ _ (hAn hh hhA).1]; exact hhn.2.1) ?_
        refine x_putI C (ci := 2) (k0 := 0) hq03 (by decide) rfl (by decide) in_X3 k_609 rfl tyX3 tyX3_ok nmX3 rfl (by rfl) rfl rfl rfl D_X7_delete_1.2.2.2.2.2.2.2.2.2.2.1 (fun I38 eI38 => ?_)
        refine L_41 hh l2 r2 I38 _ g2 _ hdT (by rw [eI38, x_u2_s]) (fun x j h1 h2 => ?_) (by rw [eI38, x_u2_a _ _ hq0n.1.symm, x_u2_s]) rfl hsg2
        rw [eI38]
        by_cases e : x = q0
        · subst e; rw [x_u2_j _ _ (fun e2 => h2 ⟨rfl, e2⟩), x_u2_a _ _ h1]
        · rw [x_u2_a _ _ e, x_u2_a _ _ h1]
  · skip
    exact absurd e_7 (by simp)
    --end
