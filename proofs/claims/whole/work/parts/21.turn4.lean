abbrev rm_X7_balanceUpFrom : Room := { frames := 4, cells := 0, slots := 0, locals := 84 }
theorem hd_X7_balanced : yX7_balanced.cls ≠ "java/lang/invoke/MethodHandle" ∧ yX7_balanced.cls ≠ "java/lang/invoke/VarHandle" ∧ (parseMethodDescriptor yX7_balanced.desc).map (fun d => d.parameters.length) = some 1 := by decide +kernel
theorem hd_X7_replace : yX7_replace.cls ≠ "java/lang/invoke/MethodHandle" ∧ yX7_replace.cls ≠ "java/lang/invoke/VarHandle" ∧ (parseMethodDescriptor yX7_replace.desc).map (fun d => d.parameters.length) = some 3 := by decide +kernel
set_option maxHeartbeats 4000000 in
set_option maxRecDepth 100000 in
theorem c_X7_balanceUpFrom (l : Launch) (G : xG) {K N : Nat → Nat} {I : Nat → Nat → Int32} {Q : Nat → Nat → Option Nat} {J : Nat → Nat → Int64} (t pq pn n : Nat) (x0 : Int32) (F : List Fr) (X : Tr) (o0 : Option Nat) (hz : TZ K N Q t pq pn) (hx0 : x0 = nI F.length - nI 1) (hnd0 : (fad F ++ ino X).Nodup) (hlen0 : (fad F ++ ino X).length < 1000) (hPL0 : PLG K Q F (Q t 1) o0) (hTX0 : TP K Q X o0) (hWX0 : WT I X) (hWF0 : ∀ f ∈ F, WT I f.2.2) (hIn : I pq 1 = nI n) (hFn : F.length ≤ n) (hn40 : n ≤ 40) (hsg0 : ∀ i f, F[i]? = some f → Q pn i = some f.1) : XM l yX7_balanceUpFrom cX7_balanceUpFrom 4 none rm_X7_balanceUpFrom G Rv [.ref t, .int x0] (K, N, I, Q, J) (fun _ S1 => ∃ I1 Q1, S1 = (K, N, I1, Q1, J) ∧ TP K Q1 (balF F X) (Q1 t 1) ∧ WT I1 (balF F X) ∧ (∀ x j, ¬ (x ∈ fad F ++ ino X ∧ j = 2) → ¬ (x = t ∧ j = 2) → I1 x j = I x j) ∧ (∀ x j, x ∉ fad F ++ ino X → ¬ (x = t ∧ j = 1) → Q1 x j = Q x j) ∧ I1 t 2 = I t 2 + nI (balC F X)) := by
  refine x_metv (lv := [_, _, _, _]) (by decide +kernel) (x_cc (by first | rfl | exact x_crf _) (x_cc (by first | rfl | exact x_crf _) x_cn)) (Nat.le_of_ble_eq_true rfl) rfl ?_
  intro pP eE sS mM aA bB hH cC Z C hini ret
  have hK3 : ∀ x ∈ fad F ++ ino X, K x = 3 := fun x hx => by
    rcases List.mem_append.mp hx with h | h
    · exact hPL0.fkind x h
    · exact hTX0.kind x h
  obtain ⟨hk7, hq0, hkp, hp0, hpn, hN40, -⟩ := hz
  have htF : t ∉ fad F ++ ino X := fun h => by have := hK3 t h; omega
  have hpqF : pq ∉ fad F ++ ino X := fun h => by have := hK3 pq h; omega
  have hpnF : pn ∉ fad F ++ ino X := fun h => by have := hK3 pn h; omega
  have hpqt : pq ≠ t := fun e => by rw [e] at hkp; omega
  have hpnt : pn ≠ t := fun e => by rw [e] at hpn; omega
  refine x_iload_n C D_X7_balanceUpFrom_0.1 rfl rfl ?_
  refine x_istore_n C (lv' := [_, _, _, _]) D_X7_balanceUpFrom_0.2.1 rfl (Nat.le_of_ble_eq_true rfl) (by first | rfl | exact x_ok_q rfl) rfl ?_
  have L_2 : ∀ (w_2 : Nat) (Fa : List Fr) (X1 : Tr) (o : Option Nat) (I1 : Nat → Nat → Int32) (Q1 : Nat → Nat → Option Nat) (x2 : Int32) (v3 : Option Value), Fa.length < w_2 → (x2 = nI Fa.length - nI 1) → (Fa.length ≤ n) → (PLG K Q1 Fa (Q1 t 1) o) → (TP K Q1 X1 o) → (WT I1 X1) → (∀ f ∈ Fa, WT I1 f.2.2) → ((fad Fa ++ ino X1).Nodup) → ((fad Fa ++ ino X1).length < 1000) → (∀ x ∈ fad Fa ++ ino X1, x ∈ fad F ++ ino X) → (balF Fa X1 = balF F X) → (I1 t 2 + nI (balC Fa X1) = I t 2 + nI (balC F X)) → (∀ i f, Fa[i]? = some f → Q pn i = some f.1) → (∀ x j, ¬ (x ∈ fad F ++ ino X ∧ j = 2) → ¬ (x = t ∧ j = 2) → I1 x j = I x j) → (∀ x j, x ∉ fad F ++ ino X → ¬ (x = t ∧ j = 1) → Q1 x j = Q x j) → XW pP l eE rm_X7_balanceUpFrom sS mM aA bB hH cC G Z 0 0 (K, N, I1, Q1, J) 2 [some (.ref t), some (.int x0), some (.int x2), v3] [] := by
    intro w_2
    induction w_2 with
    | zero =>
      intro Fa X1 o I1 Q1 x2 v3 hw_2
      exact absurd hw_2 (Nat.not_lt_zero _)
    | succ w_2 ih_2 =>
      intro Fa X1 o I1 Q1 x2 v3 hw_2 e2_ hfl hPL hTX hWX hWF hnd1 hlen1 hsub1 hbF hbC hsgF i1 q1
      refine x_iload_n C D_X7_balanceUpFrom_0.2.2.1 rfl rfl ?_
      refine x_if_lt C 49 D_X7_balanceUpFrom_0.2.2.2.1 (by decide) (fun c_3 => ?_) (fun c_3 => ?_)
      · skip
        have hnil : Fa = [] := by
          rcases fr_split Fa with h | ⟨F1, f1, h⟩
          · exact h
          · rw [e2_, h, List.length_append, List.length_singleton, pk_sub (by omega)] at c_3
            rw [h, List.length_append, List.length_singleton] at hfl
            exact absurd c_3 (nI_pos (by omega))
        subst hnil
        refine ret _ _ _ _ _ rfl D_X7_balanceUpFrom_2.2.2.2 (Nat.le_of_ble_eq_true rfl) (Nat.le_of_ble_eq_true rfl) ?_
        exact ⟨I1, Q1, rfl, by rw [← hbF]; have h9 : Q1 t 1 = o := hPL; rw [h9]; exact hTX, by rw [← hbF]; exact hWX, i1, q1, by rw [← hbC]; simp [balC, nI_0]⟩
      · skip
        obtain ⟨F0, q, b, s, rfl⟩ : ∃ F0 q b s, Fa = F0 ++ [(q, b, s)] := by
          rcases fr_split Fa with h | ⟨F1, f1, h⟩
          · rw [h] at e2_; exact absurd (by rw [e2_]; decide) c_3
          · exact ⟨F1, f1.1, f1.2.1, f1.2.2, h⟩
        rw [List.length_append, List.length_singleton] at hfl
        obtain rfl : x2 = nI F0.length := by rw [e2_, List.length_append, List.length_singleton, pk_sub (by omega)]; rfl
        have hrow1 : RowOK K N I1 Q1 pq pn 40 n := ⟨hkp, by rw [q1 pq 0 hpqF (fun e => hpqt e.1)]; exact hp0, hpn, hN40, by omega, by rw [i1 pq 1 (fun e => hpqF e.1) (fun e => hpqt e.1)]; exact hIn, hn40⟩
        have hQpn : Q1 pn = Q pn := funext fun j => q1 pn j hpnF (fun e => hpnt e.1)
        obtain ⟨l_, r_, hm, hlr⟩ := mkf_ex q b s X1
        have hPs := hPL
        rw [PLG.app] at hPs
        obtain ⟨z9, hP0, hz9, hq3, hTs, hoo⟩ := hPs
        simp only at hz9 hq3 hTs hoo
        subst hz9
        have hTm : TP K Q1 (.branch q l_ r_) (some q) := by
          rw [← hm]; exact mkf_TP.mpr ⟨rfl, hq3, hTs, by rw [hoo]; exact hTX⟩
        have hWs : WT I1 s := hWF (q, b, s) (by simp)
        have hWlr : WT I1 l_ ∧ WT I1 r_ := by rcases hlr with ⟨rfl, rfl⟩ | ⟨rfl, rfl⟩ <;> exact ⟨by assumption, by assumption⟩
        obtain ⟨-, -, hTl, hTr⟩ := hTm
        have hmi := mkf_ino (q, b, s) X1
        rw [hm] at hmi
        have hpm := fad_perm F0 (q, b, s) X1
        rw [balT_ino, hm] at hpm
        have hnm0 := hpm.nodup_iff.mpr hnd1
        have hnm : (ino (.branch q l_ r_)).Nodup := (List.nodup_append.mp hnm0).2.1
        have hszm : sz (.branch q l_ r_) < 1000 := by
          have h9 := hpm.length_eq
          rw [List.length_append, ino_len] at h9
          omega
        have hnq := hnm
        simp only [ino, List.nodup_append, List.nodup_cons, List.mem_cons] at hnq
        have hql : ∀ x ∈ ino l_, x ≠ q := by grind
        have hqr : ∀ x ∈ ino r_, x ≠ q := by grind
        have hqt : q ≠ t := fun e => by rw [e] at hq3; omega
        have hpqq : pq ≠ q := fun e => by rw [e] at hkp; omega
        refine x_aload_n C D_X7_balanceUpFrom_0.2.2.2.2.1 rfl rfl (by first | exact Or.inr ⟨_, rfl⟩ | exact va_rf_or _ | exact Or.inl rfl) ?_
        refine x_getQ C (ci := 6) (k0 := 0) hk7 (by decide) rfl (by decide) in_X7 k_137 rfl rfl D_X7_balanceUpFrom_0.2.2.2.2.2.1 ?_
        refine x_eqr (show Q1 t 0 = some pq by rw [q1 t 0 htF (fun e => by omega)]; exact hq0) ?_
        refine x_iload_n C D_X7_balanceUpFrom_0.2.2.2.2.2.2.1 rfl rfl ?_
        refine x_callVq C (y := yX4_at) (c_X4_at l G pq pn 40 n (nI F0.length) hrow1) (ci := 3) hkp (by decide) rfl rfl k_296 k_273 k_274 k_63 k_275 hd_X4_at ⟨(Nat.le_of_ble_eq_true rfl), (Nat.le_of_ble_eq_true rfl)⟩ rfl (by first | exact Nat.le_of_ble_eq_true rfl | (cases lastA F0 <;> exact Nat.le_of_ble_eq_true rfl) | simp [x_crf, Value.category]) rfl rfl D_X7_balanceUpFrom_0.2.2.2.2.2.2.2.1 ⟨(Nat.le_of_ble_eq_true rfl), (Nat.le_of_ble_eq_true rfl)⟩ (fun r_11 S_11 h_11 => ?_)
        obtain ⟨hr11, rfl⟩ := h_11
        rw [atv_in _ (by omega) (by omega), hQpn, hsgF F0.length (q, b, s) (by simp)] at hr11
        subst hr11
        refine x_astore_n C (lv' := [_, _, _, _]) D_X7_balanceUpFrom_0.2.2.2.2.2.2.2.2.1 rfl (Nat.le_of_ble_eq_true rfl) (by first | rfl | exact x_ok_q rfl) (by first | exact Or.inr ⟨_, rfl⟩ | exact va_rf_or _ | exact Or.inl rfl) rfl ?_
        refine x_aload_n C D_X7_balanceUpFrom_0.2.2.2.2.2.2.2.2.2.1 rfl rfl (by first | exact Or.inr ⟨_, rfl⟩ | exact va_rf_or _ | exact Or.inl rfl) ?_
        refine x_ifnull C 43 D_X7_balanceUpFrom_0.2.2.2.2.2.2.2.2.2.2.1 (by decide) (fun e_16 => ?_) (fun x9 e_16 => ?_)
        · skip
          exact absurd e_16 (by simp)
          --end
        · skip
          obtain rfl : q = x9 := Option.some.inj e_16
          refine x_aload_n C D_X7_balanceUpFrom_0.2.2.2.2.2.2.2.2.2.2.2 rfl rfl (by first | exact Or.inr ⟨_, rfl⟩ | exact va_rf_or _ | exact Or.inl rfl) ?_
          refine x_callSv C (y := yX7_weigh) (c_X7_weigh l G q (sz l_) (sz r_) hq3 (fun z hz => by rw [hz] at hTl; obtain ⟨_, _, _, hk, _⟩ := hTl.some; exact hk) (fun z hz => by rw [hz] at hTr; obtain ⟨_, _, _, hk, _⟩ := hTr.some; exact hk) (wOf_TP hTl hWlr.1) (wOf_TP hTr hWlr.2)) k_305 k_306 k_64 k_307 hd_X7_weigh ⟨(Nat.le_of_ble_eq_true rfl), (Nat.le_of_ble_eq_true rfl)⟩ rfl (by first | exact Nat.le_of_ble_eq_true rfl | (cases lastA F0 <;> exact Nat.le_of_ble_eq_true rfl) | simp [x_crf, Value.category]) rfl rfl D_X7_balanceUpFrom_1.1 ⟨(Nat.le_of_ble_eq_true rfl), (Nat.le_of_ble_eq_true rfl)⟩ (fun _ S_20 h_20 => ?_)
          obtain rfl := h_20
          obtain ⟨I2, eI2⟩ : ∃ I2, I2 = x_u2 I1 q 2 (nI (sz l_ + sz r_ + 1)) := ⟨_, rfl⟩
          rw [← eI2]
          have i2 : ∀ x, x ≠ q → I2 x = I1 x := fun x hx => by rw [eI2, x_u2_a _ _ hx]
          have hWm : WT I2 (.branch q l_ r_) := ⟨by rw [eI2, x_u2_s], hWlr.1.congr (fun x hx => by rw [i2 x (hql x hx)]), hWlr.2.congr (fun x hx => by rw [i2 x (hqr x hx)])⟩
          have hrow2 : RowOK K N I2 Q1 pq pn 40 n := by obtain ⟨a1, a2, a3, a4, a5, a6, a7⟩ := hrow1; exact ⟨a1, a2, a3, a4, a5, by rw [i2 pq hpqq]; exact a6, a7⟩
          refine x_aload_n C D_X7_balanceUpFrom_1.2.1 rfl rfl (by first | exact Or.inr ⟨_, rfl⟩ | exact va_rf_or _ | exact Or.inl rfl) ?_
          refine x_aload_n C D_X7_balanceUpFrom_1.2.2.1 rfl rfl (by first | exact Or.inr ⟨_, rfl⟩ | exact va_rf_or _ | exact Or.inl rfl) ?_
          refine x_getQ C (ci := 6) (k0 := 0) hk7 (by decide) rfl (by decide) in_X7 k_137 rfl rfl D_X7_balanceUpFrom_1.2.2.2.1 ?_
          refine x_eqr (show Q1 t 0 = some pq by rw [q1 t 0 htF (fun e => by omega)]; exact hq0) ?_
          refine x_iload_n C D_X7_balanceUpFrom_1.2.2.2.2.1 rfl rfl ?_
          refine x_iconst C (v := nI 1) D_X7_balanceUpFrom_1.2.2.2.2.2.1 (by decide +kernel) ?_
          refine x_isub C D_X7_balanceUpFrom_1.2.2.2.2.2.2.1 ?_
          refine x_callVq C (y := yX4_at) (c_X4_at l G pq pn 40 n (nI F0.length - nI 1) hrow2) (ci := 3) hkp (by decide) rfl rfl k_296 k_273 k_274 k_63 k_275 hd_X4_at ⟨(Nat.le_of_ble_eq_true rfl), (Nat.le_of_ble_eq_true rfl)⟩ rfl (by first | exact Nat.le_of_ble_eq_true rfl | (cases lastA F0 <;> exact Nat.le_of_ble_eq_true rfl) | simp [x_crf, Value.category]) rfl rfl D_X7_balanceUpFrom_1.2.2.2.2.2.2.2.1 ⟨(Nat.le_of_ble_eq_true rfl), (Nat.le_of_ble_eq_true rfl)⟩ (fun r_31 S_31 h_31 => ?_)
          obtain ⟨hr31, rfl⟩ := h_31
          have hla : r_31 = lastA F0 := by
            rcases fr_split F0 with rfl | ⟨F00, f0, rfl⟩
            · rw [hr31, atv_out _ (Or.inl (by decide)) (by omega)]; rfl
            · rw [List.length_append, List.length_singleton] at hfl
              rw [hr31, List.length_append, List.length_singleton, pk_sub (by omega), Nat.add_sub_cancel, atv_in _ (by omega) (by omega), hQpn, hsgF F00.length f0 (by simp), lastA_app]
          subst hla
          have hop : ∀ p0, lastA F0 = some p0 → K p0 = 3 := fun p0 hp => by
            rcases fr_split F0 with rfl | ⟨F00, f0, rfl⟩
            · rw [lastA_nil] at hp; cases hp
            · rw [lastA_app] at hp
              obtain rfl := Option.some.inj hp
              exact hP0.fkind _ (by rw [fad_app]; simp [fad])
          refine x_aload_n C D_X7_balanceUpFrom_1.2.2.2.2.2.2.2.2.1 rfl rfl (by first | exact Or.inr ⟨_, rfl⟩ | exact va_rf_or _ | exact Or.inl rfl) ?_
          refine x_aload_n C D_X7_balanceUpFrom_1.2.2.2.2.2.2.2.2.2.1 rfl rfl (by first | exact Or.inr ⟨_, rfl⟩ | exact va_rf_or _ | exact Or.inl rfl) ?_
          refine x_aload_n C D_X7_balanceUpFrom_1.2.2.2.2.2.2.2.2.2.2.1 rfl rfl (by first | exact Or.inr ⟨_, rfl⟩ | exact va_rf_or _ | exact Or.inl rfl) ?_
          refine x_callVq C (y := yX7_balanced) (c_X7_balanced l G t q l_ r_ hk7 ⟨rfl, hq3, hTl, hTr⟩ hnm hWm hszm) (ci := 6) (by assumption) (by decide) rfl rfl k_308 k_310 k_25 k_64 k_311 hd_X7_balanced ⟨(Nat.le_of_ble_eq_true rfl), (Nat.le_of_ble_eq_true rfl)⟩ rfl (by first | exact Nat.le_of_ble_eq_true rfl | (cases lastA F0 <;> exact Nat.le_of_ble_eq_true rfl) | simp [x_crf, Value.category]) rfl rfl D_X7_balanceUpFrom_1.2.2.2.2.2.2.2.2.2.2.2 ⟨(Nat.le_of_ble_eq_true rfl), (Nat.le_of_ble_eq_true rfl)⟩ (fun r_37 S_37 h_37 => ?_)
          obtain ⟨I3, Q3, rfl, b1, b2, b3, b4, b5⟩ := h_37
          refine x_callVv C (y := yX7_replace) (c_X7_replace l G t q (lastA F0) r_37 hk7 hop) (ci := 6) (by assumption) (by decide) rfl rfl k_297 k_299 k_23 k_64 k_300 hd_X7_replace ⟨(Nat.le_of_ble_eq_true rfl), (Nat.le_of_ble_eq_true rfl)⟩ rfl (by first | exact Nat.le_of_ble_eq_true rfl | (cases lastA F0 <;> exact Nat.le_of_ble_eq_true rfl) | simp [x_crf, Value.category]) rfl rfl D_X7_balanceUpFrom_2.1 ⟨(Nat.le_of_ble_eq_true rfl), (Nat.le_of_ble_eq_true rfl)⟩ (fun _ S_40 h_40 => ?_)
          obtain ⟨Q4, eQ4⟩ : ∃ Q4, Q4 = (match lastA F0 with | none => x_u2 Q3 t 1 r_37 | some p0 => if Q3 p0 3 = some q then x_u2 Q3 p0 3 r_37 else x_u2 Q3 p0 4 r_37) := ⟨_, rfl⟩
          have h_40' : S_40 = (K, N, I3, Q4, J) := by
            rw [h_40, eQ4]
            revert hop
            generalize lastA F0 = zz
            intro hop
            cases zz <;> exact fun _ => rfl
          clear h_40
          obtain rfl := h_40'
          have htF1 : t ∉ fad (F0 ++ [(q, b, s)]) ++ ino X1 := fun h => htF (hsub1 t h)
          obtain ⟨s1, s2, s3⟩ := bal_step (f := (q, b, s)) hPL hnd1 htF1 b1 (fun x hx => by rw [balT_ino] at hx; rw [hm]; exact hx) (fun x hx => b4 x (by rw [hm] at hx; exact hx)) eQ4
          have i3 : ∀ x j, ¬ (x ∈ fad F ++ ino X ∧ j = 2) → ¬ (x = t ∧ j = 2) → I3 x j = I x j := fun x j h1 h2 => by
            have hx9 : ¬ (x = q ∧ j = 2) := fun e => h1 ⟨by rw [e.1]; exact hsub1 q (by rw [fad_app]; simp [fad]), e.2⟩
            rw [b3 x j (fun e => h1 ⟨hsub1 x (hpm.mem_iff.mp (List.mem_append_right _ e.1)), e.2⟩) h2, eI2]
            by_cases e : x = q
            · subst e; rw [x_u2_j _ _ (fun e2 => hx9 ⟨rfl, e2⟩)]; exact i1 x j h1 h2
            · rw [x_u2_a _ _ e]; exact i1 x j h1 h2
          refine x_iinc C (lv' := [_, _, _, _]) D_X7_balanceUpFrom_2.2.1 rfl (x_inc_m1 _) (by first | rfl | exact x_ok_q rfl) rfl ?_
          refine x_goto C 2 D_X7_balanceUpFrom_2.2.2.1 (by decide) ?_
          refine ih_2 F0 (balT (mkf (q, b, s) X1)) r_37 I3 Q4 _ _ (by rw [List.length_append, List.length_singleton] at hw_2; omega) (by rw [show (-1 : Int32) = - nI 1 from by decide, ← Int32.sub_eq_add_neg]) (by omega) s1 (by rw [hm]; exact s2) (by rw [hm]; exact b2) (fun f hf => ?_) ((fad_perm F0 (q, b, s) X1).nodup_iff.mpr hnd1) (by rw [(fad_perm F0 (q, b, s) X1).length_eq]; exact hlen1) (fun x hx => hsub1 x ((fad_perm F0 (q, b, s) X1).mem_iff.mp hx)) (by rw [← hbF, balF_app]; rfl) ?_ (fun i f hi => hsgF i f (by rw [List.getElem?_append_left (by have := (List.getElem?_eq_some_iff.mp hi).1; exact this)]; exact hi)) i3 (fun x j h1 h2 => by rw [s3 x j (fun h => h1 (hsub1 x h)) h2]; exact q1 x j h1 h2)
          · have hfs : ∀ x ∈ ino f.2.2, x ∈ fad F0 := fun x hx => fad_sub hf x hx
            refine (hWF f (by simp [hf])).congr (fun x hx => ?_)
            have hxm : x ∉ ino (.branch q l_ r_) := fun h => (List.nodup_append.mp hnm0).2.2 x (hfs x hx) x h rfl
            have hxt : x ≠ t := fun e => htF (e ▸ hsub1 x (by rw [fad_app]; simp [hfs x hx]))
            rw [b3 x 2 (fun e => hxm e.1) (fun e => hxt e.1), i2 x (fun e => hxm (by rw [e]; simp [ino]))]
          · rw [← hbC, b5, i2 t hqt.symm, balC_app]
            simp only [balC, balF, Nat.zero_add, hm]
            rw [Int32.add_assoc, nI_add, Nat.add_comm]
  exact L_2 _ F X o0 I Q _ _ (Nat.lt_succ_self _) hx0 hFn hPL0 hTX0 hWX0 hWF0 hnd0 hlen0 (fun x hx => hx) rfl rfl hsg0 (fun x j _ _ => rfl) (fun x j _ _ => rfl)
