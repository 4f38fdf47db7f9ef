abbrev rm_X7_insertN : Room := { frames := 5, cells := 1, slots := 5, locals := 107 }
theorem hd_X7_balanceUpFrom : yX7_balanceUpFrom.cls ≠ "java/lang/invoke/MethodHandle" ∧ yX7_balanceUpFrom.cls ≠ "java/lang/invoke/VarHandle" ∧ (parseMethodDescriptor yX7_balanceUpFrom.desc).map (fun d => d.parameters.length) = some 1 := by decide +kernel
set_option maxHeartbeats 4000000 in
set_option maxRecDepth 100000 in
theorem c_X7_insertN (l : Launch) (G : xG) {K N : Nat → Nat} {I : Nat → Nat → Int32} {Q : Nat → Nat → Option Nat} {J : Nat → Nat → Int64} (t pq pn c : Nat) (A : Tr) (cd : Nat → Nat) (hz : TZ K N Q t pq pn) (hT0 : TP K Q A (Q t 1)) (hW0 : WT I A) (hnA : (ino A).Nodup) (hN : ND cv1 1999 K I cd (ino A)) (hA : ht A ≤ 40) (hsz : sz A < 998) (hc : c < 1999) (hsf : sfind od1 cd c A 0 = none) : XM l yX7_insert cX7_insert 4 none rm_X7_insertN G Rv [.ref t, .int (cv1 c)] (K, N, I, Q, J) (fun _ S1 => ∃ v K1 I1 Q1, S1 = (K1, N, I1, Q1, J) ∧ K v = 0 ∧ K1 = x_up K v 3 ∧ TP K1 Q1 (balF (fpF cd c A) (.branch v (.leaf ()) (.leaf ()) : Tr)) (Q1 t 1) ∧ WT I1 (balF (fpF cd c A) (.branch v (.leaf ()) (.leaf ()) : Tr)) ∧ I1 v 0 = cv1 c ∧ (∀ q, q ∉ ino A → q ≠ v → q ≠ pq → q ≠ t → I1 q = I q) ∧ (∀ q j, q ∈ ino A → j ≠ 2 → I1 q j = I q j) ∧ (∀ q, q ∉ ino A → q ≠ v → q ≠ pn → q ≠ t → Q1 q = Q q) ∧ Q1 t 0 = Q t 0 ∧ I1 t 2 = I t 2 + nI (balC (fpF cd c A) (.branch v (.leaf ()) (.leaf ()) : Tr))) := by
  refine x_metv (lv := [_, _, _, _]) (by decide +kernel) (x_cc (by first | rfl | exact x_crf _) (x_cc (by first | rfl | exact x_crf _) x_cn)) (Nat.le_of_ble_eq_true rfl) rfl ?_
  intro pP eE sS mM aA bB hH cC Z C hini ret
  have hk7 := hz.1
  have hq0 := hz.2.1
  have hpk := hz.2.2.1
  have hpn3 := hz.2.2.2.2.1
  have htpn : t ≠ pn := fun e => by rw [e] at hk7; omega
  have htpq : t ≠ pq := fun e => by rw [e] at hk7; omega
  refine x_aload_n C D_X7_insert_0.1 rfl rfl (by first | exact Or.inr ⟨_, rfl⟩ | exact va_rf_or _ | exact Or.inl rfl) ?_
  refine x_iload_n C D_X7_insert_0.2.1 rfl rfl ?_
  refine x_callVq C (y := yX7_find) (c_X7_find l G t pq pn c A cd hz hT0 hN hA hc) (ci := 6) hk7 (by decide) rfl rfl k_284 k_286 k_21 k_64 k_287 hd_X7_find ⟨(Nat.le_of_ble_eq_true rfl), (Nat.le_of_ble_eq_true rfl)⟩ rfl (by first | exact Nat.le_of_ble_eq_true rfl | simp [x_crf, Value.category]) rfl rfl D_X7_insert_0.2.2.1 ⟨(Nat.le_of_ble_eq_true rfl), (Nat.le_of_ble_eq_true rfl)⟩ (fun r_2 S_2 h_2 => ?_)
  obtain ⟨hr, g, rfl, hsg⟩ := h_2
  rw [hsf] at hr
  subst hr
  obtain ⟨F, eF⟩ : ∃ F, F = fpF cd c A := ⟨_, rfl⟩
  obtain ⟨Pw, ePw⟩ : ∃ Pw, Pw = spath od1 cd c A 0 := ⟨_, rfl⟩
  have hlf : fpT cd c A = .leaf () := by
    have h9 := fp_sfind cd c A 0
    rw [hsf] at h9
    cases h : fpT cd c A with
    | leaf u => rfl
    | branch q l r => rw [h] at h9; simp [rtq] at h9
  have hPF : Pw = F.map (·.1) := by rw [ePw, fp_spath, hlf, eF]; simp [rtq]
  have hPl : Pw.length ≤ 40 := by rw [ePw]; exact Nat.le_trans (spath_len _ _ _ _ _) hA
  have hFl : F.length = Pw.length := by rw [hPF, List.length_map]
  have hplg : plug F (.leaf ()) = A := by rw [eF, ← hlf]; exact fp_plug cd c A
  rw [← ePw] at hsg
  have eP1 : nI (spath od1 cd c A 0).length = nI Pw.length := by rw [ePw]
  rw [eP1]
  obtain ⟨I2, eI2⟩ : ∃ I2, I2 = x_u2 I pq 1 (nI Pw.length) := ⟨_, rfl⟩
  obtain ⟨Q2, eQ2⟩ : ∃ Q2, Q2 = x_up Q pn g := ⟨_, rfl⟩
  rw [← eI2, ← eQ2]
  refine x_ifnull C 9 D_X7_insert_0.2.2.2.1 (by decide) (fun e_5 => ?_) (fun q9 e_5 => ?_)
  · skip
    refine x_new C (ci := 2) rfl (by decide) in_X3 tyX3 tyX3_ok x_layX3 k_666 k_603 k_73 (Nat.le_of_ble_eq_true rfl) (Nat.le_of_ble_eq_true rfl) D_X7_insert_0.2.2.2.2.2.1 (fun v K_9 I_9 Q_9 fv eK_9 eI_9 eQ_9 => ?_)
    refine x_dup C D_X7_insert_0.2.2.2.2.2.2.1 (by first | rfl | exact x_crf _) ?_
    refine x_iload_n C D_X7_insert_0.2.2.2.2.2.2.2.1 rfl rfl ?_
    refine x_callI (ret := none) C (y := yX3_init) (c_X3_init l G v (cv1 c) (by rw [eK_9, x_up_s])) k_606 k_73 k_667 k_605 rfl hd_X3_init ⟨(Nat.le_of_ble_eq_true rfl), (Nat.le_of_ble_eq_true rfl)⟩ rfl (by first | exact Nat.le_of_ble_eq_true rfl | simp [x_crf, Value.category]) rfl rfl D_X7_insert_0.2.2.2.2.2.2.2.2.1 ⟨(Nat.le_of_ble_eq_true rfl), (Nat.le_of_ble_eq_true rfl)⟩ (fun _ S_14 h_14 => ?_)
    obtain rfl := h_14
    obtain ⟨I1, eI1⟩ : ∃ I1, I1 = x_u2 (x_u2 (x_u2 I_9 v 1 (nI 1)) v 2 (nI 1)) v 0 (cv1 c) := ⟨_, rfl⟩
    rw [← eI1]
    have i1v : I1 v 0 = cv1 c ∧ I1 v 1 = nI 1 ∧ I1 v 2 = nI 1 := by rw [eI1]; simp [x_u2, x_up]
    have i1o : ∀ q, q ≠ v → I1 q = I2 q := fun q hq => by rw [eI1, x_u2_a _ _ hq, x_u2_a _ _ hq, x_u2_a _ _ hq, eI_9, x_up_n _ _ hq]
    have q1o : ∀ q, q ≠ v → Q_9 q = Q2 q := fun q hq => by rw [eQ_9, x_up_n _ _ hq]
    have k1o : ∀ q, q ≠ v → K_9 q = K q := fun q hq => by rw [eK_9, x_up_n _ _ hq]
    have hne : ∀ q, K q ≠ 0 → q ≠ v := fun q hq e => hq (by rw [e]; exact fv)
    have hkv : K_9 v = 3 := by rw [eK_9, x_up_s]
    have hvq : Q_9 v 3 = none ∧ Q_9 v 4 = none := by rw [eQ_9, x_up_s]; exact ⟨rfl, rfl⟩
    have hvA : v ∉ ino A := fun h => hne v (by rw [(hN v h).1]; omega) rfl
    have hAn : ∀ q ∈ ino A, q ≠ v ∧ q ≠ pq ∧ q ≠ pn ∧ q ≠ t := fun q hq => ⟨fun e => hvA (e ▸ hq), nodes_ne (hN q hq).1 hpk (by omega), nodes_ne (hN q hq).1 hpn3 (by omega), nodes_ne (hN q hq).1 hk7 (by omega)⟩
    have htv : t ≠ v := hne t (by omega)
    have hpqv : pq ≠ v := hne pq (by omega)
    have hpnv : pn ≠ v := hne pn (by omega)
    have qA : ∀ q ∈ ino A, Q_9 q = Q q := fun q hq => by have h9 := hAn q hq; rw [q1o q h9.1, eQ2, x_up_n _ _ h9.2.2.1]
    have iA : ∀ q ∈ ino A, I1 q = I q := fun q hq => by have h9 := hAn q hq; rw [i1o q h9.1, eI2, x_u2_a _ _ h9.2.1]
    have kA : ∀ q ∈ ino A, K_9 q = K q := fun q hq => k1o q (hAn q hq).1
    have hT1 : TP K_9 Q_9 A (Q t 1) := hT0.congr (fun q hq => by rw [qA q hq]; exact ⟨kA q hq, rfl, rfl⟩)
    have hW1 : WT I1 A := hW0.congr (fun q hq => by rw [iA q hq])
    have hqt9 : Q_9 t = Q t := by rw [q1o t htv, eQ2, x_up_n _ _ htpn]
    have hqp9 : Q_9 pq = Q pq := by rw [q1o pq hpqv, eQ2, x_up_n _ _ (fun e => by rw [e] at hpk; omega)]
    have hz1 : TZ K_9 N Q_9 t pq pn := ⟨by rw [k1o t htv]; exact hk7, by rw [hqt9]; exact hq0, by rw [k1o pq hpqv]; exact hpk, by rw [hqp9]; exact hz.2.2.2.1, by rw [k1o pn hpnv]; exact hpn3, hz.2.2.2.2.2⟩
    have hpl1 : I1 pq 1 = nI Pw.length := by rw [i1o pq hpqv, eI2, x_u2_s]
    have hsg1 : SEG (Q_9 pn) 0 Pw := by rw [q1o pn hpnv, eQ2, x_up_s]; exact hsg
    have hro : RowOK K_9 N I1 Q_9 pq pn 40 Pw.length := hz1.2.2.ok hpl1 hPl
    rw [← hplg, plug_TP] at hT1
    rw [← hplg] at hW1
    obtain ⟨o9, hPL, hlo⟩ := hT1
    obtain rfl : o9 = none := hlo
    obtain ⟨hWF, -⟩ := plug_WT hW1
    have hpmF : (ino A).Perm (fad F) := by
      have h9 := plug_ino F (.leaf ())
      rw [hplg] at h9
      simpa [ino] using h9
    have hnF : (fad F).Nodup := hpmF.nodup_iff.mp hnA
    have hmF : ∀ x, x ∈ fad F ↔ x ∈ ino A := fun x => hpmF.mem_iff.symm
    have hrootq : Q_9 t 1 = Q t 1 := by rw [hqt9]
    rw [← hrootq] at hPL
    refine x_astore_n C (lv' := [_, _, _, _]) D_X7_insert_0.2.2.2.2.2.2.2.2.2.1 rfl (Nat.le_of_ble_eq_true rfl) (by first | rfl | exact x_ok_q rfl) (by first | exact Or.inr ⟨_, rfl⟩ | exact va_rf_or _ | exact Or.inl rfl) rfl ?_
    refine x_aload_n C D_X7_insert_0.2.2.2.2.2.2.2.2.2.2.1 rfl rfl (by first | exact Or.inr ⟨_, rfl⟩ | exact va_rf_or _ | exact Or.inl rfl) ?_
    refine x_getQ C (ci := 6) (k0 := 0) hz1.1 (by decide) rfl (by decide) in_X7 k_137 rfl rfl D_X7_insert_0.2.2.2.2.2.2.2.2.2.2.2 ?_
    refine x_eqr hz1.2.1 ?_
    refine x_aload_n C D_X7_insert_1.1 rfl rfl (by first | exact Or.inr ⟨_, rfl⟩ | exact va_rf_or _ | exact Or.inl rfl) ?_
    refine x_getQ C (ci := 6) (k0 := 0) hz1.1 (by decide) rfl (by decide) in_X7 k_137 rfl rfl D_X7_insert_1.2.1 ?_
    refine x_eqr hz1.2.1 ?_
    refine x_callVi C (y := yX4_length) (c_X4_length l G pq hz1.2.2.1) (ci := 3) hz1.2.2.1 (by decide) rfl rfl k_295 k_221 k_222 k_63 k_223 hd_X4_length ⟨(Nat.le_of_ble_eq_true rfl), (Nat.le_of_ble_eq_true rfl)⟩ rfl (by first | exact Nat.le_of_ble_eq_true rfl | simp [x_crf, Value.category]) rfl rfl D_X7_insert_1.2.2.1 ⟨(Nat.le_of_ble_eq_true rfl), (Nat.le_of_ble_eq_true rfl)⟩ (fun r_26 S_26 h_26 => ?_)
    obtain ⟨rfl, rfl⟩ := h_26
    refine x_eqi _ hpl1 ?_
    refine x_iconst C (v := nI 1) D_X7_insert_1.2.2.2.1 (by decide +kernel) ?_
    refine x_isub C D_X7_insert_1.2.2.2.2.1 ?_
    refine x_callVq C (y := yX4_at) (c_X4_at l G pq pn 40 Pw.length (nI Pw.length - nI 1) hro) (ci := 3) hz1.2.2.1 (by decide) rfl rfl k_296 k_273 k_274 k_63 k_275 hd_X4_at ⟨(Nat.le_of_ble_eq_true rfl), (Nat.le_of_ble_eq_true rfl)⟩ rfl (by first | exact Nat.le_of_ble_eq_true rfl | simp [x_crf, Value.category]) rfl rfl D_X7_insert_1.2.2.2.2.2.1 ⟨(Nat.le_of_ble_eq_true rfl), (Nat.le_of_ble_eq_true rfl)⟩ (fun r_31 S_31 h_31 => ?_)
    obtain ⟨hr31, rfl⟩ := h_31
    refine x_astore_n C (lv' := [_, _, _, _]) D_X7_insert_1.2.2.2.2.2.2.1 rfl (Nat.le_of_ble_eq_true rfl) (by first | rfl | exact x_ok_q rfl) (by first | exact Or.inr ⟨_, rfl⟩ | exact va_rf_or _ | exact Or.inl rfl) rfl ?_
    refine x_aload_n C D_X7_insert_1.2.2.2.2.2.2.2.1 rfl rfl (by first | exact Or.inr ⟨_, rfl⟩ | exact va_rf_or _ | exact Or.inl rfl) ?_
    have L_68 : ∀ (Q3 : Nat → Nat → Option Nat) (v3 : Option Value), (PLG K_9 Q3 F (Q3 t 1) (some v)) → (∀ a, a ∉ fad F → a ≠ t → Q3 a = Q_9 a) → (∀ j, j ≠ 1 → Q3 t j = Q_9 t j) → XW pP l eE rm_X7_insertN sS mM aA bB hH cC G Z 1 5 (K_9, N, I1, Q3, J) 68 [some (.ref t), some (.int (cv1 c)), some (.ref v), v3] [] := by
      intro Q3 v3 hPL3 q3 q3t
      have hvF : v ∉ fad F := fun h => hvA ((hmF v).mp h)
      have htF : t ∉ fad F := fun h => (hAn t ((hmF t).mp h)).2.2.2 rfl
      have hpqF : pq ∉ fad F := fun h => (hAn pq ((hmF pq).mp h)).2.1 rfl
      have hpnF : pn ∉ fad F := fun h => (hAn pn ((hmF pn).mp h)).2.2.1 rfl
      have hz3 : TZ K_9 N Q3 t pq pn := ⟨hz1.1, by rw [q3t 0 (by omega)]; exact hz1.2.1, hz1.2.2.1, by rw [q3 pq hpqF htpq.symm]; exact hz1.2.2.2.1, hz1.2.2.2.2⟩
      have hnd3 : (fad F ++ ino (.branch v (.leaf ()) (.leaf ()) : Tr)).Nodup := by
        simp only [ino, List.nil_append, List.nodup_append, List.mem_singleton]
        exact ⟨hnF, by simp, fun a ha b hb => by rw [hb]; exact fun e => hvF (e ▸ ha)⟩
      have hlen3 : (fad F ++ ino (.branch v (.leaf ()) (.leaf ()) : Tr)).length < 1000 := by
        have h9 := hpmF.length_eq
        rw [ino_len] at h9
        simp only [ino, List.nil_append, List.length_append, List.length_singleton]
        omega
      have hTv : TP K_9 Q3 (.branch v (.leaf ()) (.leaf ())) (some v) := ⟨rfl, hkv, by rw [q3 v hvF htv.symm, hvq.1]; rfl, by rw [q3 v hvF htv.symm, hvq.2]; rfl⟩
      have hWv : WT I1 (.branch v (.leaf ()) (.leaf ())) := ⟨i1v.2.2, trivial, trivial⟩
      have hsg3 : ∀ i f, F[i]? = some f → Q3 pn i = some f.1 := fun i f hi => by
        have hil : i < F.length := (List.getElem?_eq_some_iff.mp hi).1
        rw [q3 pn hpnF htpn.symm, ← Nat.zero_add i, hsg1 i (by omega), hPF, List.getElem?_map, hi]; rfl
      refine x_aload_n C D_X7_insert_3.1 rfl rfl (by first | exact Or.inr ⟨_, rfl⟩ | exact va_rf_or _ | exact Or.inl rfl) ?_
      refine x_aload_n C D_X7_insert_3.2.1 rfl rfl (by first | exact Or.inr ⟨_, rfl⟩ | exact va_rf_or _ | exact Or.inl rfl) ?_
      refine x_getQ C (ci := 6) (k0 := 0) hz1.1 (by decide) rfl (by decide) in_X7 k_137 rfl rfl D_X7_insert_3.2.2.1 ?_
      refine x_eqr (show Q3 t 0 = some pq by rw [q3t 0 (by omega)]; exact hz1.2.1) ?_
      refine x_callVi C (y := yX4_length) (c_X4_length l G pq hz1.2.2.1) (ci := 3) hz1.2.2.1 (by decide) rfl rfl k_295 k_221 k_222 k_63 k_223 hd_X4_length ⟨(Nat.le_of_ble_eq_true rfl), (Nat.le_of_ble_eq_true rfl)⟩ rfl (by first | exact Nat.le_of_ble_eq_true rfl | simp [x_crf, Value.category]) rfl rfl D_X7_insert_3.2.2.2.1 ⟨(Nat.le_of_ble_eq_true rfl), (Nat.le_of_ble_eq_true rfl)⟩ (fun r_73 S_73 h_73 => ?_)
      obtain ⟨rfl, rfl⟩ := h_73
      refine x_eqi _ hpl1 ?_
      refine x_iconst C (v := nI 1) D_X7_insert_3.2.2.2.2.1 (by decide +kernel) ?_
      refine x_isub C D_X7_insert_3.2.2.2.2.2.1 ?_
      refine x_callVv C (y := yX7_balanceUpFrom) (c_X7_balanceUpFrom l G t pq pn Pw.length _ F (.branch v (.leaf ()) (.leaf ())) (some v) hz3 (by rw [hFl]) hnd3 hlen3 hPL3 hTv hWv hWF hpl1 (by omega) hPl hsg3) (ci := 6) hz1.1 (by decide) rfl rfl k_301 k_303 k_24 k_64 k_304 hd_X7_balanceUpFrom ⟨(Nat.le_of_ble_eq_true rfl), (Nat.le_of_ble_eq_true rfl)⟩ rfl (by first | exact Nat.le_of_ble_eq_true rfl | simp [x_crf, Value.category]) rfl rfl D_X7_insert_3.2.2.2.2.2.2.1 ⟨(Nat.le_of_ble_eq_true rfl), (Nat.le_of_ble_eq_true rfl)⟩ (fun _ S_78 h_78 => ?_)
      obtain ⟨I5, Q5, rfl, b1, b2, b3, b4, b5⟩ := h_78
      refine ret _ _ _ _ _ rfl D_X7_insert_3.2.2.2.2.2.2.2 (Nat.le_of_ble_eq_true rfl) (Nat.le_of_ble_eq_true rfl) ?_
      have hm9 : ∀ q, q ∉ ino A → q ≠ v → q ∉ fad F ++ ino (.branch v (.leaf ()) (.leaf ()) : Tr) := fun q h1 h2 h3 => by
        rcases List.mem_append.mp h3 with h | h
        · exact h1 ((hmF q).mp h)
        · simp [ino] at h; exact h2 h
      rw [eF] at b1 b2 b5
      refine ⟨v, K_9, I5, Q5, rfl, fv, eK_9, b1, b2, ?_, ?_, ?_, ?_, ?_, ?_⟩
      · rw [b3 v 0 (fun e => by omega) (fun e => by omega)]; exact i1v.1
      · intro q h1 h2 h3 h4
        funext j
        rw [b3 q j (fun e => hm9 q h1 h2 e.1) (fun e => h4 e.1), i1o q h2, eI2, x_u2_a _ _ h3]
      · intro q j hq hj
        rw [b3 q j (fun e => hj e.2) (fun e => hj e.2), iA q hq]
      · intro q h1 h2 h3 h4
        funext j
        rw [b4 q j (hm9 q h1 h2) (fun e => h4 e.1), q3 q (fun h => h1 ((hmF q).mp h)) h4, q1o q h2, eQ2, x_up_n _ _ h3]
      · rw [b4 t 0 (hm9 t (fun h => (hAn t h).2.2.2 rfl) htv) (fun e => by omega), q3t 0 (by omega), hqt9]
      · rw [b5, i1o t htv, eI2, x_u2_a _ _ htpq]
    refine x_ifnonnull C 47 D_X7_insert_1.2.2.2.2.2.2.2.2.1 (by decide) (fun p0 e_36 => ?_) (fun e_36 => ?_)
    · skip
      subst e_36
      obtain ⟨F0, f, hFe⟩ : ∃ F0 f, F = F0 ++ [f] := by
        rcases fr_split F with h | h
        · rw [h] at hFl
          rw [← hFl, atv_out _ (Or.inl (by decide)) (by omega)] at hr31
          cases hr31
        · exact h
      have hp0 : p0 = f.1 := by
        have h9 : Pw.length = F0.length + 1 := by rw [← hFl, hFe]; simp
        rw [h9, pk_sub (by omega), Nat.add_sub_cancel, atv_in _ (by omega) (by omega), ← Nat.zero_add F0.length, hsg1 F0.length (by omega), hPF, hFe] at hr31
        simpa using hr31
      subst hFe
      have hp0A : p0 ∈ ino A := by rw [hp0]; exact (hmF f.1).mp (by rw [fad_app]; simp [fad])
      have hp0n := hN p0 hp0A
      have hp09 : K_9 p0 = 3 := by rw [kA p0 hp0A]; exact hp0n.1
      have hdir : f.2.1 = decide (c < cd p0) := by rw [hp0]; exact fp_dir cd c A f (by rw [← eF]; simp)
      have hp0a := hAn p0 hp0A
      refine x_iload_n C D_X7_insert_2.2.1 rfl rfl ?_
      refine x_aload_n C D_X7_insert_2.2.2.1 rfl rfl (by first | exact Or.inr ⟨_, rfl⟩ | exact va_rf_or _ | exact Or.inl rfl) ?_
      refine x_getI C (ci := 2) (k0 := 0) hp09 (by decide) rfl (by decide) in_X3 k_609 rfl rfl D_X7_insert_2.2.2.2.1 ?_
      refine x_eqi _ (show I1 p0 0 = cv1 (cd p0) by rw [iA p0 hp0A]; exact hp0n.2.1) ?_
      refine x_icmp_ge C 63 D_X7_insert_2.2.2.2.2.1 (by decide) (fun c_52 => ?_) (fun c_52 => ?_)
      · skip
        have c1 : ¬ c < cd p0 := fun h => by
          have h1 := i32_le.mp c_52
          rw [cv1_toInt hc, cv1_toInt hp0n.2.2] at h1
          omega
        have hb : f.2.1 = false := by rw [hdir]; simp [c1]
        refine x_aload_n C D_X7_insert_2.2.2.2.2.2.2.2.2.2.1 rfl rfl (by first | exact Or.inr ⟨_, rfl⟩ | exact va_rf_or _ | exact Or.inl rfl) ?_
        refine x_aload_n C D_X7_insert_2.2.2.2.2.2.2.2.2.2.2.1 rfl rfl (by first | exact Or.inr ⟨_, rfl⟩ | exact va_rf_or _ | exact Or.inl rfl) ?_
        refine x_putQ C (ci := 2) (k0 := 4) hp09 (by decide) rfl (by decide) in_X3 k_623 rfl tyX3 tyX3_ok nmX3 rfl (by first | exact rfl | exact (rfl : _ = va_rf (some _)) | exact (rfl : _ = va_rf none)) (by rfl) (by first | rfl | exact x_narq _ _) (by first | rfl | exact x_fitq _ _) rfl D_X7_insert_2.2.2.2.2.2.2.2.2.2.2.2 (fun Q_65 eQ_65 => ?_)
        refine L_68 Q_65 _ ?_ (fun a h1 h2 => by rw [eQ_65, x_u2_a _ _ (show a ≠ p0 from fun e => h1 ((hmF a).mpr (e ▸ hp0A)))]) (fun j hj => by rw [eQ_65, x_u2_a _ _ hp0a.2.2.2.symm])
        rw [eQ_65, x_u2_a _ _ hp0a.2.2.2.symm]
        refine hPL.relink hnF (by rw [hb, hp0]; exact x_u2_s _ _ _ _) (fun a j ha haj hj => ?_)
        by_cases e : a = p0
        · subst e; exact x_u2_j _ _ (fun e2 => haj (by rw [hb, e2, hp0]; rfl))
        · rw [x_u2_a _ _ e]
      · skip
        have c1 : c < cd p0 := by
          rw [i32_le, cv1_toInt hc, cv1_toInt hp0n.2.2] at c_52
          omega
        have hb : f.2.1 = true := by rw [hdir]; simp [c1]
        refine x_aload_n C D_X7_insert_2.2.2.2.2.2.1 rfl rfl (by first | exact Or.inr ⟨_, rfl⟩ | exact va_rf_or _ | exact Or.inl rfl) ?_
        refine x_aload_n C D_X7_insert_2.2.2.2.2.2.2.1 rfl rfl (by first | exact Or.inr ⟨_, rfl⟩ | exact va_rf_or _ | exact Or.inl rfl) ?_
        refine x_putQ C (ci := 2) (k0 := 3) hp09 (by decide) rfl (by decide) in_X3 k_620 rfl tyX3 tyX3_ok nmX3 rfl (by first | exact rfl | exact (rfl : _ = va_rf (some _)) | exact (rfl : _ = va_rf none)) (by rfl) (by first | rfl | exact x_narq _ _) (by first | rfl | exact x_fitq _ _) rfl D_X7_insert_2.2.2.2.2.2.2.2.1 (fun Q_57 eQ_57 => ?_)
        refine x_goto C 68 D_X7_insert_2.2.2.2.2.2.2.2.2.1 (by decide) ?_
        refine L_68 Q_57 _ ?_ (fun a h1 h2 => by rw [eQ_57, x_u2_a _ _ (show a ≠ p0 from fun e => h1 ((hmF a).mpr (e ▸ hp0A)))]) (fun j hj => by rw [eQ_57, x_u2_a _ _ hp0a.2.2.2.symm])
        rw [eQ_57, x_u2_a _ _ hp0a.2.2.2.symm]
        refine hPL.relink hnF (by rw [hb, hp0]; exact x_u2_s _ _ _ _) (fun a j ha haj hj => ?_)
        by_cases e : a = p0
        · subst e; exact x_u2_j _ _ (fun e2 => haj (by rw [hb, e2, hp0]; rfl))
        · rw [x_u2_a _ _ e]
    · skip
      subst e_36
      have hF0 : F = [] := by
        rcases fr_split F with h | ⟨F0, f, h⟩
        · exact h
        · have h9 : Pw.length = F0.length + 1 := by rw [← hFl, h]; simp
          rw [h9, pk_sub (by omega), Nat.add_sub_cancel, atv_in _ (by omega) (by omega), ← Nat.zero_add F0.length, hsg1 F0.length (by omega), hPF, h] at hr31
          simp at hr31
      subst hF0
      refine x_aload_n C D_X7_insert_1.2.2.2.2.2.2.2.2.2.1 rfl rfl (by first | exact Or.inr ⟨_, rfl⟩ | exact va_rf_or _ | exact Or.inl rfl) ?_
      refine x_aload_n C D_X7_insert_1.2.2.2.2.2.2.2.2.2.2.1 rfl rfl (by first | exact Or.inr ⟨_, rfl⟩ | exact va_rf_or _ | exact Or.inl rfl) ?_
      refine x_putQ C (ci := 6) (k0 := 1) hz1.1 (by decide) rfl (by decide) in_X7 k_138 rfl tyX7 tyX7_ok nmX7 rfl (by first | exact rfl | exact (rfl : _ = va_rf (some _)) | exact (rfl : _ = va_rf none)) (by rfl) (by first | rfl | exact x_narq _ _) (by first | rfl | exact x_fitq _ _) rfl D_X7_insert_1.2.2.2.2.2.2.2.2.2.2.2 (fun Q_41 eQ_41 => ?_)
      refine x_goto C 68 D_X7_insert_2.1 (by decide) ?_
      refine L_68 Q_41 _ ?_ (fun a h1 h2 => by rw [eQ_41, x_u2_a _ _ h2]) (fun j hj => by rw [eQ_41, x_u2_j _ _ hj])
      rw [eQ_41, x_u2_s]; rfl
  · skip
    exact absurd e_5 (by simp)
    --end
