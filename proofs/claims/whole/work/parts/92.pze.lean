theorem heavy_max (a b c : Nat) : (2 * a < 3 * b ∨ 2 * a < 3 * c) ↔ 2 * a < 3 * max b c := by omega
/-- the tree of points of the class and the model's rows -/
def PI (n : Nat) (pc ps cd : Nat → Nat) (A : Tr) : Prop := RT n pc ps cd A ∧ BSF od5 cd A 0 ∧ (ino A).Nodup ∧ (∀ i j, i < n → j < n → pc i = pc j → i = j) ∧ (∀ i, i < n → 0 < ps i) ∧ PBAL A ∧ (∀ i, i < n → pc i < 10000)
theorem PI_sz {n : Nat} {pc ps cd : Nat → Nat} {A : Tr} (h : PI n pc ps cd A) : sz A = n := RT_full h.1 h.2.2.2.2.1
theorem PI_ht {n : Nat} {pc ps cd : Nat → Nat} {A : Tr} (h : PI n pc ps cd A) (hn : n ≤ 121) : ht A ≤ 12 := PBAL_ht h.2.2.2.2.2.1 (by rw [PI_sz h]; omega)
theorem RT_congr {n : Nat} {c c' f f' cd : Nat → Nat} {A : Tr} (h : RT n c f cd A) (hc : ∀ i, i < n → c i = c' i ∧ f i = f' i) : RT n c' f' cd A := by
  unfold RT at h ⊢
  rw [← rwl_congr hc]; exact h
theorem RT_swap {n : Nat} {c f f' cd : Nat → Nat} {F : List Fr} {S T : Tr} (hS : RT n c f cd (plug F S)) (hT : RT n c f' cd (plug F T)) (hu : ∀ i j, i < n → j < n → c i = c j → i = j) (hp : ∀ i, i < n → 0 < f i ∧ 0 < f' i) : ∀ i, i < n → bel (f' i) (hpl F 1) = bel (f i) (hpl F 1) ∧ (bel (f' i) (hpl F 1) = false → f' i = f i) := by
  intro i hi
  have h1 := RT_mem hS hi (hp i hi).1
  have h2 := RT_mem hT hi (hp i hi).2
  rcases List.mem_append.mp ((plc_plug cd T F 1).mem_iff.mp h2) with h3 | h3
  · have h4 : (c i, f' i) ∈ plc cd (plug F S) 1 := (plc_plug cd S F 1).mem_iff.mpr (List.mem_append_left _ h3)
    have h5 := (RT_at hS hu hi h4).1
    rw [h5]
    exact ⟨rfl, fun _ => rfl⟩
  · have h4 : bel (f' i) (hpl F 1) = true := plc_bel (hpl_pos F (by omega)) _ h3
    rw [h4]
    refine ⟨?_, fun z => by cases z⟩
    rcases List.mem_append.mp ((plc_plug cd S F 1).mem_iff.mp h1) with h5 | h5
    · exfalso
      have h6 : (c i, f i) ∈ plc cd (plug F T) 1 := (plc_plug cd T F 1).mem_iff.mpr (List.mem_append_left _ h5)
      have h7 := (RT_at hT hu hi h6).1
      have h8 := pfr_nb (p := 1) (by omega) _ h5
      simp only [] at h8
      rw [h7, h8] at h4; cases h4
    · exact (plc_bel (hpl_pos F (by omega)) _ h5).symm
theorem PI_add {n : Nat} {pc ps cd : Nat → Nat} {A : Tr} {cc v : Nat} (h : PI n pc ps cd A) (hn : n ≤ 120) (hcc : cc < 10000) (hv : v ∉ ino A) (hcode : ∀ a ∈ ino A, cd a ≠ cc) :
    leafX (fun p => lastF (fun i => decide (ps i = p)) n) (fun p k => decide (od5 (dep p) cc < od5 (dep p) (pc k))) 28 1 = some (hpl (fpG od5 cd cc A 0) 1) ∧ 0 < hpl (fpG od5 cd cc A 0) 1 ∧ hpl (fpG od5 cd cc A 0) 1 < 2 ^ 20 ∧
    ∃ (OP : Nat → Nat → Bool) (PS : Nat → Nat → Nat), (0 < topF (hvF (n + 1) (x_up ps n (hpl (fpG od5 cd cc A 0) 1))) 26 (hpl (fpG od5 cd cc A 0) 1 / 2) 0 → (∀ i, i < n + 1 → OP 0 i = bel (x_up ps n (hpl (fpG od5 cd cc A 0) 1) i) (topF (hvF (n + 1) (x_up ps n (hpl (fpG od5 cd cc A 0) 1))) 26 (hpl (fpG od5 cd cc A 0) 1 / 2) 0)) ∧ (∀ i, i < n + 1 → PS 0 i = if OP 0 i = true then topF (hvF (n + 1) (x_up ps n (hpl (fpG od5 cd cc A 0) 1))) 26 (hpl (fpG od5 cd cc A 0) 1 / 2) 0 else x_up ps n (hpl (fpG od5 cd cc A 0) 1) i) ∧ LOR (n + 1) (x_up pc n cc) OP PS 8) ∧
    PI (n + 1) (x_up pc n cc) (fun i => if 0 < topF (hvF (n + 1) (x_up ps n (hpl (fpG od5 cd cc A 0) 1))) 26 (hpl (fpG od5 cd cc A 0) 1 / 2) 0 then PS 8 i else x_up ps n (hpl (fpG od5 cd cc A 0) 1) i) (x_up cd v cc) (rebt od5 (x_up cd v cc) cc (insA od5 cd cc v A 0) (rdep5 (x_up cd v cc) cc (insA od5 cd cc v A 0) (spath od5 cd cc A 0).length)) ∧
    (if 0 < topF (hvF (n + 1) (x_up ps n (hpl (fpG od5 cd cc A 0) 1))) 26 (hpl (fpG od5 cd cc A 0) 1 / 2) 0 then cnW (n + 1) (x_up ps n (hpl (fpG od5 cd cc A 0) 1)) (topF (hvF (n + 1) (x_up ps n (hpl (fpG od5 cd cc A 0) 1))) 26 (hpl (fpG od5 cd cc A 0) 1 / 2) 0) else 0) = rebw od5 (x_up cd v cc) cc (insA od5 cd cc v A 0) (rdep5 (x_up cd v cc) cc (insA od5 cd cc v A 0) (spath od5 cd cc A 0).length) := by
  have hszA := PI_sz h
  have hht := PI_ht h (by omega)
  obtain ⟨hR, hB, hnd, hu, hsp, hbal, hpc⟩ := h
  obtain ⟨F, eF⟩ : ∃ F, F = fpG od5 cd cc A 0 := ⟨_, rfl⟩
  obtain ⟨X, eX⟩ : ∃ X : Tr, X = .branch v (.leaf ()) (.leaf ()) := ⟨_, rfl⟩
  obtain ⟨cd1, ec⟩ : ∃ cd1, cd1 = x_up cd v cc := ⟨_, rfl⟩
  obtain ⟨A1, eA1⟩ : ∃ A1, A1 = insA od5 cd cc v A 0 := ⟨_, rfl⟩
  obtain ⟨p1, p2⟩ := insA_plug (od := od5) (v := v) A 0 hcode
  rw [← eF] at p1 p2
  rw [← eA1, ← eX] at p1
  have hld := fpG_spath (od := od5) A 0 hcode
  rw [← eF] at hld
  have hleaf := leafX_ok (cc := cc) A [] 28 hR hcode (by omega)
  simp only [List.nil_append, List.length_nil] at hleaf
  rw [← eF] at hleaf
  have hFl := plug_ht F (.leaf ())
  rw [p2] at hFl
  simp only [ht] at hFl
  have hvFF : v ∉ fad F := fun hm => hv (by rw [← p2]; exact (plug_ino F _).mem_iff.mpr (List.mem_append_left _ hm))
  have cdv : ∀ q ∈ ino A, cd1 q = cd q := fun q hq => by rw [ec]; exact x_up_n _ _ (fun e => hv (e ▸ hq))
  have cdF : ∀ q ∈ fad F, cd1 q = cd q := fun q hq => cdv q (by rw [← p2]; exact (plug_ino F _).mem_iff.mpr (List.mem_append_left _ hq))
  have cvv : cd1 v = cc := by rw [ec]; exact x_up_s _ _ _
  have hpp := hpl_pos F (p := 1) (by omega)
  obtain ⟨pl, epl⟩ : ∃ pl, pl = hpl F 1 := ⟨_, rfl⟩
  rw [← eF, ← epl, ← ec, ← eA1, hld]
  rw [← epl] at hleaf
  have hR1 : RT (n + 1) (x_up pc n cc) (x_up ps n pl) cd1 A1 := by
    unfold RT
    rw [rwl_succ, x_up_s, x_up_s, if_pos (by rw [epl]; exact hpp), rwl_congr (c' := pc) (f' := ps) (fun i hi => ⟨x_up_n _ _ (by omega), x_up_n _ _ (by omega)⟩), p1]
    refine List.Perm.trans ?_ (plc_plug cd1 X F 1).symm
    have h1 := hR
    unfold RT at h1
    rw [← p2] at h1
    have h2 := h1.trans (plc_plug cd _ F 1)
    simp only [plc, List.append_nil] at h2
    rw [eX]
    simp only [plc, List.nil_append]
    rw [pfr_cd cdF, cvv, epl]
    exact h2.append_right _
  have hcn : ∀ i, i < n → pc i ≠ cc := fun i hi e => by
    obtain ⟨q, hq, e2⟩ := (RT_pos hR hu hi).mp (hsp i hi)
    exact hcode q hq (e2.trans e)
  have hu1 : ∀ i j, i < n + 1 → j < n + 1 → x_up pc n cc i = x_up pc n cc j → i = j := fun i j hi hj e => by
    by_cases e1 : i = n
    · by_cases e2 : j = n
      · omega
      · rw [e1, x_up_s, x_up_n _ _ e2] at e
        exact absurd e.symm (hcn j (by omega))
    · by_cases e2 : j = n
      · rw [e2, x_up_s, x_up_n _ _ e1] at e
        exact absurd e (hcn i (by omega))
      · rw [x_up_n _ _ e1, x_up_n _ _ e2] at e
        exact hu i j (by omega) (by omega) e
  have hsp1 : ∀ i, i < n + 1 → 0 < x_up ps n pl i := fun i hi => by
    by_cases e1 : i = n
    · rw [e1, x_up_s, epl]; exact hpp
    · rw [x_up_n _ _ e1]; exact hsp i (by omega)
  have hpc1 : ∀ i, i < n + 1 → x_up pc n cc i < 10000 := fun i hi => by
    by_cases e1 : i = n
    · rw [e1, x_up_s]; exact hcc
    · rw [x_up_n _ _ e1]; exact hpc i (by omega)
  have hcb : ∀ a ∈ ino A, cd a < 10000 := fun a ha => by
    obtain ⟨k, k1, k2, k3, -⟩ := RT_row hR ha
    rw [← k3]; exact hpc k k1
  have hB1 : BSF od5 cd1 A1 0 := by
    rw [eA1]
    exact BSF_ins cvv hB cdv (fun a ha d e => hcode a ha (od5_inj e (hcb a ha) hcc))
  have hnd1 : (ino A1).Nodup := by rw [eA1]; exact insA_nodup A 0 hnd hv
  have hsz1 : sz A1 = n + 1 := by rw [eA1, insA_sz, hszA]
  have hX1 : ht X = 1 := by rw [eX]; rfl
  have hht1 : ht A1 ≤ max (ht A) (F.length + 1) := by
    have h9 := ht_plug_max F (.leaf ()) X
    rw [p2, hX1, ← p1] at h9
    exact h9
  have hpl20 : pl < 2 ^ 20 := by
    have h1 := RT_lt hR1 (k := 20) (by omega) n (by omega)
    rwa [x_up_s] at h1
  refine ⟨hleaf, by rw [epl]; exact hpp, hpl20, ?_⟩
  have hFOL : FOL od5 cd1 cc F 0 := by
    have h1 := fpG_FOL (od := od5) (cd := cd) (c := cc) A 0
    rw [← eF] at h1
    exact FOL_cd h1 cdF
  have hw : ∀ i, i ≤ F.length → subp od5 cd1 cc A1 0 i = plug (F.drop i) X := fun i hi => by rw [p1]; exact subp_plug hFOL hi
  have hsplit : ∀ i, A1 = plug (F.take i) (plug (F.drop i) X) := fun i => by rw [p1]; exact plug_td F X i
  obtain ⟨hvy, ehv⟩ : ∃ hvy : Nat → Bool, hvy = fun j => decide (2 * sz (subp od5 cd1 cc A1 0 j) < 3 * max (sz (ltr (subp od5 cd1 cc A1 0 j))) (sz (rtr (subp od5 cd1 cc A1 0 j)))) := ⟨_, rfl⟩
  have hlite : ∀ i, i ≤ F.length → hvy i = false → lite (plug (F.drop i) X) := fun i hi e => by
    rw [ehv] at e
    simp only [decide_eq_false_iff_not] at e
    rw [hw i hi] at e
    unfold lite; omega
  obtain ⟨FD, eFD⟩ : ∃ FD, FD = topF (hvF (n + 1) (x_up ps n pl)) 26 (pl / 2) 0 := ⟨_, rfl⟩
  have hrd : rdep5 cd1 cc A1 F.length = fstF hvy F.length 0 := by rw [ehv]; rfl
  have hFD : FD = match fstF hvy F.length 0 with
      | some k => hpl (F.take k) 1
      | none => 0 := by
    rcases Nat.eq_zero_or_pos F.length with e0 | e0
    · have : F = [] := List.eq_nil_of_length_eq_zero e0
      rw [eFD, epl, this]
      simp only [hpl, List.length_nil, fstF]
      exact topF_0
    · obtain ⟨ld, eld⟩ : ∃ ld, F.length = ld + 1 := ⟨F.length - 1, by omega⟩
      have e1 : pl / 2 = hpl (F.take ld) 1 := by
        have h9 := hpl_half (F := F) (j := ld) (by omega)
        rw [epl, ← h9, List.take_of_length_le (by omega)]
      rw [eFD, e1, eld]
      refine topF_fst (u := fun i => hpl (F.take i) 1) ld 26 0 (by omega) (fun i hi => ⟨?_, hpl_pos _ (by omega)⟩) (fun i hi => hpl_half (by omega)) (by simp [hpl])
      have h1 := hR1
      rw [hsplit i] at h1
      have h2 := RT_hole h1
      obtain ⟨g, G, eG⟩ : ∃ g G, F.drop i = g :: G := by
        cases e : F.drop i with
        | nil =>
          have := congrArg List.length e
          rw [List.length_drop, List.length_nil] at this; omega
        | cons g G => exact ⟨g, G, rfl⟩
      obtain ⟨q, l, r, em⟩ := mkf_br g (plug G X)
      have e2 : plug (F.drop i) X = .branch q l r := by rw [eG]; exact em
      rw [e2] at h1 h2
      have h3 := RT_l h1
      have h4 := RT_r h1
      rw [ehv]
      simp only []
      unfold hvF
      rw [h2, h3, h4, hw i (by omega), e2]
      simp only [ltr, rtr]
      rw [Bool.eq_iff_iff]
      simp only [Bool.or_eq_true, decide_eq_true_eq]
      exact (heavy_max _ _ _).trans (decide_eq_true_iff).symm
  rw [← eFD, hrd]
  have hXs : PBAL X := by rw [eX]; simp [PBAL, sz]
  have hbal0 : PBAL (plug F (.leaf ())) := by rw [p2]; exact hbal
  cases hf : fstF hvy F.length 0 with
  | none =>
    rw [hf] at hFD
    simp only [] at hFD
    have hnl := fstF_none hf
    refine ⟨fun _ _ => false, fun _ _ => 0, fun z => by omega, ⟨?_, hB1, hnd1, hu1, fun i hi => ?_, ?_, hpc1⟩, ?_⟩
    · simp only [hFD, Nat.lt_irrefl, if_false]; exact hR1
    · simp only [hFD, Nat.lt_irrefl, if_false]; exact hsp1 i hi
    · show PBAL A1
      rw [p1]
      exact PBAL_plug hbal0 hXs (fun i hi => hlite i (by omega) (hnl i (by omega) (by omega)))
    · simp only [hFD, Nat.lt_irrefl, if_false]; rfl
  | some k =>
    rw [hf] at hFD
    simp only [] at hFD
    obtain ⟨-, k1, k2, k3⟩ := fstF_some hf
    have hFp : 0 < FD := by rw [hFD]; exact hpl_pos _ (by omega)
    obtain ⟨S, eS⟩ : ∃ S, S = plug (F.drop k) X := ⟨_, rfl⟩
    have hsk := hsplit k
    rw [← eS] at hsk
    have hszS : sz S ≤ n + 1 := by
      have h9 := sz_plug (F.take k) S
      rw [← hsk, hsz1] at h9; omega
    have hmS : ∀ a ∈ ino S, a ∈ ino A1 := fun a ha => by rw [hsk]; exact (plug_ino _ _).mem_iff.mpr (List.mem_append_right _ ha)
    have hndS : (ino S).Nodup := by
      have h9 := hnd1
      rw [hsk] at h9
      exact (List.nodup_append.mp ((plug_ino _ _).nodup_iff.mp h9)).2.1
    have hcod := RT_codes hR1 hsp1
    have hcnd := hcod.nodup_iff.mpr (inj_nodup hu1)
    have hb1 : ∀ a ∈ ino A1, cd1 a < 10000 := fun a ha => by
      obtain ⟨j, j1, j2, j3, -⟩ := RT_row hR1 ha
      rw [← j3]; exact hpc1 j j1
    obtain ⟨T, eT⟩ : ∃ T, T = kdl od5 cd1 8 k (ino S) := ⟨_, rfl⟩
    have hl8 : (ino S).length < 2 ^ 8 := by rw [ino_len]; omega
    obtain ⟨t1, t2⟩ := kdl_kd (cd := cd1) 8 k (ino S) hl8 hndS (fun u hu => hb1 u (hmS u hu)) (fun u hu v hv e => nodup_map_inj hcnd (hmS u hu) (hmS v hv) e)
    have hTp : (ino T).Perm (ino S) := by rw [eT]; exact kdl_perm 8 k _ hl8
    have hT8 : ht T ≤ 8 := by rw [eT]; exact kdl_ht 8 k _
    have hszT : sz T = sz S := by rw [eT, kdl_sz _ _ _ hl8, ino_len]
    rw [← eT] at t1 t2
    have hlt : (F.take k).length = k := by rw [List.length_take]; omega
    have hTA : (ino (plug (F.take k) T)).Perm (ino A1) := by
      rw [hsk]
      exact (plug_ino _ _).trans ((hTp.append_left _).trans (plug_ino _ _).symm)
    obtain ⟨f', g1, g2⟩ := RT_exists (c := x_up pc n cc) (cd := cd1) (A := plug (F.take k) T) ((hTA.map cd1).trans hcod) hu1
    have hR2 := hR1
    rw [hsk] at hR2
    have hsw := RT_swap hR2 g1 hu1 (fun i hi => ⟨hsp1 i hi, g2 i hi⟩)
    rw [← hFD] at hsw
    have htT : ht (plug (F.take k) T) ≤ 20 := by
      have h1 := ht_plug_max (F.take k) (plug (F.drop k) (.leaf ())) T
      rw [← plug_td, p2, hlt] at h1
      omega
    obtain ⟨o1, o2, o3, o4⟩ := LOR_ok g1 hFD (fun i hi => ⟨g2 i hi, RT_lt g1 htT i hi⟩) (by rw [hlt]; exact t1) t2 hT8
    have e3 : rebt od5 cd1 cc A1 (some k) = plug (F.take k) T := by
      show updp od5 cd1 cc (kdl od5 cd1 8 k (ino (subp od5 cd1 cc A1 0 k))) A1 0 k = _
      rw [hw k (by omega), ← eS, ← eT, p1]
      exact updp_plug hFOL (by omega)
    rw [e3]
    refine ⟨opF f' FD, psF f' FD, fun _ => ⟨fun i hi => by rw [o3, (hsw i hi).1], fun i hi => ?_, o1⟩, ⟨?_, ?_, ?_, hu1, fun i hi => ?_, ?_, hpc1⟩, ?_⟩
    · rw [o4]
      split
      · rfl
      · rename_i e
        rw [o3] at e
        exact (hsw i hi).2 (by simpa using e)
    · refine RT_congr g1 (fun i hi => ⟨rfl, ?_⟩)
      rw [if_pos hFp, o2 i hi]
    · refine BSF_sub (S := S) (fun a ha => ⟨a, hTp.mem_iff.mp ha, rfl⟩) (by rw [← hsk]; exact hB1) ?_
      rw [hlt, Nat.zero_add]; exact t1
    · exact hTA.nodup_iff.mpr hnd1
    · simp only [if_pos hFp]
      rw [o2 i hi]; exact g2 i hi
    · refine PBAL_plug (X0 := plug (F.drop k) (.leaf ())) (by rw [← plug_td]; exact hbal0) (HALF_PBAL t2) (fun i hi => ?_)
      rw [hlt] at hi
      have h1 := hlite i (by omega) (k3 i (by omega) hi)
      have h2 : plug (F.drop i) X = plug ((F.take k).drop i) S := by
        rw [eS, ← plug_app]
        congr 1
        have h3 := congrArg (List.drop i) (List.take_append_drop k F)
        rw [List.drop_append_of_le_length (by omega)] at h3
        exact h3.symm
      rw [h2] at h1
      refine lite_sz hszT (fun e => ?_) h1
      have := congrArg List.length e
      rw [List.length_drop, hlt, List.length_nil] at this; omega
    · rw [if_pos hFp]
      show _ = sz (subp od5 cd1 cc A1 0 k)
      rw [hw k (by omega), ← eS, hFD]
      exact RT_hole hR2
theorem PI_drop {n : Nat} {pc ps cd : Nat → Nat} {A : Tr} {al p : Nat → Bool} (h : PI n pc ps cd A) (hn : n ≤ 121) (hal : ∀ i, i < n → ∀ a ∈ ino A, cd a = pc i → p a = al i) :
    ((ino A).filter p).length = cn al n ∧ ∃ (OP : Nat → Nat → Bool) (PS : Nat → Nat → Nat), (∀ i, i < cn al n → OP 0 i = true) ∧ (∀ i, i < cn al n → PS 0 i = 1) ∧ LOR (cn al n) (fun j => pc (selF al n j)) OP PS 8 ∧ PI (cn al n) (fun j => pc (selF al n j)) (PS 8) cd (kdl od5 cd 8 0 ((ino A).filter p)) := by
  have hszA := PI_sz h
  obtain ⟨hR, hB, hnd, hu, hsp, hbal, hpc⟩ := h
  have hcod := RT_codes hR hsp
  have hcnd := hcod.nodup_iff.mpr (inj_nodup hu)
  have hmf : ∀ a ∈ (ino A).filter p, a ∈ ino A := fun a ha => (List.mem_filter.mp ha).1
  have hlen : ((ino A).filter p).length ≤ n := by
    have := List.length_filter_le p (ino A)
    rw [ino_len, hszA] at this; exact this
  have hu1 : ∀ i j, i < cn al n → j < cn al n → pc (selF al n i) = pc (selF al n j) → i = j := fun i j hi hj e => by
    have h1 := hu _ _ (selF_ok hi).1 (selF_ok hj).1 e
    have h2 := (selF_ok hi).2.2
    rw [h1, (selF_ok hj).2.2] at h2
    exact h2.symm
  have hpm : (((ino A).filter p).map cd).Perm ((List.range (cn al n)).map (fun j => pc (selF al n j))) := by
    rw [sel_list pc n]
    refine (List.perm_ext_iff_of_nodup ?_ ?_).mpr (fun x => ?_)
    · exact hcnd.sublist (List.Sublist.map _ List.filter_sublist)
    · exact (inj_nodup hu).sublist (List.Sublist.map _ List.filter_sublist)
    · constructor
      · intro hx
        obtain ⟨a, ha, rfl⟩ := List.mem_map.mp hx
        obtain ⟨h1, h2⟩ := List.mem_filter.mp ha
        obtain ⟨k, k1, k2, k3, -⟩ := RT_row hR h1
        exact List.mem_map.mpr ⟨k, List.mem_filter.mpr ⟨List.mem_range.mpr k1, by rw [← hal k k1 a h1 k3.symm]; exact h2⟩, k3⟩
      · intro hx
        obtain ⟨i, hi, rfl⟩ := List.mem_map.mp hx
        obtain ⟨h1, h2⟩ := List.mem_filter.mp hi
        have hin := List.mem_range.mp h1
        obtain ⟨a, ha, e⟩ := (RT_pos hR hu hin).mp (hsp i hin)
        exact List.mem_map.mpr ⟨a, List.mem_filter.mpr ⟨ha, by rw [hal i hin a ha e]; exact h2⟩, e⟩
  have hl : ((ino A).filter p).length = cn al n := by
    have := hpm.length_eq
    simpa using this
  have hb1 : ∀ a ∈ ino A, cd a < 10000 := fun a ha => by
    obtain ⟨j, j1, j2, j3, -⟩ := RT_row hR ha
    rw [← j3]; exact hpc j j1
  have hl8 : ((ino A).filter p).length < 2 ^ 8 := by omega
  have hndf : ((ino A).filter p).Nodup := hnd.sublist List.filter_sublist
  obtain ⟨t1, t2⟩ := kdl_kd (cd := cd) 8 0 _ hl8 hndf (fun u hu => hb1 u (hmf u hu)) (fun u hu v hv e => nodup_map_inj hcnd (hmf u hu) (hmf v hv) e)
  obtain ⟨T, eT⟩ : ∃ T, T = kdl od5 cd 8 0 ((ino A).filter p) := ⟨_, rfl⟩
  have hTp : (ino T).Perm ((ino A).filter p) := by rw [eT]; exact kdl_perm 8 0 _ hl8
  have hT8 : ht T ≤ 8 := by rw [eT]; exact kdl_ht 8 0 _
  rw [← eT] at t1 t2 ⊢
  obtain ⟨f', g1, g2⟩ := RT_exists (c := fun j => pc (selF al n j)) (cd := cd) (A := T) ((hTp.map cd).trans hpm) hu1
  obtain ⟨o1, o2, o3, o4⟩ := LOR_ok (F := []) (U := 1) g1 rfl (fun i hi => ⟨g2 i hi, RT_lt g1 (k := 20) (by omega) i hi⟩) t1 t2 hT8
  have hO : ∀ i, i < cn al n → opF f' 1 0 i = true := fun i hi => by rw [o3]; exact bel_one (g2 i hi)
  refine ⟨hl, opF f' 1, psF f' 1, hO, fun i hi => by rw [o4, if_pos (hO i hi)], o1, RT_congr g1 (fun i hi => ⟨rfl, (o2 i hi).symm⟩), t1, hTp.nodup_iff.mpr hndf, hu1, fun i hi => by rw [o2 i hi]; exact g2 i hi, HALF_PBAL t2, fun i hi => hpc _ (selF_ok hi).1⟩
