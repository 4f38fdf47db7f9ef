theorem fpT_code {cd : Nat → Nat} {cc : Nat} : ∀ {A : Tr} {q : Nat} {l r : Tr}, fpT cd cc A = .branch q l r → cd q = cc
  | .branch q' l' r', q, l, r, h => by
    simp only [fpT] at h
    split at h
    · rename_i e; cases h; exact e
    · split at h
      · exact fpT_code h
      · exact fpT_code h
theorem delF_one {cd : Nat → Nat} {cc q : Nat} {A l r : Tr} (hD : fpT cd cc A = .branch q l r) (hz : sz l = 0 ∨ sz r = 0) : delF cd cc A = fpF cd cc A ∧ delT cd cc A = .branch q l r := by
  simp only [delF, delT, hD, delGF, delGT, if_pos hz, List.append_nil, and_self]
theorem delF_two {cd : Nat → Nat} {cc q : Nat} {A l r : Tr} (hD : fpT cd cc A = .branch q l r) (hz : ¬ (sz l = 0 ∨ sz r = 0)) : delF cd cc A = fpF cd cc A ++ (if sz r < sz l then (q, true, r) :: hpF true l else (q, false, l) :: hpF false r) ∧ delT cd cc A = (if sz r < sz l then hpT true l else hpT false r) := by
  simp only [delF, delT, hD, delGF, delGT, if_neg hz, and_self]
theorem hpT_ex {d : Bool} {A : Tr} (h : 0 < sz A) : ∃ hh l2 r2, hpT d A = .branch hh l2 r2 ∧ (sz l2 = 0 ∨ sz r2 = 0) := by
  cases d with
  | true =>
    obtain ⟨a, b, c, e, e2⟩ := hp_ex true (A := A) h
    exact ⟨a, b, c, e, Or.inr e2⟩
  | false =>
    obtain ⟨a, b, c, e, e2⟩ := hp_ex false (A := A) h
    exact ⟨a, b, c, e, Or.inl e2⟩
theorem del_two {n : Nat} {c tu cd : Nat → Nat} {F : List Fr} {q0 : Nat} {l r : Tr} {k : Nat} (d : Bool) (h : RT n c tu cd (plug F (.branch q0 l r))) (hup : UP n c) (hs : SRT cd (plug F (.branch q0 l r))) (hnd : (ino (plug F (.branch q0 l r))).Nodup) (hk : k < n) (hck : c k = cd q0) (htk : tu k = hpl F 1)
    (hzl : 0 < sz l) (hzr : 0 < sz r) (hd : d = decide (sz r < sz l)) {hh : Nat} {l2 r2 : Tr} (hT : hpT d (if d = true then l else r) = .branch hh l2 r2) (hz2 : sz l2 = 0 ∨ sz r2 = 0) :
    (levM n tu k).2 = hpl (F ++ (q0, d, if d = true then r else l) :: hpF d (if d = true then l else r)) 1 ∧ RH n c (levM n tu k).1 (x_up cd q0 (cd hh)) (F ++ (q0, d, if d = true then r else l) :: hpF d (if d = true then l else r)) l2 r2 := by
  have hp := hpl_pos F (p := 1) (by omega)
  have hu : ∀ i j, i < n → j < n → c i = c j → i = j := fun i j hi hj e => UP_inj hup hi hj e
  obtain ⟨XX, eXX⟩ : ∃ XX, XX = (if d = true then l else r) := ⟨_, rfl⟩
  obtain ⟨YY, eYY⟩ : ∃ YY, YY = (if d = true then r else l) := ⟨_, rfl⟩
  rw [← eXX] at hT
  rw [← eXX, ← eYY]
  obtain ⟨F2, eF2⟩ : ∃ F2, F2 = F ++ (q0, d, YY) :: hpF d XX := ⟨_, rfl⟩
  rw [← eF2]
  have hA : plug F (.branch q0 l r) = plug F2 (.branch hh l2 r2) := by
    rw [eF2, plug_app]
    congr 1
    simp only [plug, ← hT, hp_plug, mkf, eXX, eYY]
    cases d <;> rfl
  have h2 := h
  rw [hA] at h2
  have hhm : hh ∈ ino XX := hpT_mem (d := d) hh (by rw [hT]; simp [ino])
  have hsb := SRT_b.mp (SRT_plug hs)
  have hne : cd hh ≠ cd q0 := by
    rw [eXX] at hhm
    cases d with
    | true => have := hsb.2.2.1 hh hhm; omega
    | false => have := hsb.2.2.2 hh hhm; omega
  have hhA : hh ∈ ino (plug F2 (.branch hh l2 r2)) := (plug_ino F2 _).mem_iff.mpr (List.mem_append_right _ (by simp [ino]))
  obtain ⟨fd, hfd, hpf, hcf, -⟩ := RT_row h2 hhA
  have hfp : tu fd = hpl F2 1 := (RT_at h2 hu hfd (by rw [hcf]; exact hole_root)).1
  have hkf : fd ≠ k := fun e => hne (by rw [← hcf, e, hck])
  have hl := RT_l h
  have hr := RT_r h
  have hfr : hpl F2 1 = hpl (hpF d XX) (if d = true then 2 * hpl F 1 else 2 * hpl F 1 + 1) := by
    rw [eF2, hpl_app]
    simp only [hpl]
    cases d <;> rfl
  have hfrp : 0 < (if d = true then 2 * hpl F 1 else 2 * hpl F 1 + 1) := by split <;> omega
  have hfound := fd_ok (d := d) (y := cd hh) h hup hck hfd hkf hcf (by rw [hfp, hfr]; exact hpl_bel _ hfrp) hpf (fun e a ha => by
    subst e
    have hX : XX = l := eXX
    rw [hX] at hT
    exact hp_max hsb.1 hT a ha) (fun e a ha => by
    subst e
    have hX : XX = r := eXX
    rw [hX] at hT
    exact hp_min hsb.2.1 hT a ha)
  have hlev : levM n tu k = (x_up (x_up tu k 0) fd (tu k), tu fd) := by
    have e1 : (if sz r < sz l then 2 * hpl F 1 else 2 * hpl F 1 + 1) = (if d = true then 2 * hpl F 1 else 2 * hpl F 1 + 1) := by
      rw [hd]
      by_cases c1 : sz r < sz l
      · rw [if_pos c1, if_pos (decide_eq_true c1)]
      · rw [if_neg c1, if_neg (by simp [c1])]
    unfold levM
    rw [htk, hl, hr, if_pos ⟨hzl, hzr⟩, ← hd, e1, hfound]
    simp only [Option.getD_some, x_up_n _ _ hkf]
  rw [hlev]
  refine ⟨hfp, ?_⟩
  -- the rows
  obtain ⟨R0, eR0⟩ : ∃ R0, R0 = rwl n c (x_up (x_up tu k 0) fd 0) := ⟨_, rfl⟩
  have p1 : (rwl n c tu).Perm ((cd q0, hpl F 1) :: (cd hh, hpl F2 1) :: R0) := by
    refine (rwl_del (c := c) hk (by omega : 0 < tu k)).trans ?_
    rw [hck, htk]
    refine List.Perm.cons _ ?_
    have h9 := rwl_del (c := c) (f := x_up tu k 0) hfd (by rw [x_up_n _ _ hkf]; exact hpf)
    rw [x_up_n _ _ hkf, hcf, hfp] at h9
    rw [htk] at *
    rw [eR0]
    exact h9
  have p2 : (rwl n c (x_up (x_up tu k 0) fd (tu k))).Perm ((cd hh, hpl F 1) :: R0) := by
    have h9 := rwl_add (c := c) (f := x_up (x_up tu k 0) fd 0) (k := fd) (p := tu k) (x_up_s _ _ _) (by omega) hfd
    rw [x_up_up, hcf, htk] at h9
    rw [eR0, htk]
    exact h9
  have p3 := p1.symm.trans (h2.trans (plc_plug cd _ F2 1))
  simp only [plc] at p3
  have q0F : q0 ∉ fad F ∧ q0 ∉ ino l ∧ q0 ∉ ino r := by
    have h9 := (plug_ino F (.branch q0 l r)).nodup_iff.mp hnd
    simp only [ino] at h9
    rw [List.nodup_append] at h9
    obtain ⟨n1, n2, n3⟩ := h9
    rw [List.nodup_append] at n2
    obtain ⟨m1, m2, m3⟩ := n2
    rw [List.nodup_cons] at m2
    exact ⟨fun hm => n3 q0 hm q0 (by simp) rfl, fun hm => m3 q0 hm q0 (by simp) rfl, m2.1⟩
  have hXm : ∀ a, a ∈ fad (hpF d XX) ∨ a ∈ ino (.branch hh l2 r2 : Tr) → a ∈ ino XX := fun a ha => by
    have h9 := plug_ino (hpF d XX) (hpT d XX)
    rw [hp_plug, hT] at h9
    exact h9.mem_iff.mpr (by rw [List.mem_append]; exact ha)
  have hXq : q0 ∉ ino XX ∧ q0 ∉ ino YY := by
    rw [eXX, eYY]
    cases d
    · exact ⟨q0F.2.2, q0F.2.1⟩
    · exact ⟨q0F.2.1, q0F.2.2⟩
  have cdn : ∀ a, a ≠ q0 → x_up cd q0 (cd hh) a = cd a := fun a ha => x_up_n _ _ ha
  have f1 : pfr (x_up cd q0 (cd hh)) F 1 = pfr cd F 1 := pfr_cd (fun a ha => cdn a (fun e => q0F.1 (e ▸ ha)))
  have f2 : ∀ p, pfr (x_up cd q0 (cd hh)) (hpF d XX) p = pfr cd (hpF d XX) p := fun p => pfr_cd (fun a ha => cdn a (fun e => hXq.1 (e ▸ hXm a (Or.inl ha))))
  have f3 : ∀ p, plc (x_up cd q0 (cd hh)) YY p = plc cd YY p := fun p => plc_cd (fun a ha => cdn a (fun e => hXq.2 (e ▸ ha)))
  have f4 : ∀ p, plc (x_up cd q0 (cd hh)) l2 p = plc cd l2 p := fun p => plc_cd (fun a ha => cdn a (fun e => hXq.1 (e ▸ hXm a (Or.inr (by simp [ino, ha])))))
  have f5 : ∀ p, plc (x_up cd q0 (cd hh)) r2 p = plc cd r2 p := fun p => plc_cd (fun a ha => cdn a (fun e => hXq.1 (e ▸ hXm a (Or.inr (by simp [ino, ha])))))
  have eP : pfr cd F2 1 = pfr cd F 1 ++ (cd q0, hpl F 1) :: (plc cd YY (2 * hpl F 1 + (if d = true then 1 else 0)) ++ pfr cd (hpF d XX) (2 * hpl F 1 + (if d = true then 0 else 1))) := by
    rw [eF2, pfr_app]; rfl
  have eP' : pfr (x_up cd q0 (cd hh)) F2 1 = pfr cd F 1 ++ (cd hh, hpl F 1) :: (plc cd YY (2 * hpl F 1 + (if d = true then 1 else 0)) ++ pfr cd (hpF d XX) (2 * hpl F 1 + (if d = true then 0 else 1))) := by
    rw [eF2, pfr_app, f1]
    simp only [pfr, x_up_s, f2, f3]
  obtain ⟨Rs, eRs⟩ : ∃ Rs, Rs = plc cd YY (2 * hpl F 1 + (if d = true then 1 else 0)) ++ pfr cd (hpF d XX) (2 * hpl F 1 + (if d = true then 0 else 1)) := ⟨_, rfl⟩
  rw [← eRs] at eP eP'
  unfold RH
  refine p2.trans ?_
  rw [eP', f4, f5]
  rw [eP] at p3
  -- cancel
  have p4 : R0.Perm ((pfr cd F 1 ++ Rs) ++ (plc cd l2 (2 * hpl F2 1) ++ plc cd r2 (2 * hpl F2 1 + 1))) := by
    refine List.Perm.cons_inv (a := (cd hh, hpl F2 1)) (List.Perm.cons_inv (a := (cd q0, hpl F 1)) (p3.trans ?_))
    rw [List.append_assoc, List.append_assoc, List.cons_append]
    refine List.perm_middle.trans (List.Perm.cons _ ?_)
    rw [← List.append_assoc, ← List.append_assoc, ← List.append_assoc]
    refine List.Perm.trans List.perm_middle ?_
    rw [List.append_assoc (pfr cd F 1 ++ Rs)]
  refine (p4.cons _).trans ?_
  rw [List.append_assoc, List.append_assoc, List.cons_append]
  exact List.perm_middle.symm
theorem del_ok {n : Nat} {c tu cd : Nat → Nat} {A : Tr} {cc q0 : Nat} {l r : Tr} {k : Nat} (h : RT n c tu cd A) (hup : UP n c) (hs : SRT cd A) (hnd : (ino A).Nodup) (hk : k < n) (hck : c k = cc) (hD : fpT cd cc A = .branch q0 l r) :
    ∃ hh l2 r2, delT cd cc A = .branch hh l2 r2 ∧ (sz l2 = 0 ∨ sz r2 = 0) ∧ (levM n tu k).2 = hpl (delF cd cc A) 1 ∧ RH n c (levM n tu k).1 (x_up cd q0 (cd hh)) (delF cd cc A) l2 r2 ∧ tu k = hpl (fpF cd cc A) 1 := by
  have hA : A = plug (fpF cd cc A) (.branch q0 l r) := by rw [← hD, fp_plug]
  have hq := fpT_code hD
  have hu : ∀ i j, i < n → j < n → c i = c j → i = j := fun i j hi hj e => UP_inj hup hi hj e
  obtain ⟨F, eF⟩ : ∃ F, F = fpF cd cc A := ⟨_, rfl⟩
  rw [← eF] at hA
  have h' := h
  have hs' := hs
  have hnd' := hnd
  rw [hA] at h' hs' hnd'
  have htk : tu k = hpl F 1 := (RT_at h' hu hk (by rw [hck, ← hq]; exact hole_root)).1
  have hp := hpl_pos F (p := 1) (by omega)
  by_cases hz : sz l = 0 ∨ sz r = 0
  · obtain ⟨e1, e2⟩ := delF_one hD hz
    have hl := RT_l h'
    have hr := RT_r h'
    have hlev : levM n tu k = (x_up tu k 0, tu k) := by
      unfold levM
      rw [htk, hl, hr, if_neg (by omega)]
    refine ⟨q0, l, r, e2, hz, ?_, ?_, by rw [← eF]; exact htk⟩
    · rw [hlev, e1, ← eF]; exact htk
    · rw [hlev, e1, ← eF, x_up_id]
      exact del_one h' hk (by rw [hck, hq]) htk
  · obtain ⟨e1, e2⟩ := delF_two hD hz
    obtain ⟨d, ed⟩ : ∃ d, d = decide (sz r < sz l) := ⟨_, rfl⟩
    obtain ⟨hh, l2, r2, hT, hz2⟩ := hpT_ex (d := d) (A := if d = true then l else r) (by split <;> omega)
    obtain ⟨g1, g2⟩ := del_two d h' hup hs' hnd' hk (by rw [hck, hq]) htk (by omega) (by omega) ed hT hz2
    have e3 : delF cd cc A = F ++ (q0, d, if d = true then r else l) :: hpF d (if d = true then l else r) := by
      rw [e1, ← eF, ed]
      by_cases c1 : sz r < sz l
      · rw [if_pos c1, decide_eq_true c1]; rfl
      · rw [if_neg c1, decide_eq_false c1]; rfl
    refine ⟨hh, l2, r2, ?_, hz2, by rw [e3]; exact g1, by rw [e3]; exact g2, by rw [← eF]; exact htk⟩
    rw [e2, ← hT, ed]
    by_cases c1 : sz r < sz l
    · rw [if_pos c1, decide_eq_true c1]; rfl
    · rw [if_neg c1, decide_eq_false c1]; rfl
