theorem SRT_inj {cd : Nat → Nat} {A : Tr} (h : SRT cd A) {u v : Nat} (hu : u ∈ ino A) (hv : v ∈ ino A) (e : cd u = cd v) : u = v := by
  obtain ⟨i, hi⟩ := List.getElem?_of_mem hu
  obtain ⟨j, hj⟩ := List.getElem?_of_mem hv
  obtain ⟨hi1, hi2⟩ := List.getElem?_eq_some_iff.mp hi
  obtain ⟨hj1, hj2⟩ := List.getElem?_eq_some_iff.mp hj
  unfold SRT at h
  have key := List.pairwise_iff_getElem.mp h
  rcases Nat.lt_trichotomy i j with h1 | h1 | h1
  · have := key i j (by simpa using hi1) (by simpa using hj1) h1
    simp only [List.getElem_map, hi2, hj2] at this
    omega
  · subst h1
    rw [← hi2, ← hj2]
  · have := key j i (by simpa using hj1) (by simpa using hi1) h1
    simp only [List.getElem_map, hi2, hj2] at this
    omega
theorem upT_sz {hh : Nat} {l r : Tr} (hz : sz l = 0 ∨ sz r = 0) : sz (upT (.branch hh l r)) + 1 = sz (.branch hh l r) := by
  rw [← ino_len, upT_ino hz, List.length_append, ino_len, ino_len]
  simp only [sz]
theorem upT_WB {hh : Nat} {l r : Tr} (h : WB (.branch hh l r)) : WB (upT (.branch hh l r)) := by
  obtain ⟨h1, h2, h3, h4⟩ := WB_b.mp h
  simp only [upT]
  split
  · exact h4
  · exact h3
theorem upT_if (hh : Nat) (l r : Tr) : upT (.branch hh l r) = if sz l = 0 then r else l := rfl
theorem SRT_del {cd : Nat → Nat} {A : Tr} {cc q0 hh : Nat} {l r l2 r2 : Tr} (hs : SRT cd A) (hnd : (ino A).Nodup) (hD : fpT cd cc A = .branch q0 l r) (hT : delT cd cc A = .branch hh l2 r2) (hz2 : sz l2 = 0 ∨ sz r2 = 0) : SRT (x_up cd q0 (cd hh)) (plug (delF cd cc A) (upT (.branch hh l2 r2))) := by
  obtain ⟨F, eF⟩ : ∃ F, F = fpF cd cc A := ⟨_, rfl⟩
  have hA : plug F (.branch q0 l r) = A := by rw [eF, ← hD, fp_plug]
  have hinoA : ino A = fpre F ++ ((ino l ++ q0 :: ino r) ++ fpost F) := by rw [← hA, plug_ino_e]; rfl
  have hs2 := hs
  unfold SRT at hs2
  rw [hinoA] at hs2 hnd
  have hq : q0 ∉ fpre F ∧ q0 ∉ ino l ∧ q0 ∉ ino r ∧ q0 ∉ fpost F := by
    rw [List.nodup_append] at hnd
    obtain ⟨n1, n2, n3⟩ := hnd
    rw [List.nodup_append] at n2
    obtain ⟨n4, n5, n6⟩ := n2
    rw [List.nodup_append] at n4
    obtain ⟨n7, n8, n9⟩ := n4
    rw [List.nodup_cons] at n8
    exact ⟨fun hm => n3 q0 hm q0 (by simp) rfl, fun hm => n9 q0 hm q0 (by simp) rfl, n8.1, fun hm => n6 q0 (by simp) q0 hm rfl⟩
  have cdn : ∀ L : List Nat, q0 ∉ L → L.map (x_up cd q0 (cd hh)) = L.map cd := fun L hL => List.map_congr_left (fun a ha => x_up_n _ _ (fun e => hL (e ▸ ha)))
  -- the list that the codes are
  have hgoal : (ino (plug (delF cd cc A) (upT (.branch hh l2 r2)))).map (x_up cd q0 (cd hh)) = (fpre F).map cd ++ (((ino l).map cd ++ (ino r).map cd) ++ (fpost F).map cd) := by
    by_cases hz : sz l = 0 ∨ sz r = 0
    · obtain ⟨e1, e2⟩ := delF_one hD hz
      rw [hT] at e2
      cases e2
      rw [e1, ← eF, plug_ino_e, upT_ino hz, List.map_append, List.map_append, List.map_append, cdn _ hq.1, cdn _ hq.2.1, cdn _ hq.2.2.1, cdn _ hq.2.2.2]
    · obtain ⟨e1, e2⟩ := delF_two hD hz
      rw [hT] at e2
      by_cases c1 : sz r < sz l
      · rw [if_pos c1] at e1 e2
        have h9 := hp_ino_t e2.symm
        rw [e1, ← eF, plug_app, plug_ino_e]
        simp only [plug]
        rw [mkf_ino_e]
        simp only [if_true, List.map_append, List.map_cons, x_up_s]
        have h8 : (ino (plug (hpF true l) (upT (.branch hh l2 r2)))).map (x_up cd q0 (cd hh)) ++ [cd hh] = (ino l).map cd := by
          rw [← h9, List.map_append]
          congr 1
          refine cdn _ (fun hm => hq.2.1 (by rw [← h9]; simp [hm]))
        rw [cdn _ hq.1, cdn _ hq.2.2.1, cdn _ hq.2.2.2, ← h8]
        simp
      · rw [if_neg c1] at e1 e2
        have h9 := hp_ino_f e2.symm
        rw [e1, ← eF, plug_app, plug_ino_e]
        simp only [plug]
        rw [mkf_ino_e]
        simp only [Bool.false_eq_true, if_false, List.map_append, List.map_cons, x_up_s]
        have h8 : cd hh :: (ino (plug (hpF false r) (upT (.branch hh l2 r2)))).map (x_up cd q0 (cd hh)) = (ino r).map cd := by
          rw [← h9, List.map_cons]
          congr 1
          refine cdn _ (fun hm => hq.2.2.1 (by rw [← h9]; simp [hm]))
        rw [cdn _ hq.1, cdn _ hq.2.1, cdn _ hq.2.2.2, ← h8]
  unfold SRT
  rw [hgoal]
  refine List.Pairwise.sublist ?_ hs2
  simp only [List.map_append, List.map_cons]
  exact List.Sublist.append (List.Sublist.refl _) (List.Sublist.append (List.Sublist.append (List.Sublist.refl _) (List.sublist_cons_self _ _)) (List.Sublist.refl _))
theorem fpT_leaf {cd : Nat → Nat} {cc : Nat} : ∀ {A : Tr} {u : Unit}, SRT cd A → fpT cd cc A = .leaf u → ∀ a ∈ ino A, cd a ≠ cc
  | .leaf _, _, _, _, a, ha => by simp [ino] at ha
  | .branch q l r, u, hs, h, a, ha => by
    obtain ⟨h1, h2, h3, h4⟩ := SRT_b.mp hs
    simp only [fpT] at h
    split at h
    · cases h
    · rename_i hq
      simp only [ino, List.mem_append, List.mem_cons] at ha
      split at h
      · rename_i hc
        rcases ha with ha | rfl | ha
        · exact fpT_leaf h1 h a ha
        · exact hq
        · have := h4 a ha; omega
      · rename_i hc
        rcases ha with ha | rfl | ha
        · have := h3 a ha; omega
        · exact hq
        · exact fpT_leaf h2 h a ha
theorem TI_del {n : Nat} {c tu cd : Nat → Nat} {A : Tr} {k : Nat} (h : TI n c tu cd A) (hk : k < n) (hp : 0 < tu k) :
    ∃ q0 l r hh, fpT cd (c k) A = .branch q0 l r ∧ rtq (delT cd (c k) A) = [hh] ∧ hh ∈ ino A ∧ q0 ∈ ino A ∧ cd q0 = c k ∧ balOK n 26 (mvuM n (levM n tu k).1 (levM n tu k).2) ((levM n tu k).2 / 2) ∧
      (balsM n 26 (mvuM n (levM n tu k).1 (levM n tu k).2) ((levM n tu k).2 / 2)).2 = balC (delF cd (c k) A) (upT (delT cd (c k) A)) ∧
      TI n c (balsM n 26 (mvuM n (levM n tu k).1 (levM n tu k).2) ((levM n tu k).2 / 2)).1 (x_up cd q0 (cd hh)) (balF (delF cd (c k) A) (upT (delT cd (c k) A))) ∧
      sz (balF (delF cd (c k) A) (upT (delT cd (c k) A))) + 1 = sz A ∧ (∀ a, a ∈ ino (balF (delF cd (c k) A) (upT (delT cd (c k) A))) → a ∈ ino A) ∧
      (∀ i, i < n → (0 < (balsM n 26 (mvuM n (levM n tu k).1 (levM n tu k).2) ((levM n tu k).2 / 2)).1 i ↔ i ≠ k ∧ 0 < tu i)) := by
  obtain ⟨hR, hS, hW, hz, hn, hup⟩ := h
  have hu : ∀ i j, i < n → j < n → c i = c j → i = j := fun i j hi hj e => UP_inj hup hi hj e
  obtain ⟨a0, ha0, hca0⟩ := (RT_pos hR hu hk).mp hp
  have hfp := fp_plug cd (c k) A
  obtain ⟨q0, l, r, hD⟩ : ∃ q0 l r, fpT cd (c k) A = .branch q0 l r := by
    cases e : fpT cd (c k) A with
    | branch q l r => exact ⟨q, l, r, rfl⟩
    | leaf u =>
      exfalso
      exact fpT_leaf hS e a0 ha0 hca0
  have hq := fpT_code hD
  have hq0 : q0 ∈ ino A := by
    rw [← hfp, hD]
    exact (plug_ino _ _).mem_iff.mpr (List.mem_append_right _ (by simp [ino]))
  obtain ⟨hh, l2, r2, hT, hz2, g1, g2, g3⟩ := del_ok hR hup hS hn hk rfl hD
  obtain ⟨FD, eFD⟩ : ∃ FD, FD = delF cd (c k) A := ⟨_, rfl⟩
  have hSD := SRT_del hS hn hD hT hz2
  have hdp := del_plug cd (c k) A
  rw [hT] at hdp ⊢
  rw [← eFD] at g1 g2 hdp hSD ⊢
  have hm := mvu_ok g2 hz2
  rw [← g1, ← upT_if hh l2 r2] at hm
  have hWF : WB (plug FD (.branch hh l2 r2)) := by rw [hdp]; exact hW
  have hWX := upT_WB (wb_fr hWF).2
  have hsX := upT_sz (hh := hh) hz2
  have hszA : sz (plug FD (.branch hh l2 r2)) ≤ 100 := by rw [hdp]; exact hz
  obtain ⟨b1, b2, b3⟩ := bals_ok FD.length FD (upT (.branch hh l2 r2)) _ 26 rfl (by
    have h8 := plug_ht FD (.branch hh l2 r2)
    have h9 := wb_ht hW (by omega)
    rw [hdp] at h8; omega) hm (fun F1 F2 e => by
    have h9 := wb_mid (F1 := F1) (F2 := F2) (X := upT (.branch hh l2 r2)) (X0 := .branch hh l2 r2) (by rw [← e]; exact hWF) hWX (Or.inr (Or.inr hsX)) (by rw [← e]; exact hszA)
    omega)
  rw [← g1] at b1 b2 b3
  have hpA : (ino A).Perm (hh :: ino (balF FD (upT (.branch hh l2 r2)))) := by
    rw [← hdp]
    refine (plug_ino FD _).trans ?_
    simp only [ino]
    refine (List.Perm.append_left _ List.perm_middle).trans ?_
    refine List.perm_middle.trans (List.Perm.cons _ ?_)
    refine List.Perm.trans ?_ (balF_ino FD _).symm
    rw [upT_ino hz2]
  have hndA := hpA.nodup_iff.mp hn
  rw [List.nodup_cons] at hndA
  have hhA : hh ∈ ino A := hpA.mem_iff.mpr List.mem_cons_self
  have hmem : ∀ a, a ∈ ino A ↔ a = hh ∨ a ∈ ino (balF FD (upT (.branch hh l2 r2))) := fun a => by rw [hpA.mem_iff, List.mem_cons]
  have hszB : sz (balF FD (upT (.branch hh l2 r2))) + 1 = sz A := by
    have := hpA.length_eq
    rw [List.length_cons, ino_len, ino_len] at this
    omega
  have hTI : TI n c (balsM n 26 (mvuM n (levM n tu k).1 (levM n tu k).2) ((levM n tu k).2 / 2)).1 (x_up cd q0 (cd hh)) (balF FD (upT (.branch hh l2 r2))) := by
    refine ⟨b1, ?_, wb_balF hWF hWX (Or.inr (Or.inr hsX)), by omega, hndA.2, hup⟩
    unfold SRT
    rw [balF_ino_e]; exact hSD
  refine ⟨q0, l, r, hh, hD, rfl, hhA, hq0, hq, b3, b2, hTI, hszB, fun a ha => (hmem a).mpr (Or.inr ha), fun i hi => ?_⟩
  rw [RT_pos b1 hu hi]
  constructor
  · rintro ⟨a, ha, e⟩
    by_cases ea : a = q0
    · subst ea
      rw [x_up_s] at e
      have hne : hh ≠ a := fun z => hndA.1 (z ▸ ha)
      refine ⟨fun ei => hne (SRT_inj hS hhA hq0 (by rw [e, ei, hq])), (RT_pos hR hu hi).mpr ⟨hh, hhA, e⟩⟩
    · rw [x_up_n _ _ ea] at e
      have haA := (hmem a).mpr (Or.inr ha)
      refine ⟨fun ei => ea (SRT_inj hS haA hq0 (by rw [e, ei, hq])), (RT_pos hR hu hi).mpr ⟨a, haA, e⟩⟩
  · rintro ⟨hik, hti⟩
    obtain ⟨a, ha, e⟩ := (RT_pos hR hu hi).mp hti
    have ea : a ≠ q0 := fun z => hik (hu i k hi hk (by rw [← e, z, hq]))
    by_cases eh : a = hh
    · have hqh : q0 ≠ hh := fun z => ea (by rw [eh, z])
      exact ⟨q0, ((hmem q0).mp hq0).resolve_left hqh, by rw [x_up_s, ← eh, e]⟩
    · exact ⟨a, ((hmem a).mp ha).resolve_left eh, by rw [x_up_n _ _ ea, e]⟩
