/-! laying out points: order and halves -/
def HALF : Tr → Prop
  | .leaf _ => True
  | .branch _ l r => sz l = (sz l + 1 + sz r) / 2 ∧ HALF l ∧ HALF r
theorem msr_strict {cd : Nat → Nat} {d : Nat} {lst : List Nat} (hn : lst.Nodup) (hb : ∀ u ∈ lst, cd u < 10000) (hi : ∀ u ∈ lst, ∀ v ∈ lst, cd u = cd v → u = v) : (msr od5 cd d lst).Pairwise (fun u v => od5 d (cd u) < od5 d (cd v)) := by
  have hp := msr_perm od5 cd d lst
  have hs2 : (msr od5 cd d lst).Pairwise (fun u v => od5 d (cd u) ≤ od5 d (cd v)) := by
    have := List.pairwise_mergeSort (le := fun u v => decide (od5 d (cd u) ≤ od5 d (cd v))) (fun a b c h1 h2 => by simp at *; omega) (fun a b => by simp; omega) lst
    exact this.imp (fun h => by simpa using h)
  have hn2 : (msr od5 cd d lst).Nodup := hp.nodup_iff.mpr hn
  rw [List.pairwise_iff_getElem] at hs2 ⊢
  intro i j hi2 hj2 hij
  have h1 := hs2 i j hi2 hj2 hij
  have h2 : (msr od5 cd d lst)[i] ≠ (msr od5 cd d lst)[j] := (List.pairwise_iff_getElem.mp hn2) i j hi2 hj2 hij
  have m1 : (msr od5 cd d lst)[i] ∈ lst := hp.mem_iff.mp (List.getElem_mem hi2)
  have m2 : (msr od5 cd d lst)[j] ∈ lst := hp.mem_iff.mp (List.getElem_mem hj2)
  rcases Nat.lt_or_eq_of_le h1 with h3 | h3
  · exact h3
  · exact absurd (hi _ m1 _ m2 (od5_inj h3 (hb _ m1) (hb _ m2))) h2
theorem kdl_kd {cd : Nat → Nat} : ∀ (f d : Nat) (lst : List Nat), lst.length < 2 ^ f → lst.Nodup → (∀ u ∈ lst, cd u < 10000) → (∀ u ∈ lst, ∀ v ∈ lst, cd u = cd v → u = v) → BSF od5 cd (kdl od5 cd f d lst) d ∧ HALF (kdl od5 cd f d lst)
  | 0, d, lst, h, _, _, _ => ⟨trivial, trivial⟩
  | f + 1, d, lst, h, hn, hb, hi => by
    simp only [kdl]
    by_cases h0 : lst = []
    · rw [if_pos h0]; exact ⟨trivial, trivial⟩
    · rw [if_neg h0]
      have hl : 0 < lst.length := by cases lst with | nil => exact absurd rfl h0 | cons a l => simp
      have hst := msr_strict (d := d) hn hb hi
      obtain ⟨M, eM⟩ : ∃ M, M = msr od5 cd d lst := ⟨_, rfl⟩
      have hp := msr_perm od5 cd d lst
      have hml := msr_len od5 cd d lst
      rw [← eM] at hst hp hml ⊢
      have hs := split_mid M (lst.length / 2) (by omega)
      have hn2 : M.Nodup := hp.nodup_iff.mpr hn
      have m1 : ∀ a ∈ M.take (lst.length / 2), a ∈ lst := fun a ha => hp.mem_iff.mp (List.mem_of_mem_take ha)
      have m2 : ∀ a ∈ M.drop (lst.length / 2 + 1), a ∈ lst := fun a ha => hp.mem_iff.mp (List.mem_of_mem_drop ha)
      have k1 : (M.take (lst.length / 2)).length < 2 ^ f := by rw [List.length_take]; have := half_lt h; omega
      have k2 : (M.drop (lst.length / 2 + 1)).length < 2 ^ f := by rw [List.length_drop, hml]; exact half_lt2 h hl
      obtain ⟨a1, a2⟩ := kdl_kd f (d + 1) (M.take (lst.length / 2)) k1 (hn2.sublist (List.take_sublist _ _)) (fun u hu => hb u (m1 u hu)) (fun u hu v hv => hi u (m1 u hu) v (m1 v hv))
      obtain ⟨b1, b2⟩ := kdl_kd f (d + 1) (M.drop (lst.length / 2 + 1)) k2 (hn2.sublist (List.drop_sublist _ _)) (fun u hu => hb u (m2 u hu)) (fun u hu v hv => hi u (m2 u hu) v (m2 v hv))
      rw [hs, List.pairwise_append, List.pairwise_cons] at hst
      obtain ⟨s1, ⟨s2, s3⟩, s4⟩ := hst
      refine ⟨⟨fun a ha => s4 a ((kdl_mem f (d + 1) _ k1 a).mp ha) _ (by simp), fun a ha => s2 a ((kdl_mem f (d + 1) _ k2 a).mp ha), a1, b1⟩, ?_, a2, b2⟩
      rw [kdl_sz _ _ _ k1, kdl_sz _ _ _ k2, List.length_take, List.length_drop, hml]
      omega
theorem BSF_plug {od : Nat → Nat → Nat} {cd : Nat → Nat} : ∀ {F : List Fr} {X : Tr} {d : Nat}, BSF od cd (plug F X) d → BSF od cd X (d + F.length)
  | [], X, d, h => h
  | (q, b, s) :: F, X, d, h => by
    have e : d + ((q, b, s) :: F).length = d + 1 + F.length := by rw [List.length_cons]; omega
    rw [e]
    cases b with
    | true => exact BSF_plug (F := F) h.2.2.1
    | false => exact BSF_plug (F := F) h.2.2.2
theorem HALF_plug : ∀ {F : List Fr} {X : Tr}, HALF (plug F X) → HALF X
  | [], X, h => h
  | (q, b, s) :: F, X, h => by
    cases b with
    | true => exact HALF_plug (F := F) h.2.1
    | false => exact HALF_plug (F := F) h.2.2
theorem plc_dep {cd : Nat → Nat} : ∀ {T : Tr} {p : Nat} {x : Nat × Nat}, 0 < p → x ∈ plc cd T p → dep x.2 < dep p + ht T
  | .leaf _, p, x, _, hx => by simp [plc] at hx
  | .branch q l r, p, x, hp, hx => by
    simp only [plc, List.mem_append, List.mem_cons] at hx
    simp only [ht]
    rcases hx with hx | rfl | hx
    · have h1 := plc_dep (T := l) (p := 2 * p) (by omega) hx
      have h2 := dep_2 (e := 0) hp (by omega)
      simp only [Nat.add_zero] at h2
      omega
    · simp only []; omega
    · have h1 := plc_dep (T := r) (p := 2 * p + 1) (by omega) hx
      have h2 := dep_2 (e := 1) hp (by omega)
      omega
theorem plc_sub {cd : Nat → Nat} : ∀ {T : Tr} {p r : Nat} {x : Nat × Nat}, 0 < p → x ∈ plc cd T p → r ≤ dep x.2 - dep p → ∃ G Y, T = plug G Y ∧ G.length = r ∧ x ∈ plc cd Y (hpl G p)
  | T, p, 0, x, _, hx, _ => ⟨[], T, rfl, rfl, hx⟩
  | .leaf _, p, r + 1, x, _, hx, _ => by simp [plc] at hx
  | .branch q l r', p, r + 1, x, hp, hx, hr => by
    simp only [plc, List.mem_append, List.mem_cons] at hx
    rcases hx with hx | rfl | hx
    · have h2 := dep_2 (e := 0) hp (by omega)
      simp only [Nat.add_zero] at h2
      obtain ⟨G, Y, h3, h4, h5⟩ := plc_sub (T := l) (p := 2 * p) (r := r) (by omega) hx (by omega)
      exact ⟨(q, true, r') :: G, Y, by rw [h3]; rfl, by simp [h4], by simpa [hpl] using h5⟩
    · simp only [] at hr; omega
    · have h2 := dep_2 (e := 1) hp (by omega)
      obtain ⟨G, Y, h3, h4, h5⟩ := plc_sub (T := r') (p := 2 * p + 1) (r := r) (by omega) hx (by omega)
      exact ⟨(q, false, l) :: G, Y, by rw [h3]; rfl, by simp [h4], by simpa [hpl] using h5⟩
theorem bel_div {x a : Nat} (h : bel x a = true) : x / 2 ^ (dep x - dep a) = a := by
  simp only [bel, decide_eq_true_eq] at h
  exact h.2
def opF (f : Nat → Nat) (U r i : Nat) : Bool := bel (f i) U && decide (r ≤ dep (f i) - dep U)
def psF (f : Nat → Nat) (U r i : Nat) : Nat := if bel (f i) U = true then f i / 2 ^ (dep (f i) - dep U - r) else f i
theorem RT_cntp {n : Nat} {c f cd : Nat → Nat} {F : List Fr} {Y : Tr} (h : RT n c f cd (plug F Y)) (hp : ∀ i, i < n → 0 < f i) (P : Nat → Bool) : cn (fun j => bel (f j) (hpl F 1) && P (c j)) n = (ino Y).countP (fun a => P (cd a)) := by
  have h1 := rwl_countP n c f (fun x => bel x.2 (hpl F 1) && P x.1)
  rw [cn_congr (q := fun j => decide (0 < f j) && (bel (f j) (hpl F 1) && P (c j))) (fun j hj => by rw [decide_eq_true (hp j hj), Bool.true_and]), ← h1, h.countP_eq, (plc_plug cd Y F 1).countP_eq, List.countP_append]
  rw [List.countP_eq_zero.mpr (fun x hx => by rw [pfr_nb (by omega) x hx]; simp), Nat.zero_add]
  have h2 : (plc cd Y (hpl F 1)).countP (fun x => bel x.2 (hpl F 1) && P x.1) = (plc cd Y (hpl F 1)).countP (fun x => P x.1) := List.countP_congr (fun x hx => by rw [plc_bel (hpl_pos F (by omega)) x hx, Bool.true_and])
  rw [h2]
  have h3 := congrArg (List.countP P) (plc_fst cd Y (hpl F 1))
  rw [List.countP_map, List.countP_map] at h3
  exact h3
theorem LOR_ok {n U : Nat} {pc f cd : Nat → Nat} {F : List Fr} {T : Tr} (h : RT n pc f cd (plug F T)) (eU : U = hpl F 1) (hf : ∀ i, i < n → 0 < f i ∧ f i < 2 ^ 20) (hb : BSF od5 cd T F.length) (hh : HALF T) (ht8 : ht T ≤ 8) :
    LOR n pc (opF f U) (psF f U) 8 ∧ (∀ i, i < n → psF f U 8 i = f i) ∧ (∀ i, opF f U 0 i = bel (f i) U) ∧ (∀ i, psF f U 0 i = if opF f U 0 i = true then U else f i) := by
  have hU : 0 < U := by rw [eU]; exact hpl_pos F (by omega)
  have hdU : dep U = F.length := by rw [eU, hpl_dep F (by omega), dep_one]; omega
  have hin : ∀ i, i < n → bel (f i) U = true → (pc i, f i) ∈ plc cd T U := fun i hi hbi => by
    rw [eU] at hbi ⊢
    exact hole_code (RT_mem h hi (hf i hi).1) hbi
  have hd8 : ∀ i, i < n → bel (f i) U = true → dep (f i) - dep U < 8 := fun i hi hbi => by
    have := plc_dep hU (hin i hi hbi)
    simp only [] at this
    omega
  have hO0 : ∀ i, opF f U 0 i = bel (f i) U := fun i => by simp [opF]
  have hP8 : ∀ i, i < n → psF f U 8 i = f i := fun i hi => by
    unfold psF
    split
    · rename_i e
      have := hd8 i hi e
      rw [show dep (f i) - dep U - 8 = 0 by omega]; simp
    · rfl
  refine ⟨⟨fun r i hr hi => ?_, fun r i hr hi ho => ?_, fun r i hr hi ho => ?_, fun r i hr hi ho => ?_, ?_⟩, hP8, hO0, fun i => ?_⟩
  · unfold psF
    have h1 := hf i hi
    split
    · rename_i e
      have h2 := bel_div e
      refine ⟨?_, Nat.lt_of_le_of_lt (Nat.div_le_self _ _) (by omega)⟩
      have h3 : f i / 2 ^ (dep (f i) - dep U) ≤ f i / 2 ^ (dep (f i) - dep U - r) := Nat.div_le_div_left (Nat.pow_le_pow_right (by omega) (by omega)) (Nat.two_pow_pos _)
      omega
    · omega
  · simp only [opF, Bool.and_eq_true, decide_eq_true_eq] at ho
    obtain ⟨hbi, hri⟩ := ho
    obtain ⟨G, Y, hT, hG, hx⟩ := plc_sub hU (hin i hi hbi) hri
    obtain ⟨p, ep⟩ : ∃ p, p = hpl G U := ⟨_, rfl⟩
    have ep2 : p = hpl (F ++ G) 1 := by rw [ep, eU, hpl_app]
    rw [← ep] at hx
    have hp : 0 < p := by rw [ep]; exact hpl_pos G hU
    have hdp : dep p = dep U + r := by rw [ep, hpl_dep G hU, hG]
    have hbp : bel (f i) p = true := plc_bel hp _ hx
    have hpU : bel p U = true := by rw [ep]; exact hpl_bel G hU
    have hR2 : RT n pc f cd (plug (F ++ G) Y) := by rw [plug_app, ← hT]; exact h
    have hPS : psF f U r i = p := by
      unfold psF
      rw [if_pos hbi, ← bel_div hbp, hdp, Nat.sub_sub]
    have hgrp : ∀ j, (opF f U r j && decide (psF f U r j = p)) = bel (f j) p := fun j => by
      rw [Bool.eq_iff_iff]
      simp only [opF, Bool.and_eq_true, decide_eq_true_eq]
      constructor
      · rintro ⟨⟨h1, h2⟩, h3⟩
        unfold psF at h3
        rw [if_pos h1] at h3
        have h4 : p ≤ f j := by rw [← h3]; exact Nat.div_le_self _ _
        simp only [bel, decide_eq_true_eq]
        exact ⟨h4, by rw [hdp, ← Nat.sub_sub]; exact h3⟩
      · intro h1
        have h2 := bel_trans hU h1 hpU
        have h3 := dep_mono (bel_ge h1)
        refine ⟨⟨h2, by omega⟩, ?_⟩
        unfold psF
        rw [if_pos h2, Nat.sub_sub, ← hdp]
        exact bel_div h1
    have hwt : cn (wtQ (opF f U r) (psF f U r) i) n = sz Y := by
      rw [← RT_hole hR2, ← ep2]
      unfold cnW wtQ
      refine cn_congr (fun j hj => ?_)
      rw [hPS, hgrp, decide_eq_true (hf j hj).1, Bool.true_and]
    have hbf : cn (bfQ pc (opF f U r) (psF f U r) i) n = (ino Y).countP (fun a => decide (od5 (dep p) (cd a) < od5 (dep p) (pc i))) := by
      rw [← RT_cntp hR2 (fun j hj => (hf j hj).1) (fun x => decide (od5 (dep p) x < od5 (dep p) (pc i))), ← ep2]
      unfold bfQ
      refine cn_congr (fun j hj => ?_)
      rw [hPS, hgrp]
    have hbY : BSF od5 cd Y (dep p) := by
      rw [hT] at hb
      have := BSF_plug hb
      rwa [hG, ← hdU, ← hdp] at this
    have hhY : HALF Y := by
      rw [hT] at hh
      exact HALF_plug hh
    have hO1 : opF f U (r + 1) i = decide (r + 1 ≤ dep (f i) - dep U) := by simp only [opF, hbi, Bool.true_and]
    unfold nxV
    rw [hwt, hbf, hPS]
    cases Y with
    | leaf u => simp [plc] at hx
    | branch q l r' =>
      obtain ⟨y1, y2, -, -⟩ := hbY
      have hhl := hhY.1
      have hszY : sz (.branch q l r' : Tr) / 2 = sz l := by simp only [sz]; omega
      rw [hszY]
      simp only [ino, List.countP_append, List.countP_cons]
      simp only [plc, List.mem_append, List.mem_cons] at hx
      rcases hx with hx | hx | hx
      · have hb2 : bel (f i) (2 * p) = true := plc_bel (by omega) _ hx
        obtain ⟨a, ha, ea⟩ := plc_ino hx
        simp only [] at ea
        have hc1 : (ino l).countP (fun a => decide (od5 (dep p) (cd a) < od5 (dep p) (pc i))) < sz l := by
          have h1 := List.countP_le_length (p := fun a => decide (od5 (dep p) (cd a) < od5 (dep p) (pc i))) (l := ino l)
          rw [ino_len] at h1
          rcases Nat.lt_or_eq_of_le h1 with h2 | h2
          · exact h2
          · exfalso
            rw [← ino_len, List.countP_eq_length] at h2
            have h3 := h2 a ha
            rw [ea] at h3
            simp at h3
        have hc2 : (ino r').countP (fun a => decide (od5 (dep p) (cd a) < od5 (dep p) (pc i))) = 0 := List.countP_eq_zero.mpr (fun b hb2 => by
          have h1 := y1 a ha; have h2 := y2 b hb2
          rw [ea] at h1
          simp; omega)
        have hc3 : decide (od5 (dep p) (cd q) < od5 (dep p) (pc i)) = false := decide_eq_false (by have h1 := y1 a ha; rw [ea] at h1; omega)
        have hd2 := dep_2 (e := 0) hp (by omega)
        simp only [Nat.add_zero] at hd2
        have h9 := dep_mono (bel_ge hb2)
        rw [hc2, hc3, hO1, decide_eq_true (by omega)]
        simp only [Bool.false_eq_true, if_false, Nat.add_zero, if_true]
        rw [if_neg (by omega), if_pos hc1]
        unfold psF
        rw [if_pos hbi]
        have h8 := bel_div hb2
        rw [hd2, hdp, Nat.add_assoc, ← Nat.sub_sub] at h8
        omega
      · obtain ⟨e1, e2⟩ := Prod.mk.inj hx
        have hc1 : (ino l).countP (fun a => decide (od5 (dep p) (cd a) < od5 (dep p) (pc i))) = sz l := by
          rw [← ino_len, List.countP_eq_length]
          intro b hb2
          have := y1 b hb2
          rw [e1]; exact decide_eq_true this
        have hc2 : (ino r').countP (fun a => decide (od5 (dep p) (cd a) < od5 (dep p) (pc i))) = 0 := List.countP_eq_zero.mpr (fun b hb2 => by
          have h2 := y2 b hb2
          rw [e1]
          simp; omega)
        have hc3 : decide (od5 (dep p) (cd q) < od5 (dep p) (pc i)) = false := decide_eq_false (by rw [e1]; omega)
        rw [hc1, hc2, hc3, hO1, decide_eq_false (by rw [e2]; omega)]
        simp
      · have hb2 : bel (f i) (2 * p + 1) = true := plc_bel (by omega) _ hx
        obtain ⟨a, ha, ea⟩ := plc_ino hx
        simp only [] at ea
        have hy := y2 a ha
        rw [ea] at hy
        have hc1 : (ino l).countP (fun a => decide (od5 (dep p) (cd a) < od5 (dep p) (pc i))) = sz l := by
          rw [← ino_len, List.countP_eq_length]
          intro b hb2
          have := y1 b hb2
          exact decide_eq_true (by omega)
        have hc3 : decide (od5 (dep p) (cd q) < od5 (dep p) (pc i)) = true := decide_eq_true hy
        have hd2 := dep_2 (e := 1) hp (by omega)
        have h9 := dep_mono (bel_ge hb2)
        rw [hc1, hc3, hO1, decide_eq_true (by omega)]
        simp only [if_true]
        rw [if_neg (by omega), if_neg (by omega)]
        unfold psF
        rw [if_pos hbi]
        have h8 := bel_div hb2
        rw [hd2, hdp, Nat.add_assoc, ← Nat.sub_sub] at h8
        omega
  · simp only [opF, Bool.and_eq_true, decide_eq_true_eq] at ho ⊢
    exact ⟨ho.1, by omega⟩
  · simp only [opF, Bool.and_eq_false_iff, decide_eq_false_iff_not] at ho
    unfold psF
    rcases ho with e | e
    · rw [e]; rfl
    · split
      · rw [show dep (f i) - dep U - (r + 1) = 0 by omega, show dep (f i) - dep U - r = 0 by omega]
      · rfl
  · rw [cn_congr (q := fun _ => false) (fun i hi => ?_)]
    · exact cn_false n
    · simp only [opF]
      cases e : bel (f i) U with
      | false => rfl
      | true =>
        have := hd8 i hi e
        rw [Bool.true_and]; exact decide_eq_false (by omega)
  · rw [hO0]
    unfold psF
    split
    · rename_i e
      exact bel_div e
    · rfl
