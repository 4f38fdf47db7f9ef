theorem pfr_app (cd : Nat → Nat) : ∀ (F1 F2 : List Fr) (p : Nat), pfr cd (F1 ++ F2) p = pfr cd F1 p ++ pfr cd F2 (hpl F1 p)
  | [], _, _ => rfl
  | f :: F1, F2, p => by simp only [List.cons_append, pfr, hpl, pfr_app cd F1 F2, List.append_assoc]
/-- rows of a tree with a hole whose two children stand -/
def RH (n : Nat) (c f cd : Nat → Nat) (F : List Fr) (l r : Tr) : Prop := (rwl n c f).Perm (pfr cd F 1 ++ (plc cd l (2 * hpl F 1) ++ plc cd r (2 * hpl F 1 + 1)))
theorem RH_l {n : Nat} {c f cd : Nat → Nat} {F : List Fr} {l r : Tr} (h : RH n c f cd F l r) : cnW n f (2 * hpl F 1) = sz l := by
  have hp := hpl_pos F (p := 1) (by omega)
  have h1 := rwl_countP n c f (fun x => bel x.2 (2 * hpl F 1))
  unfold cnW
  rw [← h1, h.countP_eq, List.countP_append, List.countP_append]
  rw [List.countP_eq_zero.mpr (fun x hx => ?_), List.countP_eq_zero (l := plc cd r (2 * hpl F 1 + 1)) |>.mpr (fun x hx => ?_), Nat.zero_add, Nat.add_zero, ← plc_len cd l (2 * hpl F 1), List.countP_eq_length]
  · exact fun x hx => plc_bel (by omega) x hx
  · rw [bel_rl hp (plc_bel (by omega) x hx)]; decide
  · cases e : bel x.2 (2 * hpl F 1) with
    | false => decide
    | true => have := pfr_nb (by omega) x hx; rw [bel_l hp e] at this; cases this
theorem mvu_ok {n : Nat} {c f cd : Nat → Nat} {F : List Fr} {l r : Tr} (h : RH n c f cd F l r) (hz : sz l = 0 ∨ sz r = 0) : RT n c (mvuM n f (hpl F 1)) cd (plug F (if sz l = 0 then r else l)) := by
  have hp := hpl_pos F (p := 1) (by omega)
  have hl := RH_l h
  obtain ⟨o, eo⟩ : ∃ o, o = othM n f (hpl F 1) := ⟨_, rfl⟩
  obtain ⟨g, eg⟩ : ∃ g : Nat → Nat, g = fun x => if (decide (0 < x) && bel x o) = true then mvd x o (hpl F 1) else x := ⟨_, rfl⟩
  have e1 : mvuM n f (hpl F 1) = fun i => g (f i) := by
    unfold mvuM; rw [eg, eo]
  have hob : bel o (hpl F 1) = true := by
    rw [eo]; unfold othM
    split
    · exact bel_l hp (bel_self (by omega))
    · exact bel_r hp (bel_self (by omega))
  unfold RT
  rw [e1, rwl_map (by rw [eg]; simp) (fun x hx => by
    rw [eg]
    simp only []
    split
    · exact mvd_pos hp
    · exact hx)]
  rw [eg]
  refine (h.map _).trans (List.Perm.trans ?_ (plc_plug cd _ F 1).symm)
  rw [List.map_append]
  refine List.Perm.append ?_ ?_
  · refine List.Perm.of_eq ?_
    rw [List.map_congr_left (g := id) (fun x hx => ?_), List.map_id]
    have hnb := pfr_nb (by omega) x hx
    have : bel x.2 o = false := by
      cases e : bel x.2 o with
      | false => rfl
      | true => rw [bel_trans hp e hob] at hnb; cases hnb
    simp only [this, Bool.and_false, Bool.false_eq_true, if_false]; rfl
  · have hmv : ∀ (t : Tr), 0 < o → (plc cd t o).map (fun x => (x.1, if (decide (0 < x.2) && bel x.2 o) = true then mvd x.2 o (hpl F 1) else x.2)) = plc cd t (hpl F 1) := fun t ho => by
      rw [← plc_shift cd t o (hpl F 1) ho]
      refine List.map_congr_left (fun x hx => ?_)
      have hb := plc_bel ho x hx
      rw [if_pos (by rw [hb, Bool.and_true]; exact decide_eq_true (by have := bel_ge hb; omega))]
    by_cases c1 : sz l = 0
    · obtain ⟨u, rfl⟩ := sz_leaf c1
      have eo2 : o = 2 * hpl F 1 + 1 := by rw [eo]; unfold othM; rw [if_neg (by omega)]
      rw [if_pos c1]
      simp only [plc, List.nil_append]
      rw [← eo2, hmv r (by omega)]
    · obtain ⟨u, rfl⟩ := sz_leaf (A := r) (by omega)
      have eo2 : o = 2 * hpl F 1 := by rw [eo]; unfold othM; rw [if_pos (by omega)]
      rw [if_neg c1]
      simp only [plc, List.append_nil]
      rw [← eo2, hmv l (by omega)]
theorem del_one {n : Nat} {c tu cd : Nat → Nat} {F : List Fr} {q : Nat} {l r : Tr} {k : Nat} (h : RT n c tu cd (plug F (.branch q l r))) (hk : k < n) (hck : c k = cd q) (htk : tu k = hpl F 1) : RH n c (x_up tu k 0) cd F l r := by
  have hp := hpl_pos F (p := 1) (by omega)
  have h1 := (rwl_del (c := c) hk (by omega : 0 < tu k)).symm.trans (h.trans (plc_plug cd _ F 1))
  rw [hck, htk] at h1
  simp only [plc] at h1
  unfold RH
  refine List.Perm.cons_inv (a := (cd q, hpl F 1)) (h1.trans ?_)
  refine (List.Perm.append_left _ List.perm_middle).trans ?_
  exact List.perm_middle
theorem lastF_ge {p : Nat → Bool} : ∀ {n k : Nat}, k < n → p k = true → ∃ j, lastF p n = some j ∧ k ≤ j
  | 0, k, h, _ => by omega
  | n + 1, k, h, hp => by
    simp only [lastF]
    by_cases e : p n = true
    · rw [if_pos e]; exact ⟨n, rfl, by omega⟩
    · rw [if_neg e]
      have : k ≠ n := fun z => e (z ▸ hp)
      exact lastF_ge (by omega) hp
theorem firstF_ex {p : Nat → Bool} : ∀ {n k : Nat}, k < n → p k = true → ∃ j, firstF p n = some j ∧ j ≤ k
  | 0, k, h, _ => by omega
  | n + 1, k, h, hp => by
    simp only [firstF]
    by_cases e : k = n
    · subst e
      cases h1 : firstF p k with
      | some j => exact ⟨j, rfl, by have := (firstF_lt h1).1; omega⟩
      | none => simp only [hp, if_true]; exact ⟨k, rfl, Nat.le_refl _⟩
    · obtain ⟨j, h1, h2⟩ := firstF_ex (p := p) (n := n) (k := k) (by omega) hp
      rw [h1]
      exact ⟨j, rfl, h2⟩
theorem fd_ok {n : Nat} {c tu cd : Nat → Nat} {F : List Fr} {q0 : Nat} {l r : Tr} {k fd : Nat} {d : Bool} (h : RT n c tu cd (plug F (.branch q0 l r))) (hup : UP n c) (hck : c k = cd q0) (hfd : fd < n) (hkf : fd ≠ k) {y : Nat}
    (hy : c fd = y) (hb : bel (tu fd) (if d = true then 2 * hpl F 1 else 2 * hpl F 1 + 1) = true) (hpf : 0 < tu fd) (hmax : d = true → ∀ a ∈ ino l, cd a ≤ y) (hmin : d = false → ∀ a ∈ ino r, y ≤ cd a) :
    fdF d (lvQ (x_up tu k 0) (if d = true then 2 * hpl F 1 else 2 * hpl F 1 + 1)) n = some fd := by
  have hp := hpl_pos F (p := 1) (by omega)
  have hqf : lvQ (x_up tu k 0) (if d = true then 2 * hpl F 1 else 2 * hpl F 1 + 1) fd = true := by
    unfold lvQ
    rw [x_up_n _ _ hkf, hb, Bool.and_true]; exact decide_eq_true hpf
  have hall : ∀ j, j < n → lvQ (x_up tu k 0) (if d = true then 2 * hpl F 1 else 2 * hpl F 1 + 1) j = true → ∃ a ∈ ino (if d = true then l else r), cd a = c j := by
    intro j hj hq
    unfold lvQ at hq
    simp only [Bool.and_eq_true, decide_eq_true_eq] at hq
    have hjk : j ≠ k := fun e => by rw [e, x_up_s] at hq; omega
    rw [x_up_n _ _ hjk] at hq
    have hm := RT_mem h hj hq.1
    cases d with
    | true =>
      have e : plug F (.branch q0 l r) = plug (F ++ [(q0, true, r)]) l := by rw [plug_one]; rfl
      rw [e] at hm
      have h2 := hole_code hm (by rw [hpl_one]; exact hq.2)
      exact plc_ino h2
    | false =>
      have e : plug F (.branch q0 l r) = plug (F ++ [(q0, false, l)]) r := by rw [plug_one]; rfl
      rw [e] at hm
      have h2 := hole_code hm (by rw [hpl_one]; exact hq.2)
      exact plc_ino h2
  unfold fdF
  cases d with
  | true =>
    simp only [if_true] at hqf hall ⊢
    obtain ⟨j, h1, h2⟩ := lastF_ge hfd hqf
    obtain ⟨h3, h4⟩ := lastF_lt h1
    obtain ⟨a, ha, e⟩ := hall j h3 h4
    have h5 := hmax rfl a ha
    rw [h1]
    rcases Nat.lt_or_ge fd j with h6 | h6
    · have := hup fd j h6 h3; omega
    · rw [show j = fd by omega]
  | false =>
    simp only [Bool.false_eq_true, if_false] at hqf hall ⊢
    obtain ⟨j, h1, h2⟩ := firstF_ex hfd hqf
    obtain ⟨h3, h4⟩ := firstF_lt h1
    obtain ⟨a, ha, e⟩ := hall j h3 h4
    have h5 := hmin rfl a ha
    rw [h1]
    rcases Nat.lt_or_ge j fd with h6 | h6
    · have := hup j fd h6 hfd; omega
    · rw [show j = fd by omega]
/-- the in-order codes rise -/
def SRT (cd : Nat → Nat) (A : Tr) : Prop := ((ino A).map cd).Pairwise (fun a b => a < b)
theorem SRT_b {cd : Nat → Nat} {q : Nat} {l r : Tr} : SRT cd (.branch q l r) ↔ SRT cd l ∧ SRT cd r ∧ (∀ a ∈ ino l, cd a < cd q) ∧ (∀ a ∈ ino r, cd q < cd a) := by
  unfold SRT
  simp only [ino, List.map_append, List.map_cons, List.pairwise_append, List.pairwise_cons, List.mem_map, List.mem_cons]
  constructor
  · rintro ⟨h1, ⟨h2, h3⟩, h4⟩
    refine ⟨h1, h3, fun a ha => h4 _ ⟨a, ha, rfl⟩ _ (Or.inl rfl), fun a ha => h2 _ ⟨a, ha, rfl⟩⟩
  · rintro ⟨h1, h2, h3, h4⟩
    refine ⟨h1, ⟨?_, h2⟩, ?_⟩
    · rintro x ⟨a, ha, rfl⟩; exact h4 a ha
    · rintro x ⟨a, ha, rfl⟩ y (rfl | ⟨b, hb, rfl⟩)
      · exact h3 a ha
      · have := h3 a ha; have := h4 b hb; omega
theorem hpT_mem {d : Bool} : ∀ {A : Tr}, ∀ a ∈ ino (hpT d A), a ∈ ino A := fun {A} a ha => by
  have h := plug_ino (hpF d A) (hpT d A)
  rw [hp_plug] at h
  exact h.mem_iff.mpr (List.mem_append_right _ ha)
theorem hp_max {cd : Nat → Nat} : ∀ {A : Tr} {hh : Nat} {l2 r2 : Tr}, SRT cd A → hpT true A = .branch hh l2 r2 → ∀ a ∈ ino A, cd a ≤ cd hh
  | .branch q l r, hh, l2, r2, hs, he, a, ha => by
    obtain ⟨h1, h2, h3, h4⟩ := SRT_b.mp hs
    simp only [hpT, if_true] at he
    split at he
    · rename_i hz
      obtain ⟨u, rfl⟩ := sz_leaf hz
      cases he
      simp only [ino, List.mem_append, List.mem_cons, List.not_mem_nil, or_false] at ha
      rcases ha with ha | rfl
      · exact Nat.le_of_lt (h3 a ha)
      · exact Nat.le_refl _
    · have ih := hp_max h2 he
      have hm : hh ∈ ino r := hpT_mem (d := true) hh (by rw [he]; simp [ino])
      have h5 := h4 hh hm
      simp only [ino, List.mem_append, List.mem_cons] at ha
      rcases ha with ha | rfl | ha
      · have := h3 a ha; omega
      · omega
      · exact ih a ha
theorem hp_min {cd : Nat → Nat} : ∀ {A : Tr} {hh : Nat} {l2 r2 : Tr}, SRT cd A → hpT false A = .branch hh l2 r2 → ∀ a ∈ ino A, cd hh ≤ cd a
  | .branch q l r, hh, l2, r2, hs, he, a, ha => by
    obtain ⟨h1, h2, h3, h4⟩ := SRT_b.mp hs
    simp only [hpT, Bool.false_eq_true, if_false] at he
    split at he
    · rename_i hz
      obtain ⟨u, rfl⟩ := sz_leaf hz
      cases he
      simp only [ino, List.nil_append, List.mem_cons] at ha
      rcases ha with rfl | ha
      · exact Nat.le_refl _
      · exact Nat.le_of_lt (h4 a ha)
    · have ih := hp_min h1 he
      have hm : hh ∈ ino l := hpT_mem (d := false) hh (by rw [he]; simp [ino])
      have h5 := h3 hh hm
      simp only [ino, List.mem_append, List.mem_cons] at ha
      rcases ha with ha | rfl | ha
      · exact ih a ha
      · omega
      · have := h4 a ha; omega
theorem SRT_plug {cd : Nat → Nat} : ∀ {F : List Fr} {X : Tr}, SRT cd (plug F X) → SRT cd X
  | [], _, h => h
  | (q, b, s) :: F, X, h => by
    cases b
    · exact SRT_plug (SRT_b.mp h).2.1
    · exact SRT_plug (SRT_b.mp h).1
