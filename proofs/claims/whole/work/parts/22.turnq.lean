/-- the way to the heir: to the right always, or to the left always -/
def hps (d : Bool) : Tr → List Nat
  | .leaf _ => []
  | .branch q l r => q :: (if d = true then hps d r else hps d l)
theorem hps_mem {d : Bool} : ∀ {A : Tr} {x : Nat}, x ∈ hps d A → x ∈ ino A
  | .branch q l r, x, h => by
    simp only [hps, List.mem_cons] at h
    simp only [ino, List.mem_append, List.mem_cons]
    rcases h with h | h
    · exact Or.inr (Or.inl h)
    · split at h
      · exact Or.inr (Or.inr (hps_mem h))
      · exact Or.inl (hps_mem h)
theorem hps_len {d : Bool} : ∀ (A : Tr), (hps d A).length ≤ ht A
  | .leaf _ => Nat.le_refl _
  | .branch q l r => by
    have h1 := hps_len (d := d) l
    have h2 := hps_len (d := d) r
    simp only [hps, ht, List.length_cons]
    split <;> omega
/-- frames of the search -/
def fpF (cd : Nat → Nat) (c : Nat) : Tr → List Fr
  | .leaf _ => []
  | .branch q l r => if cd q = c then [] else if c < cd q then (q, true, r) :: fpF cd c l else (q, false, l) :: fpF cd c r
def fpT (cd : Nat → Nat) (c : Nat) : Tr → Tr
  | .leaf u => .leaf u
  | .branch q l r => if cd q = c then .branch q l r else if c < cd q then fpT cd c l else fpT cd c r
def rtq : Tr → List Nat
  | .leaf _ => []
  | .branch q _ _ => [q]
theorem fp_plug (cd : Nat → Nat) (c : Nat) : ∀ A : Tr, plug (fpF cd c A) (fpT cd c A) = A
  | .leaf _ => rfl
  | .branch q l r => by
    simp only [fpF, fpT]
    split
    · rfl
    · split
      · simp only [plug, fp_plug cd c l, mkf, if_true]
      · simp only [plug, fp_plug cd c r, mkf, Bool.false_eq_true, if_false]
theorem fp_spath (cd : Nat → Nat) (c : Nat) : ∀ (A : Tr) (d : Nat), spath od1 cd c A d = (fpF cd c A).map (·.1) ++ rtq (fpT cd c A)
  | .leaf _, _ => rfl
  | .branch q l r, d => by
    have h1 := fp_spath cd c l (d + 1)
    have h2 := fp_spath cd c r (d + 1)
    simp only [fpF, fpT, spath]
    by_cases e : cd q = c
    · rw [if_pos e, if_pos e, if_pos e]; rfl
    · rw [if_neg e, if_neg e, if_neg e]
      by_cases e2 : c < cd q
      · rw [if_pos (show od1 d c < od1 d (cd q) from e2), if_pos e2, if_pos e2, h1]; rfl
      · rw [if_neg (show ¬ od1 d c < od1 d (cd q) from e2), if_neg e2, if_neg e2, h2]; rfl
theorem fp_sfind (cd : Nat → Nat) (c : Nat) : ∀ (A : Tr) (d : Nat), sfind od1 cd c A d = (rtq (fpT cd c A)).head?
  | .leaf _, _ => rfl
  | .branch q l r, d => by
    have h1 := fp_sfind cd c l (d + 1)
    have h2 := fp_sfind cd c r (d + 1)
    simp only [fpT, sfind]
    by_cases e : cd q = c
    · rw [if_pos e, if_pos e]; rfl
    · rw [if_neg e, if_neg e]
      by_cases e2 : c < cd q
      · rw [if_pos (show od1 d c < od1 d (cd q) from e2), if_pos e2, h1]
      · rw [if_neg (show ¬ od1 d c < od1 d (cd q) from e2), if_neg e2, h2]
/-- frames of the way to the heir, and the heir's own tree -/
def hpF (d : Bool) : Tr → List Fr
  | .leaf _ => []
  | .branch q l r => if d = true then (if sz r = 0 then [] else (q, false, l) :: hpF d r) else (if sz l = 0 then [] else (q, true, r) :: hpF d l)
def hpT (d : Bool) : Tr → Tr
  | .leaf u => .leaf u
  | .branch q l r => if d = true then (if sz r = 0 then .branch q l r else hpT d r) else (if sz l = 0 then .branch q l r else hpT d l)
theorem sz_leaf {A : Tr} (h : sz A = 0) : ∃ u, A = .leaf u := by
  cases A with
  | leaf u => exact ⟨u, rfl⟩
  | branch q l r => simp [sz] at h
theorem hp_plug (d : Bool) : ∀ A : Tr, plug (hpF d A) (hpT d A) = A
  | .leaf _ => rfl
  | .branch q l r => by
    simp only [hpF, hpT]
    split
    · split
      · rfl
      · simp only [plug, hp_plug d r, mkf, Bool.false_eq_true, if_false]
    · split
      · rfl
      · simp only [plug, hp_plug d l, mkf, if_true]
theorem hp_hps (d : Bool) : ∀ A : Tr, hps d A = (hpF d A).map (·.1) ++ rtq (hpT d A)
  | .leaf _ => rfl
  | .branch q l r => by
    simp only [hpF, hpT, hps]
    split
    · rename_i hd
      split
      · rename_i h; obtain ⟨u, rfl⟩ := sz_leaf h; rfl
      · simp [hp_hps d r]
    · rename_i hd
      split
      · rename_i h; obtain ⟨u, rfl⟩ := sz_leaf h; rfl
      · simp [hp_hps d l]
theorem hp_ex (d : Bool) : ∀ {A : Tr}, 0 < sz A → ∃ q l r, hpT d A = .branch q l r ∧ sz (if d = true then r else l) = 0
  | .branch q l r, _ => by
    have h1 := fun h => hp_ex d (A := l) h
    have h2 := fun h => hp_ex d (A := r) h
    cases d
    · by_cases h : sz l = 0
      · exact ⟨q, l, r, by simp [hpT, h], h⟩
      · obtain ⟨q1, l1, r1, e, e2⟩ := h1 (Nat.pos_of_ne_zero h)
        exact ⟨q1, l1, r1, by simp only [hpT, Bool.false_eq_true, if_false, if_neg h]; exact e, e2⟩
    · by_cases h : sz r = 0
      · exact ⟨q, l, r, by simp [hpT, h], h⟩
      · obtain ⟨q1, l1, r1, e, e2⟩ := h2 (Nat.pos_of_ne_zero h)
        exact ⟨q1, l1, r1, by simp only [hpT, if_true, if_neg h]; exact e, e2⟩
theorem x_u2_id {α : Type} (f : Nat → Nat → α) (a k : Nat) : x_u2 f a k (f a k) = f := by
  funext q j
  by_cases e : q = a
  · subst e
    by_cases e2 : j = k
    · subst e2; exact x_u2_s _ _ _ _
    · exact x_u2_j _ _ e2
  · rw [x_u2_a _ _ e]
theorem fp_dir (cd : Nat → Nat) (c : Nat) : ∀ (A : Tr), ∀ f ∈ fpF cd c A, f.2.1 = decide (c < cd f.1)
  | .leaf _, f, h => by simp [fpF] at h
  | .branch q l r, f, h => by
    have h1 := fp_dir cd c l f
    have h2 := fp_dir cd c r f
    simp only [fpF] at h
    by_cases e : cd q = c
    · rw [if_pos e] at h; simp at h
    · rw [if_neg e] at h
      by_cases e2 : c < cd q
      · rw [if_pos e2] at h
        rcases List.mem_cons.mp h with rfl | h
        · simp [e2]
        · exact h1 h
      · rw [if_neg e2] at h
        rcases List.mem_cons.mp h with rfl | h
        · simp [e2]
        · exact h2 h
theorem plug_WT {I : Nat → Nat → Int32} : ∀ {F : List Fr} {t : Tr}, WT I (plug F t) → (∀ f ∈ F, WT I f.2.2) ∧ WT I t
  | [], t, h => ⟨fun f hf => by simp at hf, h⟩
  | f :: F, t, h => by
    simp only [plug, mkf_WT] at h
    have h2 := plug_WT h.2.2
    refine ⟨fun g hg => ?_, h2.2⟩
    rcases List.mem_cons.mp hg with rfl | hg
    · exact h.2.1
    · exact h2.1 g hg
