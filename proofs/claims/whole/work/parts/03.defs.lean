/-! trees: addresses at the inner nodes; what the cells are of a row of nodes, a tree -/
abbrev Tr : Type := Lean.RArray Unit
def sz : Tr → Nat
  | .leaf _ => 0
  | .branch _ l r => sz l + sz r + 1
def ht : Tr → Nat
  | .leaf _ => 0
  | .branch _ l r => max (ht l) (ht r) + 1
def ino : Tr → List Nat
  | .leaf _ => []
  | .branch q l r => ino l ++ q :: ino r
theorem ino_len : ∀ t : Tr, (ino t).length = sz t
  | .leaf _ => rfl
  | .branch q l r => by simp [ino, sz, ino_len l, ino_len r]; omega
def TP (K : Nat → Nat) (Q : Nat → Nat → Option Nat) : Tr → Option Nat → Prop
  | .leaf _, o => o = none
  | .branch q l r, o => o = some q ∧ K q = 3 ∧ TP K Q l (Q q 3) ∧ TP K Q r (Q q 4)
def WT (I : Nat → Nat → Int32) : Tr → Prop
  | .leaf _ => True
  | .branch q l r => I q 2 = nI (sz l + sz r + 1) ∧ WT I l ∧ WT I r
theorem TP.congr {K K' : Nat → Nat} {Q Q' : Nat → Nat → Option Nat} : ∀ {t : Tr} {o : Option Nat}, TP K Q t o → (∀ a, a ∈ ino t → K' a = K a ∧ Q' a 3 = Q a 3 ∧ Q' a 4 = Q a 4) → TP K' Q' t o
  | .leaf _, _, h, _ => h
  | .branch q l r, o, h, hc => by
    obtain ⟨h1, h2, h3, h4⟩ := h
    have hq := hc q (by simp [ino])
    refine ⟨h1, by rw [hq.1]; exact h2, ?_, ?_⟩
    · rw [hq.2.1]; exact TP.congr h3 (fun a ha => hc a (by simp [ino, ha]))
    · rw [hq.2.2]; exact TP.congr h4 (fun a ha => hc a (by simp [ino, ha]))
theorem WT.congr {I I' : Nat → Nat → Int32} : ∀ {t : Tr}, WT I t → (∀ a, a ∈ ino t → I' a 2 = I a 2) → WT I' t
  | .leaf _, _, _ => trivial
  | .branch q l r, h, hc => by
    obtain ⟨h1, h2, h3⟩ := h
    exact ⟨by rw [hc q (by simp [ino])]; exact h1, WT.congr h2 (fun a ha => hc a (by simp [ino, ha])), WT.congr h3 (fun a ha => hc a (by simp [ino, ha]))⟩
theorem TP.kind {K : Nat → Nat} {Q : Nat → Nat → Option Nat} : ∀ {t : Tr} {o : Option Nat}, TP K Q t o → ∀ a, a ∈ ino t → K a = 3
  | .leaf _, _, _, a, ha => by simp [ino] at ha
  | .branch q l r, o, h, a, ha => by
    obtain ⟨h1, h2, h3, h4⟩ := h
    simp only [ino, List.mem_append, List.mem_cons] at ha
    rcases ha with ha | rfl | ha
    · exact TP.kind h3 a ha
    · exact h2
    · exact TP.kind h4 a ha
def RowOK (K N : Nat → Nat) (I : Nat → Nat → Int32) (Q : Nat → Nat → Option Nat) (rq nq cap n : Nat) : Prop := K rq = 4 ∧ Q rq 0 = some nq ∧ K nq = 23 ∧ N nq = cap ∧ cap < 1000 ∧ I rq 1 = nI n ∧ n ≤ cap
/-- a place's node, where the place is in the row -/
def atv (n : Nat) (f : Nat → Option Nat) (x : Int32) : Option Nat := if 0 ≤ x.toInt ∧ x.toInt < n then f x.toInt.toNat else none
theorem atv_in {n i : Nat} (f : Nat → Option Nat) (h : i < n) (hn : n < 1000) : atv n f (nI i) = f i := by
  have e := nI_toInt (n := i) (by omega)
  simp only [atv, e]
  rw [if_pos (by omega)]
  simp
theorem atv_out {n : Nat} (f : Nat → Option Nat) {x : Int32} (h : x < 0 ∨ nI n ≤ x) (hn : n < 1000) : atv n f x = none := by
  simp only [atv]
  rw [if_neg]
  rcases h with h | h
  · have := Int32.lt_iff_toInt_lt.mp h
    simp at this
    omega
  · have := Int32.le_iff_toInt_le.mp h
    rw [nI_toInt (by omega)] at this
    omega
def wOf (I : Nat → Nat → Int32) : Option Nat → Int32
  | none => nI 0
  | some q => I q 2
theorem wOf_TP {K : Nat → Nat} {I : Nat → Nat → Int32} {Q : Nat → Nat → Option Nat} {t : Tr} {o : Option Nat} (h : TP K Q t o) (hw : WT I t) : wOf I o = nI (sz t) := by
  cases t with
  | leaf _ => cases h; rfl
  | branch q l r => obtain ⟨rfl, -⟩ := h; exact hw.1
theorem i32_lt {a b : Int32} : a < b ↔ a.toInt < b.toInt := Int32.lt_iff_toInt_lt
theorem i32_le {a b : Int32} : a ≤ b ↔ a.toInt ≤ b.toInt := Int32.le_iff_toInt_le
theorem i32_eq {a b : Int32} : a = b ↔ a.toInt = b.toInt := Int32.toInt_inj.symm
theorem nn_idx {x : Int32} {n : Nat} (h0 : ¬ x < 0) (h1 : ¬ nI n ≤ x) (hn : n < 2 ^ 31) : ∃ j, x = nI j ∧ j < n := by
  obtain ⟨j, hj, rfl⟩ := nI_of h0
  refine ⟨j, rfl, ?_⟩
  rw [nI_leI hn hj] at h1
  omega
