def firstF (p : Nat → Bool) : Nat → Option Nat
  | 0 => none
  | k + 1 => match firstF p k with
    | some j => some j
    | none => if p k = true then some k else none
theorem firstF_lt {p : Nat → Bool} : ∀ {n k : Nat}, firstF p n = some k → k < n ∧ p k = true
  | 0, k, h => by cases h
  | n + 1, k, h => by
    simp only [firstF] at h
    split at h
    · rename_i j hj
      have := firstF_lt hj
      cases h
      exact ⟨by omega, this.2⟩
    · split at h
      · rename_i hp
        cases h
        exact ⟨Nat.lt_succ_self _, hp⟩
      · cases h
theorem firstF_none {p : Nat → Bool} : ∀ {n : Nat}, firstF p n = none → ∀ i, i < n → p i = false
  | 0, _, i, hi => by omega
  | n + 1, h, i, hi => by
    simp only [firstF] at h
    split at h
    · cases h
    · rename_i h0
      split at h
      · cases h
      · rename_i hp
        by_cases e : i = n
        · subst e; simpa using hp
        · exact firstF_none h0 i (by omega)
/-- the last one (to the left), or the first one -/
def fdF (l : Bool) (p : Nat → Bool) (n : Nat) : Option Nat := if l = true then lastF p n else firstF p n
theorem fdF_lt {l : Bool} {p : Nat → Bool} {n k : Nat} (h : fdF l p n = some k) : k < n ∧ p k = true := by
  unfold fdF at h
  split at h
  · exact lastF_lt h
  · exact firstF_lt h
theorem fdF_none {l : Bool} {p : Nat → Bool} {n : Nat} (h : fdF l p n = none) : ∀ i, i < n → p i = false := by
  unfold fdF at h
  split at h
  · exact lastF_none.mp h
  · exact firstF_none h
theorem fdF_no {l : Bool} {p : Nat → Bool} {k : Nat} (h : p k = false) : fdF l p (k + 1) = fdF l p k := by
  unfold fdF
  simp only [lastF, firstF, h, Bool.false_eq_true, if_false]
  split
  · rfl
  · cases firstF p k <;> rfl
theorem fdF_yes {l : Bool} {p : Nat → Bool} {k : Nat} (h : p k = true) (h2 : l = true ∨ fdF l p k = none) : fdF l p (k + 1) = some k := by
  unfold fdF at h2 ⊢
  simp only [lastF, firstF, h, if_true]
  cases l with
  | true => rfl
  | false =>
    simp only [Bool.false_eq_true, if_false, false_or] at h2 ⊢
    rw [h2]
theorem fdF_keep {p : Nat → Bool} {k j : Nat} (h2 : fdF false p k = some j) : fdF false p (k + 1) = some j := by
  unfold fdF at h2 ⊢
  simp only [Bool.false_eq_true, if_false] at h2 ⊢
  simp only [firstF, h2]
theorem cn_pos {p : Nat → Bool} : ∀ {n : Nat}, 0 < cn p n → ∃ i, i < n ∧ p i = true
  | 0, h => by simp [cn] at h
  | n + 1, h => by
    simp only [cn] at h
    by_cases e : p n = true
    · exact ⟨n, by omega, e⟩
    · rw [if_neg e] at h
      obtain ⟨i, hi, hp⟩ := cn_pos (p := p) (n := n) (by omega)
      exact ⟨i, by omega, hp⟩
theorem bel_up {x a : Nat} (h : x < a) : bel x a = false := by
  simp only [bel, decide_eq_false_iff_not]
  omega
/-- a key leaves: who takes its place, where the hole is then -/
def lvQ (tu1 : Nat → Nat) (fr : Nat) : Nat → Bool := fun j => decide (0 < tu1 j) && bel (tu1 j) fr
def levM (n : Nat) (tu : Nat → Nat) (k : Nat) : (Nat → Nat) × Nat :=
  if 0 < cnW n tu (2 * tu k) ∧ 0 < cnW n tu (2 * tu k + 1) then
    (x_up (x_up tu k 0) ((fdF (decide (cnW n tu (2 * tu k + 1) < cnW n tu (2 * tu k))) (lvQ (x_up tu k 0) (if cnW n tu (2 * tu k + 1) < cnW n tu (2 * tu k) then 2 * tu k else 2 * tu k + 1)) n).getD 0) (tu k),
     x_up tu k 0 ((fdF (decide (cnW n tu (2 * tu k + 1) < cnW n tu (2 * tu k))) (lvQ (x_up tu k 0) (if cnW n tu (2 * tu k + 1) < cnW n tu (2 * tu k) then 2 * tu k else 2 * tu k + 1)) n).getD 0))
  else (x_up tu k 0, tu k)
def othM (n : Nat) (tu : Nat → Nat) (pl : Nat) : Nat := if 0 < cnW n tu (2 * pl) then 2 * pl else 2 * pl + 1
def mvuM (n : Nat) (tu : Nat → Nat) (pl : Nat) : Nat → Nat := fun j => if (decide (0 < tu j) && bel (tu j) (othM n tu pl)) = true then mvd (tu j) (othM n tu pl) pl else tu j
