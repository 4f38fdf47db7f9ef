/-- the index of the j-th living row -/
def selF (al : Nat → Bool) : Nat → Nat → Nat
  | 0, _ => 0
  | k + 1, j => if al k = true ∧ cn al k = j then k else selF al k j
theorem selF_ok {al : Nat → Bool} : ∀ {n j : Nat}, j < cn al n → selF al n j < n ∧ al (selF al n j) = true ∧ cn al (selF al n j) = j
  | 0, j, h => by simp [cn] at h
  | k + 1, j, h => by
    simp only [selF]
    by_cases e : al k = true ∧ cn al k = j
    · rw [if_pos e]; exact ⟨Nat.lt_succ_self _, e.1, e.2⟩
    · rw [if_neg e]
      have h2 : j < cn al k := by
        simp only [cn] at h
        by_cases e2 : al k = true
        · rw [if_pos e2] at h
          have : cn al k ≠ j := fun z => e ⟨e2, z⟩
          omega
        · rw [if_neg e2] at h; omega
      have := selF_ok h2
      exact ⟨by omega, this.2⟩
theorem bel_self {a : Nat} (h : 0 < a) : bel a a = true := (bel_iff h).mpr ⟨0, 0, by simp, by simp⟩
theorem cn_true (n : Nat) : cn (fun _ => true) n = n := cn_all (fun _ _ => rfl)
