theorem selF_uniq {al : Nat → Bool} : ∀ {n k j : Nat}, k < n → al k = true → cn al k = j → selF al n j = k
  | 0, k, j, h, _, _ => by omega
  | n + 1, k, j, h, ha, hc => by
    simp only [selF]
    by_cases e : al n = true ∧ cn al n = j
    · rw [if_pos e]
      rcases Nat.lt_or_ge k n with h2 | h2
      · exfalso
        have h3 := cn_mono al (n := n) (k := k + 1) (by omega)
        simp only [cn, ha, if_true] at h3
        omega
      · omega
    · rw [if_neg e]
      have hkn : k ≠ n := fun z => e (by subst z; exact ⟨ha, hc⟩)
      exact selF_uniq (by omega) ha hc
theorem cn_step {al : Nat → Bool} {k : Nat} : cn al (k + 1) = cn al k + (if al k = true then 1 else 0) := rfl
theorem oI_ne {o : Option Nat} (h : ¬ oI o = -1) : o ≠ none := fun e => h (by rw [e]; rfl)
theorem oI_nn (k : Nat) (hk : k < 1000) : ¬ oI (some k) = -1 := fun h => by
  have := oI_none h (fun j hj => by cases hj; exact hk)
  cases this
