/-- down from a place to where no node is -/
def leafW (nd : Nat → Option Nat) (lt : Nat → Bool) : Nat → Nat → Option Nat
  | 0, _ => none
  | f + 1, p => match nd p with
    | none => some p
    | some k => leafW nd lt f (2 * p + (if lt k = true then 0 else 1))
theorem leafW_none {nd : Nat → Option Nat} {lt : Nat → Bool} {f p : Nat} (h : nd p = none) : leafW nd lt (f + 1) p = some p := by simp only [leafW, h]
theorem leafW_some {nd : Nat → Option Nat} {lt : Nat → Bool} {f p k : Nat} (h : nd p = some k) : leafW nd lt (f + 1) p = leafW nd lt f (2 * p + (if lt k = true then 0 else 1)) := by simp only [leafW, h]
theorem leafW_pos {nd : Nat → Option Nat} {lt : Nat → Bool} {f p q : Nat} (h : leafW nd lt f p = some q) : ∃ g, f = g + 1 := by
  cases f with
  | zero => cases h
  | succ g => exact ⟨g, rfl⟩
theorem pb_lt {p f B : Nat} (h : (p + 1) * 2 ^ f ≤ B) : p < B := by
  have h1 : p + 1 ≤ (p + 1) * 2 ^ f := Nat.le_mul_of_pos_right _ (Nat.two_pow_pos f)
  omega
theorem pb_dn {p f B e : Nat} (h : (p + 1) * 2 ^ (f + 1) ≤ B) (he : e ≤ 1) : (2 * p + e + 1) * 2 ^ f ≤ B := by
  refine Nat.le_trans (Nat.mul_le_mul_right _ (show 2 * p + e + 1 ≤ 2 * (p + 1) by omega)) ?_
  rw [Nat.mul_comm 2, Nat.mul_assoc, Nat.mul_comm 2, ← Nat.pow_succ]
  exact h
