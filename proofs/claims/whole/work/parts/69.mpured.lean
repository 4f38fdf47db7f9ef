def leafX (nd : Nat → Option Nat) (lt : Nat → Nat → Bool) : Nat → Nat → Option Nat
  | 0, _ => none
  | f + 1, p => match nd p with
    | none => some p
    | some k => leafX nd lt f (2 * p + (if lt p k = true then 0 else 1))
theorem leafX_none {nd : Nat → Option Nat} {lt : Nat → Nat → Bool} {f p : Nat} (h : nd p = none) : leafX nd lt (f + 1) p = some p := by simp only [leafX, h]
theorem leafX_some {nd : Nat → Option Nat} {lt : Nat → Nat → Bool} {f p k : Nat} (h : nd p = some k) : leafX nd lt (f + 1) p = leafX nd lt f (2 * p + (if lt p k = true then 0 else 1)) := by simp only [leafX, h]
theorem leafX_pos {nd : Nat → Option Nat} {lt : Nat → Nat → Bool} {f p q : Nat} (h : leafX nd lt f p = some q) : ∃ g, f = g + 1 := by
  cases f with
  | zero => cases h
  | succ g => exact ⟨g, rfl⟩
theorem up_arr {J : Nat → Nat → Int32} {t n : Nat} {α : Type} {f : Nat → α} {v : α} {g : α → Int32} (h0 : ∀ i, i < n → J t i = g (f i)) : ∀ i, i < n + 1 → x_u2 J t n (g v) t i = g (x_up f n v i) := fun i hi => by
  by_cases e : i = n
  · subst e; rw [x_u2_s, x_up_s]
  · rw [x_u2_j _ _ e, x_up_n _ _ e]; exact h0 i (by omega)
