/-- squared distance along one axis -/
def sqd (a x : Nat) : Nat := (a - x) * (a - x) + (x - a) * (x - a)
theorem sq_i (a x : Nat) : (nI a - nI x) * (nI a - nI x) = nI (sqd a x) := by
  unfold sqd
  rcases Nat.le_total x a with h | h
  · rw [pk_sub h, pk_mul, show x - a = 0 by omega]; simp
  · have e : nI a - nI x = -(nI (x - a)) := by
      rw [← pk_sub h, Int32.neg_sub]
    rw [e, Int32.neg_mul_neg, pk_mul, show a - x = 0 by omega]; simp
theorem sqd_lt {a x : Nat} (ha : a < 100) (hx : x < 100) : sqd a x < 20000 := by
  unfold sqd
  have h1 : (a - x) * (a - x) ≤ 99 * 99 := Nat.mul_le_mul (by omega) (by omega)
  have h2 : (x - a) * (x - a) ≤ 99 * 99 := Nat.mul_le_mul (by omega) (by omega)
  rcases Nat.le_total x a with h | h
  · rw [show x - a = 0 by omega] at h2 ⊢; simp at *; omega
  · rw [show a - x = 0 by omega] at h1 ⊢; simp at *; omega
def far (x y c : Nat) : Nat := sqd (c / 100) x + sqd (c % 100) y
/-- the nearest one so far, and its distance -/
def nrM (pc : Nat → Nat) (pa : Nat → Bool) (x y : Nat) : Nat → Nat × Nat
  | 0 => (0, 1000000)
  | k + 1 => if pa k = true ∧ (far x y (pc k) < (nrM pc pa x y k).2 ∨ far x y (pc k) = (nrM pc pa x y k).2 ∧ pc k < (nrM pc pa x y k).1) then (pc k, far x y (pc k)) else nrM pc pa x y k
theorem far_lt {x y c : Nat} (hx : x < 100) (hy : y < 100) (hc : c < 10000) : far x y c < 40000 := by
  have h1 := sqd_lt (a := c / 100) (x := x) (by omega) hx
  have h2 := sqd_lt (a := c % 100) (x := y) (by omega) hy
  unfold far
  omega
theorem nrM_b {pc : Nat → Nat} {pa : Nat → Bool} {x y : Nat} (hx : x < 100) (hy : y < 100) : ∀ {n : Nat}, (∀ i, i < n → pc i < 10000) → (nrM pc pa x y n).1 < 10000 ∧ (nrM pc pa x y n).2 ≤ 1000000
  | 0, _ => by simp [nrM]
  | k + 1, h => by
    have ih := nrM_b (pa := pa) hx hy (n := k) (fun i hi => h i (by omega))
    have h1 := h k (by omega)
    have h2 := far_lt hx hy h1
    simp only [nrM]
    split
    · exact ⟨h1, by simp only []; omega⟩
    · exact ih
