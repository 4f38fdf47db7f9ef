def x_ne (a b : Nat) : Prop := a ≠ b
theorem x_ne.symm {a b : Nat} (h : x_ne a b) : x_ne b a := Ne.symm h
/-- rounds of laying out points: who is open, where each one is -/
def LOR (k : Nat) (pc : Nat → Nat) (OP : Nat → Nat → Bool) (PS : Nat → Nat → Nat) (R : Nat) : Prop :=
  (∀ r i, r ≤ R → i < k → 0 < PS r i ∧ PS r i < 2 ^ 26) ∧
  (∀ r i, r < R → i < k → OP r i = true → nxV k pc (OP r) (PS r) i = if OP (r + 1) i = true then PS (r + 1) i else 0) ∧
  (∀ r i, r < R → i < k → OP (r + 1) i = true → OP r i = true) ∧
  (∀ r i, r < R → i < k → OP (r + 1) i = false → PS (r + 1) i = PS r i) ∧ cn (OP R) k = 0
theorem cn_zero {p : Nat → Bool} {n : Nat} (h : cn p n = 0) : ∀ i, i < n → p i = false := by
  intro i hi
  cases e : p i with
  | false => rfl
  | true =>
    have h1 := cn_mono p (n := n) (k := i + 1) (by omega)
    simp only [cn, e, if_true] at h1
    omega
theorem cn_false : ∀ n : Nat, cn (fun _ => false) n = 0
  | 0 => rfl
  | n + 1 => by simp only [cn, cn_false n]; simp
theorem LOR.fin {k : Nat} {pc : Nat → Nat} {OP : Nat → Nat → Bool} {PS : Nat → Nat → Nat} {R : Nat} (h : LOR k pc OP PS R) : ∀ d r, r + d = R → cn (OP r) k = 0 → ∀ i, i < k → PS R i = PS r i
  | 0, r, hr, _, i, _ => by
    have : r = R := by omega
    rw [this]
  | d + 1, r, hr, hz, i, hi => by
    have h1 : ∀ i, i < k → OP (r + 1) i = false := fun i hi => by
      cases e : OP (r + 1) i with
      | false => rfl
      | true =>
        have := h.2.2.1 r i (by omega) hi e
        rw [cn_zero hz i hi] at this
        cases this
    have h2 : cn (OP (r + 1)) k = 0 := by
      rw [cn_congr (q := fun _ => false) h1]
      exact cn_false k
    rw [LOR.fin h d (r + 1) (by omega) h2 i hi, h.2.2.2.1 r i (by omega) hi (h1 i hi)]
def topF (hv : Nat → Bool) : Nat → Nat → Nat → Nat
  | 0, _, fd => fd
  | f + 1, u, fd => if u = 0 then fd else topF hv f (u / 2) (if hv u = true then u else fd)
theorem topF_0 {hv : Nat → Bool} {f fd : Nat} : topF hv f 0 fd = fd := by
  cases f <;> simp [topF]
theorem topF_go {hv : Nat → Bool} {f u fd : Nat} (h : 0 < u) : topF hv (f + 1) u fd = topF hv f (u / 2) (if hv u = true then u else fd) := by
  simp only [topF, if_neg (show ¬ u = 0 by omega)]
def hvF (n : Nat) (ps : Nat → Nat) (u : Nat) : Bool := decide (2 * cnW n ps u < 3 * cnW n ps (2 * u)) || decide (2 * cnW n ps u < 3 * cnW n ps (2 * u + 1))
