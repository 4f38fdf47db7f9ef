/-- the model's rows of points -/
def PV (I : Nat → Nat → Int32) (m : Nat) (ar : Nat → Nat) (k : Nat) (pc : Nat → Nat) (pa : Nat → Bool) (ps : Nat → Nat) : Prop :=
  I m 10 = nI k ∧ k ≤ 121 ∧ (∀ i, i < k → I (ar 12) i = nI (pc i / 100)) ∧ (∀ i, i < k → I (ar 13) i = nI (pc i % 100)) ∧ (∀ i, i < k → I (ar 14) i = xb (pa i)) ∧ (∀ i, i < k → I (ar 15) i = nI (ps i))
def PB (k : Nat) (pc ps : Nat → Nat) : Prop := ∀ i, i < k → pc i < 10000 ∧ 0 < ps i ∧ ps i < 2 ^ 20
def PFR (I I1 : Nat → Nat → Int32) (m : Nat) (ar : Nat → Nat) : Prop := ∀ a, a ≠ m → a ≠ ar 12 → a ≠ ar 13 → a ≠ ar 14 → a ≠ ar 15 → a ≠ ar 16 → a ≠ ar 17 → I1 a = I a
def wtQ (op : Nat → Bool) (ps : Nat → Nat) (i : Nat) : Nat → Bool := fun j => op j && decide (ps j = ps i)
def bfQ (pc : Nat → Nat) (op : Nat → Bool) (ps : Nat → Nat) (i : Nat) : Nat → Bool := fun j => op j && decide (ps j = ps i) && decide (od5 (dep (ps i)) (pc j) < od5 (dep (ps i)) (pc i))
def nxV (k : Nat) (pc : Nat → Nat) (op : Nat → Bool) (ps : Nat → Nat) (i : Nat) : Nat :=
  if cn (bfQ pc op ps i) k = cn (wtQ op ps i) k / 2 then 0 else 2 * ps i + (if cn (bfQ pc op ps i) k < cn (wtQ op ps i) k / 2 then 0 else 1)
theorem aw_eq {b h : Nat} (hb : b < 1000) (hh : h < 1000) : nI b - nI h = 0 ↔ b = h := by
  rw [i32_eq, pk_sub_toInt (by omega) (by omega)]
  have : (0 : Int32).toInt = 0 := by decide
  omega
theorem aw_ge {b h : Nat} (hb : b < 1000) (hh : h < 1000) : 0 ≤ nI b - nI h ↔ h ≤ b := by
  rw [i32_le, pk_sub_toInt (by omega) (by omega)]
  have : (0 : Int32).toInt = 0 := by decide
  omega
theorem od5_e {d a b : Nat} (hd : d % 2 = 0) (ha : a < 10000) (hb : b < 10000) : od5 d a < od5 d b ↔ a / 100 < b / 100 ∨ a / 100 = b / 100 ∧ a % 100 < b % 100 := by
  unfold od5
  rw [if_pos hd, if_pos hd]
  omega
theorem od5_o {d a b : Nat} (hd : ¬ d % 2 = 0) (ha : a < 10000) (hb : b < 10000) : od5 d a < od5 d b ↔ a % 100 < b % 100 ∨ a % 100 = b % 100 ∧ a / 100 < b / 100 := by
  unfold od5
  rw [if_neg hd, if_neg hd]
  omega
