/-- the place of the b-th of n nodes that are laid out at a place -/
def layA : Nat → Nat → Nat → Nat → Nat → Nat
  | 0, _, _, _, at_ => at_
  | f + 1, b, low, n, at_ => if b = low + n / 2 then at_ else if b < low + n / 2 then layA f b low (n / 2) (2 * at_) else layA f b (low + n / 2 + 1) (n - n / 2 - 1) (2 * at_ + 1)
theorem layA_eq {f b low n at_ : Nat} (h : b = low + n / 2) : layA (f + 1) b low n at_ = at_ := by simp only [layA, if_pos h]
theorem layA_lt {f b low n at_ : Nat} (h : b < low + n / 2) : layA (f + 1) b low n at_ = layA f b low (n / 2) (2 * at_) := by simp only [layA, if_neg (show ¬ b = low + n / 2 by omega), if_pos h]
theorem layA_gt {f b low n at_ : Nat} (h : b ≠ low + n / 2) (h2 : low + n / 2 ≤ b) : layA (f + 1) b low n at_ = layA f b (low + n / 2 + 1) (n - n / 2 - 1) (2 * at_ + 1) := by simp only [layA, if_neg h, if_neg (show ¬ b < low + n / 2 by omega)]
/-- up while a place is all right -/
def upW (ok : Nat → Bool) : Nat → Nat → Nat
  | 0, u => u
  | f + 1, u => if ok u = true then upW ok f (u / 2) else u
