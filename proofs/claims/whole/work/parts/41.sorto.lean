/-- a number that falls to -1 -/
def dn : Nat → Int32
  | 0 => -1
  | g + 1 => nI g
theorem dn_dec (g : Nat) : nI g + (-1) = dn g := by
  cases g with
  | zero => decide
  | succ g => exact pk_m1 g
theorem dn_neg {f : Nat} (h : dn f < 0) (hf : f < 2 ^ 31) : f = 0 := by
  cases f with
  | zero => rfl
  | succ g => exact absurd h (nI_pos (by omega))
theorem dn_nneg {f : Nat} (h : ¬ dn f < 0) : ∃ g, f = g + 1 := by
  cases f with
  | zero => exact absurd (by decide) h
  | succ g => exact ⟨g, rfl⟩
theorem bit_c {n j : Nat} (hn : n < 256) (hj : j < 9) : nI n &&& nI (2 ^ j) = 0 ↔ n / 2 ^ j % 2 = 0 := by
  have h9 : ∀ i : Fin 256, ∀ j : Fin 9, nI i.val &&& nI (2 ^ j.val) = 0 ↔ i.val / 2 ^ j.val % 2 = 0 := by decide +kernel
  exact h9 ⟨n, hn⟩ ⟨j, hj⟩
theorem bit_m {n j : Nat} (hn : n < 256) (hj : j < 9) : (nI n >>> (nI j &&& 31)) &&& nI 1 = nI 1 ↔ n / 2 ^ j % 2 = 1 := by
  have h9 : ∀ i : Fin 256, ∀ j : Fin 9, (nI i.val >>> (nI j.val &&& 31)) &&& nI 1 = nI 1 ↔ i.val / 2 ^ j.val % 2 = 1 := by decide +kernel
  exact h9 ⟨n, hn⟩ ⟨j, hj⟩
/-- the parts of so many entries, in the order of the entries -/
def dls (n : Nat) : Nat → List Nat
  | 0 => []
  | f + 1 => (if n / 2 ^ f % 2 = 1 then List.replicate (2 ^ f) f else []) ++ dls n f
theorem dls_len (n : Nat) : ∀ f, (dls n f).length = n % 2 ^ f
  | 0 => by simp [dls, Nat.mod_one]
  | f + 1 => by
    simp only [dls, List.length_append, dls_len n f]
    rw [Nat.mod_pow_succ]
    have h2 : n / 2 ^ f % 2 < 2 := Nat.mod_lt _ (by omega)
    split
    · rename_i h
      rw [h, List.length_replicate]; omega
    · rename_i h
      rw [show n / 2 ^ f % 2 = 0 by omega]; simp
def endQ (Q : Nat → Nat → Option Nat) (w : Option Nat) : Nat → Nat → Option Nat := match w with
  | none => Q
  | some l => x_u2 Q l 3 none
