theorem ccnt_congr {f g : Nat → Bool} : ∀ {l : List Nat}, (∀ a ∈ l, f a = g a) → ccnt f l = ccnt g l
  | [], _ => rfl
  | a :: l, h => by
    simp only [ccnt]
    rw [h a (by simp), ccnt_congr (fun b hb => h b (by simp [hb]))]
/-- equal parts merge upward: the parts' numbers, and how many merges -/
def mrg (lst : List Nat) : Nat → Nat → (Nat → Nat) → (Nat → Nat) × Nat
  | 0, _, pr => (pr, 0)
  | f + 1, j, pr => if 2 ^ j < ccnt (fun a => decide (pr a = j)) lst then ((mrg lst f (j + 1) (fun a => if pr a = j then j + 1 else pr a)).1, (mrg lst f (j + 1) (fun a => if pr a = j then j + 1 else pr a)).2 + 1) else (pr, 0)
theorem shl_pw {j : Nat} (h : j < 9) : nI 1 <<< (nI j &&& 31) = nI (2 ^ j) := by
  have h9 : ∀ i : Fin 9, nI 1 <<< (nI i.val &&& 31) = nI (2 ^ i.val) := by decide
  exact h9 ⟨j, h⟩
theorem pw_lt {j : Nat} (h : j < 9) : 2 ^ j < 1000 := by
  have h9 : ∀ i : Fin 9, 2 ^ i.val < 1000 := by decide
  exact h9 ⟨j, h⟩
