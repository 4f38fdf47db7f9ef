def insC (f : Nat → Bool) (v : Nat) : List Nat → List Nat
  | [] => [v]
  | a :: l => if f a = true then a :: insC f v l else v :: a :: l
theorem CH.link {K : Nat → Nat} {Q Q1 : Nat → Nat → Option Nat} {p v : Nat} {B : List Nat} (h1 : Q1 p 3 = Option.some v) (hv : K v = 1) (hB : CH K Q1 B (Q1 v 3)) : ∀ {D0 : List Nat} {o : Option Nat}, CH K Q ((D0 ++ [p]) ++ B) o → (∀ a ∈ D0, Q1 a 3 = Q a 3) → CH K Q1 ((D0 ++ [p]) ++ v :: B) o
  | [], o, h, _ => ⟨h.1, h.2.1, h1, hv, hB⟩
  | a :: D0, o, h, hQ => by
    obtain ⟨e1, e2, e3⟩ := h
    refine ⟨e1, e2, ?_⟩
    rw [hQ a (by simp)]
    exact CH.link h1 hv hB e3 (fun b hb => hQ b (by simp [hb]))
theorem ls_split : ∀ F : List Nat, F = [] ∨ ∃ F0 f, F = F0 ++ [f]
  | [] => Or.inl rfl
  | f :: F => by
    rcases ls_split F with h | ⟨F0, g, h⟩
    · exact Or.inr ⟨[], f, by rw [h]; rfl⟩
    · exact Or.inr ⟨f :: F0, g, by rw [h]; rfl⟩
