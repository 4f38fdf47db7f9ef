/-! the chain of entries -/
def CH (K : Nat → Nat) (Q : Nat → Nat → Option Nat) : List Nat → Option Nat → Prop
  | [], o => o = none
  | a :: l, o => o = some a ∧ K a = 1 ∧ CH K Q l (Q a 3)
theorem CH.none {K : Nat → Nat} {Q : Nat → Nat → Option Nat} : ∀ {B : List Nat}, CH K Q B none → B = []
  | [], _ => rfl
  | a :: l, h => by have := h.1; cases this
theorem CH.some {K : Nat → Nat} {Q : Nat → Nat → Option Nat} {a : Nat} : ∀ {B : List Nat}, CH K Q B (Option.some a) → ∃ l, B = a :: l ∧ K a = 1 ∧ CH K Q l (Q a 3)
  | [], h => by cases h
  | b :: l, h => by
    obtain ⟨h1, h2, h3⟩ := h
    obtain rfl := Option.some.inj h1
    exact ⟨l, rfl, h2, h3⟩
theorem CH.kind {K : Nat → Nat} {Q : Nat → Nat → Option Nat} : ∀ {B : List Nat} {o : Option Nat}, CH K Q B o → ∀ a ∈ B, K a = 1
  | [], _, _, a, h => by simp at h
  | b :: l, o, h, a, ha => by
    obtain ⟨-, h2, h3⟩ := h
    rcases List.mem_cons.mp ha with rfl | ha
    · exact h2
    · exact h3.kind a ha
theorem CH.congr {K K1 : Nat → Nat} {Q Q1 : Nat → Nat → Option Nat} : ∀ {B : List Nat} {o : Option Nat}, CH K Q B o → (∀ a ∈ B, K1 a = K a ∧ Q1 a 3 = Q a 3) → CH K1 Q1 B o
  | [], _, h, _ => h
  | b :: l, o, h, hc => by
    obtain ⟨h1, h2, h3⟩ := h
    have hb := hc b (by simp)
    exact ⟨h1, by rw [hb.1]; exact h2, by rw [hb.2]; exact h3.congr (fun a ha => hc a (by simp [ha]))⟩
/-- entries have codes -/
def NE (K : Nat → Nat) (I : Nat → Nat → Int32) (cd : Nat → Nat) (as : List Nat) : Prop := ∀ a ∈ as, K a = 1 ∧ I a 0 = cv1 (cd a) ∧ cd a < 1999
def ccnt (f : Nat → Bool) : List Nat → Nat
  | [] => 0
  | a :: l => (if f a = true then 1 else 0) + ccnt f l
theorem ccnt_le (f : Nat → Bool) : ∀ l : List Nat, ccnt f l ≤ l.length
  | [] => Nat.le_refl _
  | a :: l => by
    have := ccnt_le f l
    simp only [ccnt, List.length_cons]
    split <;> omega
