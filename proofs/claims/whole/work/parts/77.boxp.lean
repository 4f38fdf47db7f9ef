theorem oI_none2 {o : Option Nat} (h : oI o = -1) (hb : ∀ k, o = some k → k < 2 ^ 30) : o = none := by
  cases o with
  | none => rfl
  | some k =>
    have h1 : (nI k).toInt = (-1 : Int32).toInt := by rw [show nI k = -1 from h]
    rw [nI_toInt (by have := hb k rfl; omega)] at h1
    have h2 : (-1 : Int32).toInt = -1 := by decide
    omega
theorem ccnt_take {f : Nat → Bool} {l : List Nat} {i q : Nat} (h : l[i]? = some q) : ccnt f (l.take (i + 1)) = ccnt f (l.take i) + (if f q = true then 1 else 0) := by
  rw [List.take_add_one, h, ccnt_app]
  simp [ccnt]
def boxF (a b c d : Nat) (k : Nat) : Bool := decide (a ≤ k / 100) && decide (k / 100 ≤ c) && (decide (b ≤ k % 100) && decide (k % 100 ≤ d))
/-- the nearest one so far: one more -/
def nrS (x y : Nat) (st : Option Nat × Nat) (c : Nat) : Option Nat × Nat := match st.1 with
  | none => (some c, far x y c)
  | some b => if far x y c < st.2 ∨ far x y c = st.2 ∧ c < b then (some c, far x y c) else st
theorem nrS_none {x y c v : Nat} : nrS x y (none, v) c = (some c, far x y c) := rfl
theorem nrS_yes {x y c b v : Nat} (h : far x y c < v ∨ far x y c = v ∧ c < b) : nrS x y (some b, v) c = (some c, far x y c) := by
  show (if far x y c < v ∨ far x y c = v ∧ c < b then _ else _) = _
  rw [if_pos h]
theorem nrS_no {x y c b v : Nat} (h : ¬ (far x y c < v ∨ far x y c = v ∧ c < b)) : nrS x y (some b, v) c = (some b, v) := by
  show (if far x y c < v ∨ far x y c = v ∧ c < b then _ else _) = _
  rw [if_neg h]
theorem nrS_b {x y : Nat} (hx : x < 100) (hy : y < 100) : ∀ (l : List Nat) (st : Option Nat × Nat), (∀ c ∈ l, c < 10000) → (∀ b, st.1 = some b → b < 10000) → st.2 < 40000 → (∀ b, (l.foldl (nrS x y) st).1 = some b → b < 10000) ∧ (l.foldl (nrS x y) st).2 < 40000
  | [], st, _, h1, h2 => ⟨h1, h2⟩
  | c :: l, st, hl, h1, h2 => by
    have hc := hl c (by simp)
    have hf := far_lt hx hy hc
    refine nrS_b hx hy l (nrS x y st c) (fun b hb => hl b (by simp [hb])) ?_ ?_
    · intro b hb
      obtain ⟨o, v⟩ := st
      cases o with
      | none => rw [nrS_none] at hb; cases hb; exact hc
      | some b0 =>
        by_cases h : far x y c < v ∨ far x y c = v ∧ c < b0
        · rw [nrS_yes h] at hb; cases hb; exact hc
        · rw [nrS_no h] at hb; exact h1 b hb
    · obtain ⟨o, v⟩ := st
      cases o with
      | none => rw [nrS_none]; exact hf
      | some b0 =>
        by_cases h : far x y c < v ∨ far x y c = v ∧ c < b0
        · rw [nrS_yes h]; exact hf
        · rw [nrS_no h]; exact h2
theorem foldl_take {x y : Nat} {cd : Nat → Nat} {l : List Nat} {i q : Nat} {st : Option Nat × Nat} (h : l[i]? = some q) : ((l.take (i + 1)).map cd).foldl (nrS x y) st = nrS x y (((l.take i).map cd).foldl (nrS x y) st) (cd q) := by
  rw [List.take_add_one, h]
  simp
