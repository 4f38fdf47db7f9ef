theorem st_in {I1 I2 : Nat → Nat → Int32} {A k : Nat} {v : Int32} {F : Nat → Int32} (e : I2 = x_u2 I1 A k v) (h : ∀ i, i < k → I1 A i = F i) (hv : v = F k) : ∀ i, i < k + 1 → I2 A i = F i := fun i hi => by
  rw [e]
  by_cases ei : i = k
  · subst ei; rw [x_u2_s]; exact hv
  · rw [x_u2_j _ _ ei]; exact h i (by omega)
theorem st_fr {I I1 I2 : Nat → Nat → Int32} {A k : Nat} {v : Int32} (e : I2 = x_u2 I1 A k v) (h : ∀ a j, ¬ (a = A ∧ j < k) → I1 a j = I a j) : ∀ a j, ¬ (a = A ∧ j < k + 1) → I2 a j = I a j := fun a j hj => by
  rw [e]
  by_cases ea : a = A
  · subst ea
    rw [x_u2_j _ _ (fun z => hj ⟨rfl, by omega⟩)]; exact h _ j (fun z => hj ⟨rfl, by omega⟩)
  · rw [x_u2_a _ _ ea]; exact h a j (fun z => ea z.1)
theorem st_in0 {I1 : Nat → Nat → Int32} {A k : Nat} {F : Nat → Int32} (h : ∀ i, i < k → I1 A i = F i) (hv : I1 A k = F k) : ∀ i, i < k + 1 → I1 A i = F i := fun i hi => by
  by_cases ei : i = k
  · subst ei; exact hv
  · exact h i (by omega)
theorem st_fr0 {I I1 : Nat → Nat → Int32} {A k : Nat} (h : ∀ a j, ¬ (a = A ∧ j < k) → I1 a j = I a j) : ∀ a j, ¬ (a = A ∧ j < k + 1) → I1 a j = I a j := fun a j hj => h a j (fun z => hj ⟨z.1, by omega⟩)
theorem bel_dep {x a : Nat} (h : bel x a = true) : dep a ≤ dep x := by
  simp only [bel, decide_eq_true_eq] at h
  exact dep_mono h.1
theorem bel_le {x a : Nat} (h : bel x a = true) : a * 2 ^ (dep x - dep a) ≤ x := by
  simp only [bel, decide_eq_true_eq] at h
  have h2 := Nat.div_mul_le_self x (2 ^ (dep x - dep a))
  rw [h.2] at h2
  exact h2
theorem mv_le {x a b c : Nat} (h : bel x a = true) (hb : b ≤ c * a) : b * 2 ^ (dep x - dep a) ≤ c * x := by
  have h1 := bel_le h
  refine Nat.le_trans (Nat.mul_le_mul_right _ hb) ?_
  rw [Nat.mul_assoc]
  exact Nat.mul_le_mul_left _ h1
theorem mv_ok {x a b : Nat} (h : bel x a = true) (hb : b ≤ 3 * a) (hx : x < 2 ^ 28) : b * 2 ^ (dep x - dep a) < 2 ^ 30 := by
  have := mv_le h hb
  omega
theorem mvd_le {x a b : Nat} (h : bel x a = true) (hb : b ≤ 3 * a) : mvd x a b ≤ 4 * x := by
  have := mv_le h hb
  unfold mvd
  omega
/-- where a turn at p brings a place: e1, e0 are 1, 0 to the left and 0, 1 to the right -/
def turnM (e1 e0 p x : Nat) : Nat :=
  if x = p then 2 * p + e0 else if x = 2 * p + e1 then p
  else if (decide (0 < x) && bel x (2 * p + e0)) = true then mvd x (2 * p + e0) (2 * (2 * p + e0) + e0)
  else if (decide (0 < x) && bel x (2 * (2 * p + e1) + e0)) = true then mvd x (2 * (2 * p + e1) + e0) (2 * (2 * p + e0) + e1)
  else if (decide (0 < x) && bel x (2 * (2 * p + e1) + e1)) = true then mvd x (2 * (2 * p + e1) + e1) (2 * p + e1)
  else x
theorem turnM_lt {e1 e0 p x : Nat} (h1 : e1 ≤ 1) (h0 : e0 ≤ 1) (hp : 0 < p) (hp2 : p < 2 ^ 25) (hx : x < 2 ^ 25) : turnM e1 e0 p x < 2 ^ 27 := by
  unfold turnM
  split
  · omega
  · split
    · omega
    · split
      · rename_i h
        simp only [Bool.and_eq_true] at h
        have := mvd_le (b := 2 * (2 * p + e0) + e0) h.2 (by omega)
        omega
      · split
        · rename_i h
          simp only [Bool.and_eq_true] at h
          have := mvd_le (b := 2 * (2 * p + e0) + e1) h.2 (by omega)
          omega
        · split
          · rename_i h
            simp only [Bool.and_eq_true] at h
            have := mvd_le (b := 2 * p + e1) h.2 (by omega)
            omega
          · omega
def cnW (n : Nat) (tu : Nat → Nat) (q : Nat) : Nat := cn (fun i => decide (0 < tu i) && bel (tu i) q) n
theorem cnW_le (n : Nat) (tu : Nat → Nat) (q : Nat) : cnW n tu q ≤ n := cn_le _ _
def balM (n : Nat) (tu : Nat → Nat) (p : Nat) : (Nat → Nat) × Nat :=
  if 3 * (cnW n tu (2 * p) + 1) < cnW n tu (2 * p + 1) + 1 then
    (if 2 * (cnW n tu (4 * p + 3) + 1) ≤ cnW n tu (4 * p + 2) + 1 then (fun i => turnM 1 0 p (turnM 0 1 (2 * p + 1) (tu i)), 2) else (fun i => turnM 1 0 p (tu i), 1))
  else if 3 * (cnW n tu (2 * p + 1) + 1) < cnW n tu (2 * p) + 1 then
    (if 2 * (cnW n tu (4 * p) + 1) ≤ cnW n tu (4 * p + 1) + 1 then (fun i => turnM 0 1 p (turnM 1 0 (2 * p) (tu i)), 2) else (fun i => turnM 0 1 p (tu i), 1))
  else (tu, 0)
def balsM (n : Nat) : Nat → (Nat → Nat) → Nat → (Nat → Nat) × Nat
  | 0, tu, _ => (tu, 0)
  | f + 1, tu, u => if u = 0 then (tu, 0) else ((balsM n f (balM n tu u).1 (u / 2)).1, (balM n tu u).2 + (balsM n f (balM n tu u).1 (u / 2)).2)
def balOK (n : Nat) : Nat → (Nat → Nat) → Nat → Prop
  | 0, _, u => u = 0
  | f + 1, tu, u => u = 0 ∨ ((∀ i, i < n → tu i < 2 ^ 25) ∧ balOK n f (balM n tu u).1 (u / 2))
theorem balsM_0 {n f : Nat} {tu : Nat → Nat} : balsM n f tu 0 = (tu, 0) := by
  cases f with
  | zero => rfl
  | succ f => simp [balsM]
theorem balsM_go {n f u : Nat} {tu : Nat → Nat} (h : 0 < u) : balsM n (f + 1) tu u = ((balsM n f (balM n tu u).1 (u / 2)).1, (balM n tu u).2 + (balsM n f (balM n tu u).1 (u / 2)).2) := by
  simp only [balsM, if_neg (show ¬ u = 0 by omega)]
