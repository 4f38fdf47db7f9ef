def ins {α : Type} (f : Nat → α) (a : Nat) (v : α) : Nat → α := fun i => if i < a then f i else if i = a then v else f (i - 1)
def insP (gt : Nat → Bool) : Nat → Nat
  | 0 => 0
  | k + 1 => if gt k = true then insP gt k else k + 1
theorem insP_le (gt : Nat → Bool) : ∀ n, insP gt n ≤ n
  | 0 => Nat.le_refl _
  | k + 1 => by
    have := insP_le gt k
    simp only [insP]
    split <;> omega
theorem ins_arr {I0 J : Nat → Nat → Int32} {t a n : Nat} {α : Type} {f : Nat → α} {v : α} {g : α → Int32} (hS : ∀ j, J t j = if a < j ∧ j ≤ n then I0 t (j - 1) else I0 t j) (h0 : ∀ i, i < n → I0 t i = g (f i)) (ha : a ≤ n) : ∀ i, i < n + 1 → x_u2 J t a (g v) t i = g (ins f a v i) := fun i hi => by
  unfold ins
  by_cases e : i = a
  · subst e; rw [x_u2_s, if_neg (Nat.lt_irrefl _), if_pos rfl]
  · rw [x_u2_j _ _ e, hS]
    by_cases e2 : a < i
    · rw [if_pos ⟨e2, by omega⟩, if_neg (by omega), if_neg e]; exact h0 _ (by omega)
    · rw [if_neg (fun z => e2 z.1), if_pos (by omega)]; exact h0 _ (by omega)
def grU (n : Nat) (sp : Nat → Nat) (k : Nat) : Nat := upW (fun u => decide (dep (sp k) - dep u ≤ bnd (cn (fun j => bel (sp j) (u)) n))) 20 (sp k / 2)
def grS (n : Nat) (sp : Nat → Nat) (k : Nat) : Nat → Nat := fun i => if bnd n < dep (sp k) then (if bel (sp i) (grU n sp k) = true then layA 8 (cn (fun j => bel (sp j) (grU n sp k)) i) 0 (cn (fun j => bel (sp j) (grU n sp k)) n) (grU n sp k) else sp i) else sp i
def grW (n : Nat) (sp : Nat → Nat) (k : Nat) : Nat := if bnd n < dep (sp k) then cn (fun j => bel (sp j) (grU n sp k)) n else 0
theorem ins_bd {f : Nat → Nat} {a v n b : Nat} (h : ∀ i, i < n → f i < b) (hv : v < b) (ha : a ≤ n) : ∀ i, i < n + 1 → ins f a v i < b := fun i hi => by
  unfold ins
  split
  · exact h i (by omega)
  · split
    · exact hv
    · exact h _ (by omega)
theorem ins_bp {f : Nat → Nat} {a v n : Nat} (h : ∀ i, i < n → 0 < f i) (hv : 0 < v) (ha : a ≤ n) : ∀ i, i < n + 1 → 0 < ins f a v i := fun i hi => by
  unfold ins
  split
  · exact h i (by omega)
  · split
    · exact hv
    · exact h _ (by omega)
theorem ins_at {α : Type} {f : Nat → α} {a : Nat} {v : α} : ins f a v a = v := by
  unfold ins
  rw [if_neg (Nat.lt_irrefl _), if_pos rfl]
