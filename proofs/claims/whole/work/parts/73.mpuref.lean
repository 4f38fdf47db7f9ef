/-- the places of the model's arrays, out of their list -/
def arL (l : List Nat) (j : Nat) : Nat := l.getD (if j < 10 then j - 5 else j - 7) 0
theorem mO_cases {j : Nat} (h : mO j = true) : j = 5 ∨ j = 6 ∨ j = 7 ∨ j = 8 ∨ j = 9 ∨ j = 12 ∨ j = 13 ∨ j = 14 ∨ j = 15 ∨ j = 16 ∨ j = 17 := by
  simp only [mO, Bool.or_eq_true, Bool.and_eq_true, Nat.ble_eq] at h
  omega
theorem arL_inj {l : List Nat} (hn : l.Nodup) (hl : l.length = 11) {i j : Nat} (hi : mO i = true) (hj : mO j = true) (e : arL l i = arL l j) : i = j := by
  have h1 := mO_cases hi
  have h2 := mO_cases hj
  unfold arL at e
  obtain ⟨a, ea⟩ : ∃ a, a = (if i < 10 then i - 5 else i - 7) := ⟨_, rfl⟩
  obtain ⟨b, eb⟩ : ∃ b, b = (if j < 10 then j - 5 else j - 7) := ⟨_, rfl⟩
  rw [← ea, ← eb] at e
  have ha : a < l.length := by rw [ea]; split <;> omega
  have hb : b < l.length := by rw [eb]; split <;> omega
  rw [List.getD_eq_getElem?_getD, List.getD_eq_getElem?_getD, List.getElem?_eq_getElem ha, List.getElem?_eq_getElem hb] at e
  have e2 : a = b := by
    rcases Nat.lt_trichotomy a b with h | h | h
    · exact absurd e ((List.pairwise_iff_getElem.mp hn) a b ha hb h)
    · exact h
    · exact absurd e.symm ((List.pairwise_iff_getElem.mp hn) b a hb ha h)
  rw [ea, eb] at e2
  split at e2 <;> split at e2 <;> omega
