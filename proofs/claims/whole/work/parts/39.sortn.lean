theorem insC_congr {f g : Nat → Bool} {v : Nat} : ∀ {l : List Nat}, (∀ a ∈ l, f a = g a) → insC f v l = insC g v l
  | [], _ => rfl
  | a :: l, h => by
    simp only [insC]
    rw [h a (by simp), insC_congr (fun b hb => h b (by simp [hb]))]
theorem insC_perm {f : Nat → Bool} {v : Nat} : ∀ {l : List Nat}, (insC f v l).Perm (v :: l)
  | [] => List.Perm.refl _
  | a :: l => by
    simp only [insC]
    split
    · exact ((insC_perm (l := l)).cons a).trans (List.Perm.swap v a l)
    · exact List.Perm.refl _
theorem insC_mem {f : Nat → Bool} {v : Nat} {l : List Nat} {a : Nat} : a ∈ insC f v l ↔ a = v ∨ a ∈ l := by
  rw [insC_perm.mem_iff]; simp
theorem insC_nodup {f : Nat → Bool} {v : Nat} {l : List Nat} (h : l.Nodup) (hv : v ∉ l) : (insC f v l).Nodup := insC_perm.nodup_iff.mpr (List.nodup_cons.mpr ⟨hv, h⟩)
theorem insC_len {f : Nat → Bool} {v : Nat} {l : List Nat} : (insC f v l).length = l.length + 1 := by rw [insC_perm.length_eq]; rfl
