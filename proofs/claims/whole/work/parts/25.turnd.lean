/-- where the leaving node of a removal is found -/
def delGF : Tr → List Fr
  | .leaf _ => []
  | .branch q l r => if sz l = 0 ∨ sz r = 0 then [] else if sz r < sz l then (q, true, r) :: hpF true l else (q, false, l) :: hpF false r
def delGT : Tr → Tr
  | .leaf u => .leaf u
  | .branch q l r => if sz l = 0 ∨ sz r = 0 then .branch q l r else if sz r < sz l then hpT true l else hpT false r
def delF (cd : Nat → Nat) (c : Nat) (A : Tr) : List Fr := fpF cd c A ++ delGF (fpT cd c A)
def delT (cd : Nat → Nat) (c : Nat) (A : Tr) : Tr := delGT (fpT cd c A)
def upT : Tr → Tr
  | .leaf u => .leaf u
  | .branch _ l r => if sz l = 0 then r else l
theorem delG_plug : ∀ A : Tr, plug (delGF A) (delGT A) = A
  | .leaf _ => rfl
  | .branch q l r => by
    simp only [delGF, delGT]
    by_cases h : sz l = 0 ∨ sz r = 0
    · rw [if_pos h, if_pos h]; rfl
    · rw [if_neg h, if_neg h]
      by_cases h2 : sz r < sz l
      · rw [if_pos h2, if_pos h2]; simp only [plug, hp_plug, mkf, if_true]
      · rw [if_neg h2, if_neg h2]; simp only [plug, hp_plug, mkf, Bool.false_eq_true, if_false]
theorem del_plug (cd : Nat → Nat) (c : Nat) (A : Tr) : plug (delF cd c A) (delT cd c A) = A := by
  rw [delF, delT, plug_app, delG_plug, fp_plug]
theorem delG_ex : ∀ {A : Tr}, 0 < sz A → ∃ hh l2 r2, delGT A = .branch hh l2 r2 ∧ (sz l2 = 0 ∨ sz r2 = 0)
  | .branch q l r, _ => by
    simp only [delGT]
    by_cases h : sz l = 0 ∨ sz r = 0
    · rw [if_pos h]; exact ⟨q, l, r, rfl, h⟩
    · rw [if_neg h]
      simp only [not_or] at h
      by_cases h2 : sz r < sz l
      · rw [if_pos h2]
        obtain ⟨a, b, c, e, e2⟩ := hp_ex true (A := l) (by omega)
        exact ⟨a, b, c, e, Or.inr e2⟩
      · rw [if_neg h2]
        obtain ⟨a, b, c, e, e2⟩ := hp_ex false (A := r) (by omega)
        exact ⟨a, b, c, e, Or.inl e2⟩
theorem plug_ht : ∀ (F : List Fr) (X : Tr), F.length + ht X ≤ ht (plug F X)
  | [], X => by simp [plug]
  | (q, b, s) :: F, X => by
    have h := plug_ht F X
    cases b
    · simp only [plug, mkf, List.length_cons, Bool.false_eq_true, if_false, ht]; omega
    · simp only [plug, mkf, List.length_cons, if_true, ht]; omega
theorem plug_szl : ∀ (F : List Fr) (X : Tr), sz X ≤ sz (plug F X)
  | [], X => Nat.le_refl _
  | f :: F, X => by
    have h := plug_szl F X
    simp only [plug, mkf_sz]; omega
theorem fad_mkf (F0 : List Fr) (f : Fr) (X1 : Tr) : (fad F0 ++ ino (mkf f X1)).Perm (fad (F0 ++ [f]) ++ ino X1) := by
  rw [fad_app, List.append_assoc]
  refine List.Perm.append_left _ ?_
  refine (mkf_ino f X1).trans ?_
  simp [fad]
theorem del_step {K : Nat → Nat} {Q2 Q4 : Nat → Nat → Option Nat} {F2 : List Fr} {hh t : Nat} {l2 r2 X : Tr} {y : Option Nat} (hPL : PLG K Q2 F2 (Q2 t 1) (some hh)) (hTh : TP K Q2 (.branch hh l2 r2) (some hh)) (hn : (fad F2 ++ ino (.branch hh l2 r2)).Nodup) (ht : t ∉ fad F2 ++ ino (.branch hh l2 r2)) (hX : (X = l2 ∧ y = Q2 hh 3) ∨ (X = r2 ∧ y = Q2 hh 4))
    (hQ4 : Q4 = (match lastA F2 with | none => x_u2 Q2 t 1 y | some p0 => if Q2 p0 3 = some hh then x_u2 Q2 p0 3 y else x_u2 Q2 p0 4 y)) :
    PLG K Q4 F2 (Q4 t 1) y ∧ TP K Q4 X y ∧ (∀ x j, x ∉ fad F2 ++ ino (.branch hh l2 r2) → ¬ (x = t ∧ j = 1) → Q4 x j = Q2 x j) := by
  have hpm := fad_mkf F2 (hh, true, r2) l2
  have hm : mkf (hh, true, r2) l2 = .branch hh l2 r2 := rfl
  rw [hm] at hpm
  obtain ⟨-, hk, hl, hr⟩ := hTh
  have hP : PLG K Q2 (F2 ++ [(hh, true, r2)]) (Q2 t 1) (Q2 hh 3) := by
    rw [PLG.app]; exact ⟨_, hPL, rfl, hk, hr, rfl⟩
  have hTX : TP K Q2 X y := by rcases hX with ⟨rfl, rfl⟩ | ⟨rfl, rfl⟩ <;> assumption
  obtain ⟨a1, a2, a3⟩ := bal_step (f := (hh, true, r2)) (Q3 := Q2) (y := y) hP (hpm.nodup_iff.mp hn) (fun h => ht (hpm.mem_iff.mpr h)) hTX (fun x hx => by
    rw [hm]
    rcases hX with ⟨rfl, -⟩ | ⟨rfl, -⟩ <;> simp [ino, hx]) (fun x _ => rfl) hQ4
  exact ⟨a1, a2, fun x j h1 h2 => a3 x j (fun h => h1 (hpm.mem_iff.mpr h)) h2⟩
theorem nI_m2 (a : Nat) : nI (a + 1) - nI 2 = nI a - nI 1 := by
  rw [← nI_add, Int32.sub_eq_add_neg, Int32.add_assoc, show nI 1 + -nI 2 = -nI 1 from by decide, ← Int32.sub_eq_add_neg]
theorem upT_nil {K : Nat → Nat} {Q : Nat → Nat → Option Nat} {hh : Nat} {l2 r2 : Tr} (h : TP K Q l2 none) : upT (.branch hh l2 r2) = r2 := by
  rw [h.none]; rfl
theorem upT_cons {K : Nat → Nat} {Q : Nat → Nat → Option Nat} {hh a : Nat} {l2 r2 : Tr} (h : TP K Q l2 (some a)) : upT (.branch hh l2 r2) = l2 := by
  obtain ⟨_, _, hs, _⟩ := h.some
  rw [hs]; simp [upT, sz]
theorem upT_sub (hh : Nat) (l2 r2 : Tr) : (ino (upT (.branch hh l2 r2))).Sublist (ino (.branch hh l2 r2)) := by
  simp only [upT, ino]
  split
  · exact (List.sublist_cons_self _ _).trans (List.sublist_append_right _ _)
  · exact List.sublist_append_left _ _
theorem upT_WT {I : Nat → Nat → Int32} {hh : Nat} {l2 r2 : Tr} (h1 : WT I l2) (h2 : WT I r2) : WT I (upT (.branch hh l2 r2)) := by
  simp only [upT]; split <;> assumption
theorem delG_two {q0 : Nat} {l_ r_ : Tr} (z1 : sz l_ ≠ 0) (z2 : sz r_ ≠ 0) : ∃ oth, delGF (.branch q0 l_ r_) = (q0, decide (sz r_ < sz l_), oth) :: hpF (decide (sz r_ < sz l_)) (if sz r_ < sz l_ then l_ else r_) ∧ delGT (.branch q0 l_ r_) = hpT (decide (sz r_ < sz l_)) (if sz r_ < sz l_ then l_ else r_) := by
  have h : ¬ (sz l_ = 0 ∨ sz r_ = 0) := by simp [z1, z2]
  simp only [delGF, delGT, if_neg h]
  by_cases h2 : sz r_ < sz l_
  · simp only [h2, if_true, decide_true]; exact ⟨_, rfl, trivial⟩
  · simp only [h2, if_false, decide_false]; exact ⟨_, rfl, trivial⟩
