/-! one more row -/
section XL
variable {p : Program} {l : Launch} {e : Env} {R : Room} {s : State} {m : MethodId} {args : Array Value} {below : List Frame} {meth : Method} {c : Code} {G : xG} {Z : State → Prop} {k n : Nat} {S : xS} {pc : Nat} {lv : List (Option Value)} {st : List Value} {cc : ByteArray} {nL : Nat} {own : String} {rt : Option FieldType}
theorem x_lcmp (C : XC p s m args meth c cc nL own rt G) {x y : Int64} (hdg : decode cc pc = .ok (.lcmp, 1)) (kk : XW p l e R s m args below meth c G Z k n S (pc + 1) lv (.int (lg_cmp x y) :: st)) : XW p l e R s m args below meth c G Z k n S pc lv (.long y :: .long x :: st) := fun H locs ls w z h => W.lcmp C.1 C.2.1 hdg (kk H locs ls w z h)
end XL
def oI (o : Option Nat) : Int32 := match o with | none => -1 | some j => nI j
def fstF (p : Nat → Bool) : Nat → Nat → Option Nat
  | 0, _ => none
  | f + 1, i => if p i = true then some i else fstF p f (i + 1)
def bndL (m : Nat) : Nat → Nat → Nat
  | 0, d => d
  | f + 1, d => if 3 ^ (d + 1) ≤ m * 2 ^ (d + 1) then bndL m f (d + 1) else d
def bnd (m : Nat) : Nat := bndL m 30 0
theorem bndL_le (m : Nat) : ∀ (f d : Nat), bndL m f d ≤ d + f
  | 0, d => Nat.le_refl _
  | f + 1, d => by
    simp only [bndL]
    split
    · have := bndL_le m f (d + 1); omega
    · omega
theorem bnd_le (m : Nat) : bnd m ≤ 30 := by have := bndL_le m 30 0; unfold bnd; omega
/-- from a depth up to the first one that is too deep for its weight -/
def scw (w : Nat → Nat) (ld : Nat) : Nat → Option Nat
  | 0 => none
  | j + 1 => if bnd (w j) < ld - j then some j else scw w ld j
theorem bndL_step {m d : Nat} (h : d < 30) : bndL m (30 - d) d = if 3 ^ (d + 1) ≤ m * 2 ^ (d + 1) then bndL m (30 - (d + 1)) (d + 1) else d := by
  rw [show 30 - d = (30 - (d + 1)) + 1 by omega]; rfl
theorem pow3_le {d : Nat} (h : d ≤ 30) : 3 ^ (d + 1) < 2 ^ 63 := Nat.lt_of_le_of_lt (Nat.pow_le_pow_right (by omega) (show d + 1 ≤ 31 by omega)) (by decide)
theorem pow2_le {m d : Nat} (hm : m < 1000) (h : d ≤ 30) : m * 2 ^ (d + 1) < 2 ^ 63 := by
  have h1 : 2 ^ (d + 1) ≤ 2 ^ 31 := Nat.pow_le_pow_right (by omega) (show d + 1 ≤ 31 by omega)
  have h2 : m * 2 ^ (d + 1) ≤ 1000 * 2 ^ 31 := Nat.mul_le_mul (by omega) h1
  exact Nat.lt_of_le_of_lt h2 (by decide)
theorem imax2 {a b : Nat} (ha : a < 1000000) (hb : b < 1000000) : (if nI a < nI b then nI b else nI a) = nI (max a b) := by
  by_cases hab : a < b
  · rw [if_pos ((nI_ltI (by omega) (by omega)).mpr hab), Nat.max_eq_right (by omega)]
  · rw [if_neg (fun z => hab ((nI_ltI (by omega) (by omega)).mp z)), Nat.max_eq_left (by omega)]
/-! the subtree at a depth of the search path, and another in its place -/
def subp (od : Nat → Nat → Nat) (cd : Nat → Nat) (c : Nat) : Tr → Nat → Nat → Tr
  | t, _, 0 => t
  | .leaf u, _, _ + 1 => .leaf u
  | .branch q l r, d, k + 1 => if od d c < od d (cd q) then subp od cd c l (d + 1) k else subp od cd c r (d + 1) k
def updp (od : Nat → Nat → Nat) (cd : Nat → Nat) (c : Nat) (new : Tr) : Tr → Nat → Nat → Tr
  | _, _, 0 => new
  | .leaf u, _, _ + 1 => .leaf u
  | .branch q l r, d, k + 1 => if od d c < od d (cd q) then .branch q (updp od cd c new l (d + 1) k) r else .branch q l (updp od cd c new r (d + 1) k)
def plink (od : Nat → Nat → Nat) (cd : Nat → Nat) (c : Nat) : Tr → Nat → Nat → Option (Nat × Nat)
  | _, _, 0 => none
  | .leaf _, _, _ + 1 => none
  | .branch q l r, d, k + 1 => if od d c < od d (cd q) then some ((plink od cd c l (d + 1) k).getD (q, 3)) else some ((plink od cd c r (d + 1) k).getD (q, 4))
theorem subp_facts {K : Nat → Nat} {I : Nat → Nat → Int32} {Q : Nat → Nat → Option Nat} {od : Nat → Nat → Nat} {cd : Nat → Nat} {c : Nat} : ∀ (t : Tr) (d k : Nat) (o : Option Nat), TP K Q t o → WT I t → (ino t).Nodup → k < (spath od cd c t d).length →
    ∃ q l r, (spath od cd c t d)[k]? = some q ∧ subp od cd c t d k = .branch q l r ∧ TP K Q (.branch q l r) (some q) ∧ WT I (.branch q l r) ∧ (∀ a ∈ ino (.branch q l r), a ∈ ino t) ∧ (ino (.branch q l r)).Nodup ∧ sz (.branch q l r) ≤ sz t ∧ ht (.branch q l r) + k ≤ ht t
  | .leaf u, d, k, o, _, _, _, h => by simp [spath] at h
  | .branch q l r, d, 0, o, hT, hW, hn, h => by
    have ho := hT.1
    subst ho
    exact ⟨q, l, r, by simp [spath], by simp [subp], hT, hW, fun a h => h, hn, Nat.le_refl _, Nat.le_refl _⟩
  | .branch q l r, d, k + 1, o, hT, hW, hn, h => by
    obtain ⟨-, hk3, h3, h4⟩ := hT
    obtain ⟨-, w3, w4⟩ := hW
    simp only [ino] at hn
    rw [List.nodup_append] at hn
    obtain ⟨nl, nr, nd⟩ := hn
    rw [List.nodup_cons] at nr
    simp only [spath] at h ⊢
    by_cases hq : cd q = c
    · simp [hq] at h
    · simp only [if_neg hq, List.length_cons] at h ⊢
      by_cases hc : od d c < od d (cd q)
      · simp only [if_pos hc] at h ⊢
        obtain ⟨q1, l1, r1, e1, e2, e3, e4, e5, e6, e7, e8⟩ := subp_facts (od := od) (cd := cd) (c := c) l (d + 1) k _ h3 w3 nl (by omega)
        exact ⟨q1, l1, r1, by simpa using e1, by simp only [subp, if_pos hc]; exact e2, e3, e4, fun a ha => by simp [ino, e5 a ha], e6, by simp only [sz] at e7 ⊢; omega, by simp only [ht] at e8 ⊢; omega⟩
      · simp only [if_neg hc] at h ⊢
        obtain ⟨q1, l1, r1, e1, e2, e3, e4, e5, e6, e7, e8⟩ := subp_facts (od := od) (cd := cd) (c := c) r (d + 1) k _ h4 w4 nr.2 (by omega)
        exact ⟨q1, l1, r1, by simpa using e1, by simp only [subp, if_neg hc]; exact e2, e3, e4, fun a ha => by simp [ino, e5 a ha], e6, by simp only [sz] at e7 ⊢; omega, by simp only [ht] at e8 ⊢; omega⟩
/-- the parent on the path: its link to the next one is the one of its comparison, and no other one -/
theorem plink_path {K : Nat → Nat} {Q : Nat → Nat → Option Nat} {od : Nat → Nat → Nat} {cd : Nat → Nat} {c : Nat} : ∀ (t : Tr) (d k : Nat) (o : Option Nat), TP K Q t o → (ino t).Nodup → k + 1 < (spath od cd c t d).length →
    ∃ p q, (spath od cd c t d)[k]? = some p ∧ (spath od cd c t d)[k + 1]? = some q ∧ K p = 3 ∧ p ∈ ino t ∧ p ∉ ino (subp od cd c t d (k + 1)) ∧ (plink od cd c t d (k + 1) = some (p, 3) ∧ Q p 3 = some q ∨ plink od cd c t d (k + 1) = some (p, 4) ∧ Q p 4 = some q ∧ Q p 3 ≠ some q)
  | .leaf u, d, k, o, _, _, h => by simp [spath] at h
  | .branch q l r, d, k, o, hT, hn, h => by
    obtain ⟨-, hk3, h3, h4⟩ := hT
    simp only [ino] at hn
    rw [List.nodup_append] at hn
    obtain ⟨nl, nr, nd⟩ := hn
    rw [List.nodup_cons] at nr
    simp only [spath] at h ⊢
    by_cases hq : cd q = c
    · simp [hq] at h
    · simp only [if_neg hq, List.length_cons] at h ⊢
      by_cases hc : od d c < od d (cd q)
      · simp only [if_pos hc] at h ⊢
        cases k with
        | zero =>
          cases l with
          | leaf u => simp [spath] at h
          | branch x a b =>
            refine ⟨q, x, by simp, by simp [spath], hk3, by simp [ino], ?_, Or.inl ⟨?_, h3.1⟩⟩
            · simp only [subp, if_pos hc]
              exact fun hm => nd q hm q (by simp) rfl
            · simp [plink, hc]
        | succ k =>
          obtain ⟨p1, q1, e1, e2, e3, e4, e5, e6⟩ := plink_path (od := od) (cd := cd) (c := c) l (d + 1) k _ h3 nl (by omega)
          refine ⟨p1, q1, by simpa using e1, by simpa using e2, e3, by simp [ino, e4], by simp only [subp, if_pos hc]; exact e5, ?_⟩
          rcases e6 with ⟨e7, e8⟩ | ⟨e7, e8⟩
          · exact Or.inl ⟨by simp only [plink, if_pos hc]; rw [e7]; rfl, e8⟩
          · exact Or.inr ⟨by simp only [plink, if_pos hc]; rw [e7]; rfl, e8⟩
      · simp only [if_neg hc] at h ⊢
        cases k with
        | zero =>
          cases r with
          | leaf u => simp [spath] at h
          | branch x a b =>
            refine ⟨q, x, by simp, by simp [spath], hk3, by simp [ino], ?_, Or.inr ⟨?_, h4.1, ?_⟩⟩
            · simp only [subp, if_neg hc]
              exact nr.1
            · simp [plink, hc]
            · intro e
              cases l with
              | leaf u => rw [h3] at e; cases e
              | branch y a2 b2 =>
                rw [h3.1] at e
                cases e
                exact nd x (by simp [ino]) x (by simp [ino]) rfl
        | succ k =>
          obtain ⟨p1, q1, e1, e2, e3, e4, e5, e6⟩ := plink_path (od := od) (cd := cd) (c := c) r (d + 1) k _ h4 nr.2 (by omega)
          refine ⟨p1, q1, by simpa using e1, by simpa using e2, e3, by simp [ino, e4], by simp only [subp, if_neg hc]; exact e5, ?_⟩
          rcases e6 with ⟨e7, e8⟩ | ⟨e7, e8⟩
          · exact Or.inl ⟨by simp only [plink, if_neg hc]; rw [e7]; rfl, e8⟩
          · exact Or.inr ⟨by simp only [plink, if_neg hc]; rw [e7]; rfl, e8⟩
theorem plink_mem {od : Nat → Nat → Nat} {cd : Nat → Nat} {c : Nat} : ∀ (t : Tr) (d k : Nat) (x : Nat × Nat), plink od cd c t d k = some x → x.1 ∈ ino t
  | t, d, 0, x, h => by cases t <;> simp [plink] at h
  | .leaf u, d, k + 1, x, h => by simp [plink] at h
  | .branch q l r, d, k + 1, x, h => by
    simp only [plink] at h
    split at h
    · cases hl : plink od cd c l (d + 1) k with
      | none => rw [hl] at h; simp at h; rw [← h]; simp [ino]
      | some y => rw [hl] at h; simp at h; have := plink_mem l (d + 1) k y hl; rw [← h]; simp [ino, this]
    · cases hl : plink od cd c r (d + 1) k with
      | none => rw [hl] at h; simp at h; rw [← h]; simp [ino]
      | some y => rw [hl] at h; simp at h; have := plink_mem r (d + 1) k y hl; rw [← h]; simp [ino, this]
theorem subp_sub {od : Nat → Nat → Nat} {cd : Nat → Nat} {c : Nat} : ∀ (t : Tr) (d k a : Nat), a ∈ ino (subp od cd c t d k) → a ∈ ino t
  | t, d, 0, a, h => by cases t <;> simpa [subp] using h
  | .leaf u, d, k + 1, a, h => by simpa [subp] using h
  | .branch q l r, d, k + 1, a, h => by
    simp only [subp] at h
    split at h
    · have := subp_sub l (d + 1) k a h; simp [ino, this]
    · have := subp_sub r (d + 1) k a h; simp [ino, this]
theorem plink_none {od : Nat → Nat → Nat} {cd : Nat → Nat} {c : Nat} : ∀ (t : Tr) (d k : Nat), plink od cd c t d k = none → k = 0 ∨ t = .leaf ()
  | t, d, 0, _ => Or.inl rfl
  | .leaf u, d, k + 1, _ => Or.inr rfl
  | .branch q l r, d, k + 1, h => by simp only [plink] at h; split at h <;> cases h
theorem updp_TP {K : Nat → Nat} {Q Q1 : Nat → Nat → Option Nat} {od : Nat → Nat → Nat} {cd : Nat → Nat} {c : Nat} {new : Tr} {rr : Option Nat} (hnew : TP K Q1 new rr) :
    ∀ (t : Tr) (d k : Nat) (o : Option Nat), TP K Q t o → (ino t).Nodup → k < (spath od cd c t d).length → (∀ a ∈ ino t, a ∉ ino (subp od cd c t d k) → ∀ j, (j = 3 ∨ j = 4) → plink od cd c t d k ≠ some (a, j) → Q1 a j = Q a j) → (∀ x, plink od cd c t d k = some x → Q1 x.1 x.2 = rr) → TP K Q1 (updp od cd c new t d k) (if k = 0 then rr else o)
  | .leaf u, d, k, o, _, _, h, _, _ => by simp [spath] at h
  | .branch q l r, d, 0, o, hT, hn, h, hQ, hx => by simpa [updp] using hnew
  | .branch q l r, d, k + 1, o, hT, hn, h, hQ, hx => by
    obtain ⟨h1, h2, h3, h4⟩ := hT
    simp only [ino] at hn
    rw [List.nodup_append] at hn
    obtain ⟨nl, nr, nd⟩ := hn
    rw [List.nodup_cons] at nr
    simp only [spath] at h
    by_cases hq : cd q = c
    · simp [hq] at h
    · simp only [if_neg hq, List.length_cons] at h
      simp only [updp, subp, plink] at hQ hx ⊢
      by_cases hc : od d c < od d (cd q)
      · simp only [if_pos hc] at h hQ hx ⊢
        have ih := updp_TP hnew l (d + 1) k _ h3 nl (by omega) (fun a ha hs j hj hp => hQ a (by simp [ino, ha]) hs j hj (fun e => by
          cases hl : plink od cd c l (d + 1) k with
          | none => rw [hl] at e; simp at e; exact nd a ha q (by simp) e.1.symm
          | some y => rw [hl] at e hp; simp at e; exact hp (by rw [e]))) (fun x hxl => hx x (by rw [hxl]; rfl))
        have hyl : ∀ y, (plink od cd c l (d + 1) k).getD (q, 3) = y → y.1 ∉ ino r ∧ (q, 4) ≠ y := fun y hy => by
          cases hl : plink od cd c l (d + 1) k with
          | none => rw [hl] at hy; simp at hy; rw [← hy]; exact ⟨nr.1, by simp⟩
          | some z =>
            rw [hl] at hy; simp at hy; subst hy
            have hm := plink_mem l (d + 1) k z hl
            exact ⟨fun hr => nd z.1 hm z.1 (by simp [hr]) rfl, fun e => nd z.1 hm q (by simp) (by rw [← e])⟩
        have hy := hyl _ rfl
        refine ⟨by simpa using h1, h2, ?_, ?_⟩
        · by_cases hk : k = 0
          · subst hk
            have e0 : plink od cd c l (d + 1) 0 = none := by cases l <;> simp [plink]
            have := hx (q, 3) (by rw [e0]; rfl)
            simp only at this
            rw [this]
            simpa using ih
          · rw [if_neg hk] at ih
            have e3 : Q1 q 3 = Q q 3 := hQ q (by simp [ino]) (fun hm => nd q (subp_sub l (d + 1) k q hm) q (by simp) rfl) 3 (Or.inl rfl) (fun e => by
              cases hl : plink od cd c l (d + 1) k with
              | none =>
                rcases plink_none l (d + 1) k hl with h0 | h0
                · exact hk h0
                · subst h0; simp [spath] at h
              | some y =>
                rw [hl] at e; simp at e
                have hm := plink_mem l (d + 1) k y hl
                exact nd y.1 hm q (by simp) (by rw [e]))
            rw [e3]; exact ih
        · have e4 : Q1 q 4 = Q q 4 := hQ q (by simp [ino]) (fun hm => nd q (subp_sub l (d + 1) k q hm) q (by simp) rfl) 4 (Or.inr rfl) (fun e => hy.2 (by simpa using e.symm))
          rw [e4]
          refine h4.congr (fun a ha => ?_)
          have hs : a ∉ ino (subp od cd c l (d + 1) k) := fun hm => nd a (subp_sub l (d + 1) k a hm) a (by simp [ha]) rfl
          exact ⟨rfl, hQ a (by simp [ino, ha]) hs 3 (Or.inl rfl) (fun e => hy.1 (by rw [show (plink od cd c l (d + 1) k).getD (q, 3) = (a, 3) by simpa using e]; exact ha)), hQ a (by simp [ino, ha]) hs 4 (Or.inr rfl) (fun e => hy.1 (by rw [show (plink od cd c l (d + 1) k).getD (q, 3) = (a, 4) by simpa using e]; exact ha))⟩
      · simp only [if_neg hc] at h hQ hx ⊢
        have ih := updp_TP hnew r (d + 1) k _ h4 nr.2 (by omega) (fun a ha hs j hj hp => hQ a (by simp [ino, ha]) hs j hj (fun e => by
          cases hl : plink od cd c r (d + 1) k with
          | none => rw [hl] at e; simp at e; exact nr.1 (by rw [e.1]; exact ha)
          | some y => rw [hl] at e hp; simp at e; exact hp (by rw [e]))) (fun x hxl => hx x (by rw [hxl]; rfl))
        have hyl : ∀ y, (plink od cd c r (d + 1) k).getD (q, 4) = y → y.1 ∉ ino l ∧ (q, 3) ≠ y := fun y hy => by
          cases hl : plink od cd c r (d + 1) k with
          | none => rw [hl] at hy; simp at hy; rw [← hy]; exact ⟨fun hm => nd q hm q (by simp) rfl, by simp⟩
          | some z =>
            rw [hl] at hy; simp at hy; subst hy
            have hm := plink_mem r (d + 1) k z hl
            exact ⟨fun hr => nd z.1 hr z.1 (by simp [hm]) rfl, fun e => nr.1 (by rw [show q = z.1 by rw [← e]]; exact hm)⟩
        have hy := hyl _ rfl
        refine ⟨by simpa using h1, h2, ?_, ?_⟩
        · have e3 : Q1 q 3 = Q q 3 := hQ q (by simp [ino]) (fun hm => nr.1 (subp_sub r (d + 1) k q hm)) 3 (Or.inl rfl) (fun e => hy.2 (by simpa using e.symm))
          rw [e3]
          refine h3.congr (fun a ha => ?_)
          have hs : a ∉ ino (subp od cd c r (d + 1) k) := fun hm => nd a ha a (by simp [subp_sub r (d + 1) k a hm]) rfl
          exact ⟨rfl, hQ a (by simp [ino, ha]) hs 3 (Or.inl rfl) (fun e => hy.1 (by rw [show (plink od cd c r (d + 1) k).getD (q, 4) = (a, 3) by simpa using e]; exact ha)), hQ a (by simp [ino, ha]) hs 4 (Or.inr rfl) (fun e => hy.1 (by rw [show (plink od cd c r (d + 1) k).getD (q, 4) = (a, 4) by simpa using e]; exact ha))⟩
        · by_cases hk : k = 0
          · subst hk
            have e0 : plink od cd c r (d + 1) 0 = none := by cases r <;> simp [plink]
            have := hx (q, 4) (by rw [e0]; rfl)
            simp only at this
            rw [this]
            simpa using ih
          · rw [if_neg hk] at ih
            have e4 : Q1 q 4 = Q q 4 := hQ q (by simp [ino]) (fun hm => nr.1 (subp_sub r (d + 1) k q hm)) 4 (Or.inr rfl) (fun e => by
              cases hl : plink od cd c r (d + 1) k with
              | none =>
                rcases plink_none r (d + 1) k hl with h0 | h0
                · exact hk h0
                · subst h0; simp [spath] at h
              | some y =>
                rw [hl] at e; simp at e
                have hm := plink_mem r (d + 1) k y hl
                exact nr.1 (by rw [show q = y.1 by rw [e]]; exact hm))
            rw [e4]; exact ih
