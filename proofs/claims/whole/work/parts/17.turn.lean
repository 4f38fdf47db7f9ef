/-! the turning tree -/
def rotL : Tr → Tr
  | .branch q l (.branch c a b) => .branch c (.branch q l a) b
  | t => t
def rotR : Tr → Tr
  | .branch q (.branch c a b) r => .branch c a (.branch q b r)
  | t => t
def balT : Tr → Tr
  | .leaf u => .leaf u
  | .branch q l r =>
    if 3 * (sz l + 1) < sz r + 1 then (if 2 * (sz (rtr r) + 1) ≤ sz (ltr r) + 1 then rotL (.branch q l (rotR r)) else rotL (.branch q l r))
    else if 3 * (sz r + 1) < sz l + 1 then (if 2 * (sz (ltr l) + 1) ≤ sz (rtr l) + 1 then rotR (.branch q (rotL l) r) else rotR (.branch q l r))
    else .branch q l r
def balN : Tr → Nat
  | .leaf _ => 0
  | .branch _ l r =>
    if 3 * (sz l + 1) < sz r + 1 then (if 2 * (sz (rtr r) + 1) ≤ sz (ltr r) + 1 then 2 else 1)
    else if 3 * (sz r + 1) < sz l + 1 then (if 2 * (sz (ltr l) + 1) ≤ sz (rtr l) + 1 then 2 else 1)
    else 0
theorem rotL_ino : ∀ t : Tr, ino (rotL t) = ino t
  | .leaf _ => rfl
  | .branch q l (.leaf _) => rfl
  | .branch q l (.branch c a b) => by simp [rotL, ino]
theorem rotR_ino : ∀ t : Tr, ino (rotR t) = ino t
  | .leaf _ => rfl
  | .branch q (.leaf _) r => rfl
  | .branch q (.branch c a b) r => by simp [rotR, ino]
theorem balT_ino : ∀ t : Tr, ino (balT t) = ino t
  | .leaf _ => rfl
  | .branch q l r => by
    simp only [balT]
    split
    · split
      · rw [rotL_ino]; simp [ino, rotR_ino]
      · rw [rotL_ino]
    · split
      · split
        · rw [rotR_ino]; simp [ino, rotL_ino]
        · rw [rotR_ino]
      · rfl
theorem balT_sz (t : Tr) : sz (balT t) = sz t := by rw [← ino_len, ← ino_len, balT_ino]
theorem sz_pos {t : Tr} (h : 0 < sz t) : ∃ q l r, t = .branch q l r := by
  cases t with
  | leaf _ => simp [sz] at h
  | branch q l r => exact ⟨q, l, r, rfl⟩
theorem TP.root {K : Nat → Nat} {Q : Nat → Nat → Option Nat} {q : Nat} {l r : Tr} {o : Option Nat} (h : TP K Q (.branch q l r) o) : o = Option.some q := h.1
/-- a frame: a node, whether the hole is its left one, the other subtree -/
abbrev Fr : Type := Nat × Bool × Tr
def mkf (f : Fr) (t : Tr) : Tr := if f.2.1 = true then .branch f.1 t f.2.2 else .branch f.1 f.2.2 t
def plug : List Fr → Tr → Tr
  | [], t => t
  | f :: F, t => mkf f (plug F t)
def balF : List Fr → Tr → Tr
  | [], t => t
  | f :: F, t => balT (mkf f (balF F t))
def balC : List Fr → Tr → Nat
  | [], _ => 0
  | f :: F, t => balC F t + balN (mkf f (balF F t))
def sd (b : Bool) : Nat := if b = true then 3 else 4
def so (b : Bool) : Nat := if b = true then 4 else 3
def PLG (K : Nat → Nat) (Q : Nat → Nat → Option Nat) : List Fr → Option Nat → Option Nat → Prop
  | [], o, h => o = h
  | f :: F, o, h => o = some f.1 ∧ K f.1 = 3 ∧ TP K Q f.2.2 (Q f.1 (so f.2.1)) ∧ PLG K Q F (Q f.1 (sd f.2.1)) h
def fad : List Fr → List Nat
  | [] => []
  | f :: F => f.1 :: (ino f.2.2 ++ fad F)
theorem mkf_TP {K : Nat → Nat} {Q : Nat → Nat → Option Nat} {f : Fr} {t : Tr} {o : Option Nat} : TP K Q (mkf f t) o ↔ o = some f.1 ∧ K f.1 = 3 ∧ TP K Q f.2.2 (Q f.1 (so f.2.1)) ∧ TP K Q t (Q f.1 (sd f.2.1)) := by
  obtain ⟨q, b, s⟩ := f
  cases b <;> simp only [mkf, so, sd, TP] <;> simp [TP] <;> grind
theorem mkf_ino (f : Fr) (t : Tr) : (ino (mkf f t)).Perm (f.1 :: (ino f.2.2 ++ ino t)) := by
  obtain ⟨q, b, s⟩ := f
  cases b
  · simp only [mkf, Bool.false_eq_true, if_false, ino]
    exact List.perm_middle
  · simp only [mkf, if_true, ino]
    exact List.perm_middle.trans ((List.perm_append_comm).cons _)
theorem mkf_sz (f : Fr) (t : Tr) : sz (mkf f t) = sz f.2.2 + sz t + 1 := by
  obtain ⟨q, b, s⟩ := f
  cases b <;> simp [mkf, sz] <;> omega
theorem mkf_WT {I : Nat → Nat → Int32} {f : Fr} {t : Tr} : WT I (mkf f t) ↔ I f.1 2 = nI (sz f.2.2 + sz t + 1) ∧ WT I f.2.2 ∧ WT I t := by
  obtain ⟨q, b, s⟩ := f
  cases b
  · simp [mkf, WT]
  · simp only [mkf, if_true, WT]
    rw [Nat.add_comm (sz t) (sz s)]
    grind
theorem plug_ino : ∀ (F : List Fr) (t : Tr), (ino (plug F t)).Perm (fad F ++ ino t)
  | [], t => List.Perm.refl _
  | f :: F, t => by
    simp only [plug, fad, List.cons_append, List.append_assoc]
    exact (mkf_ino f (plug F t)).trans (((plug_ino F t).append_left _).cons _)
theorem plug_TP {K : Nat → Nat} {Q : Nat → Nat → Option Nat} : ∀ (F : List Fr) (t : Tr) (o : Option Nat), TP K Q (plug F t) o ↔ ∃ h, PLG K Q F o h ∧ TP K Q t h
  | [], t, o => by simp [plug, PLG]
  | f :: F, t, o => by
    simp only [plug, mkf_TP, plug_TP F t, PLG]
    grind
theorem PLG.app {K : Nat → Nat} {Q : Nat → Nat → Option Nat} : ∀ (F1 F2 : List Fr) (o h : Option Nat), PLG K Q (F1 ++ F2) o h ↔ ∃ x, PLG K Q F1 o x ∧ PLG K Q F2 x h
  | [], F2, o, h => by simp [PLG]
  | f :: F1, F2, o, h => by
    simp only [List.cons_append, PLG, PLG.app F1 F2]
    grind
theorem fad_app : ∀ (F1 F2 : List Fr), fad (F1 ++ F2) = fad F1 ++ fad F2
  | [], F2 => rfl
  | f :: F1, F2 => by simp [fad, fad_app F1 F2]
theorem balF_app : ∀ (F1 F2 : List Fr) (t : Tr), balF (F1 ++ F2) t = balF F1 (balF F2 t)
  | [], F2, t => rfl
  | f :: F1, F2, t => by simp [balF, balF_app F1 F2 t]
theorem balC_app : ∀ (F1 F2 : List Fr) (t : Tr), balC (F1 ++ F2) t = balC F1 (balF F2 t) + balC F2 t
  | [], F2, t => by simp [balC]
  | f :: F1, F2, t => by simp [balC, balF_app, balC_app F1 F2 t]; omega
theorem plug_app : ∀ (F1 F2 : List Fr) (t : Tr), plug (F1 ++ F2) t = plug F1 (plug F2 t)
  | [], F2, t => rfl
  | f :: F1, F2, t => by simp [plug, plug_app F1 F2 t]
theorem balF_ino : ∀ (F : List Fr) (t : Tr), (ino (balF F t)).Perm (fad F ++ ino t)
  | [], t => List.Perm.refl _
  | f :: F, t => by
    simp only [balF, balT_ino, fad, List.cons_append, List.append_assoc]
    exact (mkf_ino f (balF F t)).trans (((balF_ino F t).append_left _).cons _)
theorem PLG.congr {K : Nat → Nat} {Q Q1 : Nat → Nat → Option Nat} : ∀ {F : List Fr} {o h : Option Nat}, PLG K Q F o h → (∀ a ∈ fad F, Q1 a 3 = Q a 3 ∧ Q1 a 4 = Q a 4) → PLG K Q1 F o h
  | [], _, _, h, _ => h
  | f :: F, o, h, hp, hc => by
    obtain ⟨h1, h2, h3, h4⟩ := hp
    have hq := hc f.1 (by simp [fad])
    have e : ∀ b : Bool, Q1 f.1 (so b) = Q f.1 (so b) ∧ Q1 f.1 (sd b) = Q f.1 (sd b) := fun b => by cases b <;> simp [so, sd, hq.1, hq.2]
    refine ⟨h1, h2, ?_, ?_⟩
    · rw [(e _).1]; exact h3.congr (fun a ha => ⟨rfl, hc a (by simp [fad, ha])⟩)
    · rw [(e _).2]; exact PLG.congr h4 (fun a ha => hc a (by simp [fad, ha]))
/-- the hole's link changed -/
theorem PLG.relink {K : Nat → Nat} {Q Q1 : Nat → Nat → Option Nat} {f : Fr} {F0 : List Fr} {o x y : Option Nat} (h : PLG K Q (F0 ++ [f]) o x) (hn : (fad (F0 ++ [f])).Nodup) (h1 : Q1 f.1 (sd f.2.1) = y) (hQ : ∀ a j, a ∈ fad (F0 ++ [f]) → (a, j) ≠ (f.1, sd f.2.1) → (j = 3 ∨ j = 4) → Q1 a j = Q a j) : PLG K Q1 (F0 ++ [f]) o y := by
  rw [PLG.app] at h ⊢
  rw [fad_app, List.nodup_append] at hn
  obtain ⟨n1, n2, n3⟩ := hn
  simp only [fad, List.append_nil, List.nodup_cons] at n2 n3
  obtain ⟨z, hz, e1, e2, e3, e4⟩ := h
  have hmem : ∀ a, a ∈ fad F0 ∨ a = f.1 ∨ a ∈ ino f.2.2 → a ∈ fad (F0 ++ [f]) := fun a ha => by rw [fad_app]; simp only [List.mem_append, fad, List.mem_cons, List.append_nil]; grind
  refine ⟨z, hz.congr (fun a ha => ?_), e1, e2, ?_, h1⟩
  · have hne : a ≠ f.1 := fun e => n3 a ha f.1 (by simp) e
    exact ⟨hQ a 3 (hmem a (Or.inl ha)) (fun e => hne (by simpa using congrArg Prod.fst e)) (Or.inl rfl), hQ a 4 (hmem a (Or.inl ha)) (fun e => hne (by simpa using congrArg Prod.fst e)) (Or.inr rfl)⟩
  · have hso : Q1 f.1 (so f.2.1) = Q f.1 (so f.2.1) := hQ f.1 _ (hmem f.1 (Or.inr (Or.inl rfl))) (fun e => by have := congrArg Prod.snd e; simp only at this; cases hb : f.2.1 <;> simp [hb, so, sd] at this) (by cases f.2.1 <;> simp [so])
    rw [hso]
    refine e3.congr (fun a ha => ?_)
    have hne : a ≠ f.1 := fun e => n2.1 (e ▸ ha)
    exact ⟨rfl, hQ a 3 (hmem a (Or.inr (Or.inr ha))) (fun e => hne (by simpa using congrArg Prod.fst e)) (Or.inl rfl), hQ a 4 (hmem a (Or.inr (Or.inr ha))) (fun e => hne (by simpa using congrArg Prod.fst e)) (Or.inr rfl)⟩
/-- in a chain of frames the last one's other subtree doesn't begin with the hole's node -/
theorem PLG.other {K : Nat → Nat} {Q : Nat → Nat → Option Nat} {f : Fr} {F0 : List Fr} {o : Option Nat} {q : Nat} (h : PLG K Q (F0 ++ [f]) o (some q)) (hq : q ∉ fad (F0 ++ [f])) : Q f.1 (sd f.2.1) = some q ∧ Q f.1 (so f.2.1) ≠ some q := by
  rw [PLG.app] at h
  obtain ⟨z, hz, e1, e2, e3, e4⟩ := h
  refine ⟨e4, fun e => ?_⟩
  rw [e] at e3
  obtain ⟨l, r, hs, -⟩ := e3.some
  exact hq (by rw [fad_app]; simp [fad, hs, ino])
theorem balT_b (q : Nat) (l r : Tr) : balT (.branch q l r) =
    if 3 * (sz l + 1) < sz r + 1 then (if 2 * (sz (rtr r) + 1) ≤ sz (ltr r) + 1 then rotL (.branch q l (rotR r)) else rotL (.branch q l r))
    else if 3 * (sz r + 1) < sz l + 1 then (if 2 * (sz (ltr l) + 1) ≤ sz (rtr l) + 1 then rotR (.branch q (rotL l) r) else rotR (.branch q l r))
    else .branch q l r := rfl
theorem balN_b (q : Nat) (l r : Tr) : balN (.branch q l r) =
    if 3 * (sz l + 1) < sz r + 1 then (if 2 * (sz (rtr r) + 1) ≤ sz (ltr r) + 1 then 2 else 1)
    else if 3 * (sz r + 1) < sz l + 1 then (if 2 * (sz (ltr l) + 1) ≤ sz (rtr l) + 1 then 2 else 1)
    else 0 := rfl
theorem balT_RS {q c : Nat} {l a b : Tr} (h1 : 3 * (sz l + 1) < sz a + sz b + 1 + 1) (h2 : ¬ 2 * (sz b + 1) ≤ sz a + 1) : balT (.branch q l (.branch c a b)) = .branch c (.branch q l a) b ∧ balN (.branch q l (.branch c a b)) = 1 := by
  have h1' : 3 * (sz l + 1) < sz (.branch c a b) + 1 := h1
  constructor
  · rw [balT_b, if_pos h1']; show (if 2 * (sz b + 1) ≤ sz a + 1 then _ else _) = _; rw [if_neg h2]; rfl
  · rw [balN_b, if_pos h1']; show (if 2 * (sz b + 1) ≤ sz a + 1 then _ else _) = _; rw [if_neg h2]
theorem balT_RD {q c e : Nat} {l t1 t2 b : Tr} (h1 : 3 * (sz l + 1) < sz (.branch e t1 t2) + sz b + 1 + 1) (h2 : 2 * (sz b + 1) ≤ sz (.branch e t1 t2) + 1) : balT (.branch q l (.branch c (.branch e t1 t2) b)) = .branch e (.branch q l t1) (.branch c t2 b) ∧ balN (.branch q l (.branch c (.branch e t1 t2) b)) = 2 := by
  have h1' : 3 * (sz l + 1) < sz (.branch c (.branch e t1 t2) b) + 1 := h1
  constructor
  · rw [balT_b, if_pos h1']; show (if 2 * (sz b + 1) ≤ sz (.branch e t1 t2) + 1 then _ else _) = _; rw [if_pos h2]; rfl
  · rw [balN_b, if_pos h1']; show (if 2 * (sz b + 1) ≤ sz (.branch e t1 t2) + 1 then _ else _) = _; rw [if_pos h2]
theorem balT_LS {q c : Nat} {r a b : Tr} (h0 : ¬ 3 * (sz a + sz b + 1 + 1) < sz r + 1) (h1 : 3 * (sz r + 1) < sz a + sz b + 1 + 1) (h2 : ¬ 2 * (sz a + 1) ≤ sz b + 1) : balT (.branch q (.branch c a b) r) = .branch c a (.branch q b r) ∧ balN (.branch q (.branch c a b) r) = 1 := by
  have h0' : ¬ 3 * (sz (.branch c a b) + 1) < sz r + 1 := h0
  have h1' : 3 * (sz r + 1) < sz (.branch c a b) + 1 := h1
  constructor
  · rw [balT_b, if_neg h0', if_pos h1']; show (if 2 * (sz a + 1) ≤ sz b + 1 then _ else _) = _; rw [if_neg h2]; rfl
  · rw [balN_b, if_neg h0', if_pos h1']; show (if 2 * (sz a + 1) ≤ sz b + 1 then _ else _) = _; rw [if_neg h2]
theorem balT_LD {q c e : Nat} {r a t1 t2 : Tr} (h0 : ¬ 3 * (sz a + sz (.branch e t1 t2) + 1 + 1) < sz r + 1) (h1 : 3 * (sz r + 1) < sz a + sz (.branch e t1 t2) + 1 + 1) (h2 : 2 * (sz a + 1) ≤ sz (.branch e t1 t2) + 1) : balT (.branch q (.branch c a (.branch e t1 t2)) r) = .branch e (.branch c a t1) (.branch q t2 r) ∧ balN (.branch q (.branch c a (.branch e t1 t2)) r) = 2 := by
  have h0' : ¬ 3 * (sz (.branch c a (.branch e t1 t2)) + 1) < sz r + 1 := h0
  have h1' : 3 * (sz r + 1) < sz (.branch c a (.branch e t1 t2)) + 1 := h1
  constructor
  · rw [balT_b, if_neg h0', if_pos h1']; show (if 2 * (sz a + 1) ≤ sz (.branch e t1 t2) + 1 then _ else _) = _; rw [if_pos h2]; rfl
  · rw [balN_b, if_neg h0', if_pos h1']; show (if 2 * (sz a + 1) ≤ sz (.branch e t1 t2) + 1 then _ else _) = _; rw [if_pos h2]
