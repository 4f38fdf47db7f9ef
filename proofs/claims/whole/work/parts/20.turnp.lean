def lastA (F : List Fr) : Option Nat := (F.getLast?).map (·.1)
theorem lastA_nil : lastA [] = none := rfl
theorem lastA_app (F : List Fr) (f : Fr) : lastA (F ++ [f]) = some f.1 := by simp [lastA]
theorem fr_split : ∀ F : List Fr, F = [] ∨ ∃ F0 f, F = F0 ++ [f]
  | [] => Or.inl rfl
  | f :: F => by
    rcases fr_split F with h | ⟨F0, g, h⟩
    · exact Or.inr ⟨[], f, by rw [h]; rfl⟩
    · exact Or.inr ⟨f :: F0, g, by rw [h]; rfl⟩
theorem fad_perm (F0 : List Fr) (f : Fr) (X1 : Tr) : (fad F0 ++ ino (balT (mkf f X1))).Perm (fad (F0 ++ [f]) ++ ino X1) := by
  rw [balT_ino, fad_app, List.append_assoc]
  refine List.Perm.append_left _ ?_
  refine (mkf_ino f X1).trans ?_
  simp [fad]
theorem mkf_ex (q : Nat) (b : Bool) (s X1 : Tr) : ∃ l r, mkf (q, b, s) X1 = .branch q l r ∧ ((l = s ∧ r = X1) ∨ (l = X1 ∧ r = s)) := by
  cases b
  · exact ⟨s, X1, rfl, Or.inl ⟨rfl, rfl⟩⟩
  · exact ⟨X1, s, rfl, Or.inr ⟨rfl, rfl⟩⟩
theorem PLG.fkind {K : Nat → Nat} {Q : Nat → Nat → Option Nat} : ∀ {F : List Fr} {o h : Option Nat}, PLG K Q F o h → ∀ x ∈ fad F, K x = 3
  | [], _, _, _, x, hx => by simp [fad] at hx
  | f :: F, o, h, hp, x, hx => by
    obtain ⟨h1, h2, h3, h4⟩ := hp
    simp only [fad, List.mem_cons, List.mem_append] at hx
    rcases hx with rfl | hx | hx
    · exact h2
    · exact h3.kind x hx
    · exact h4.fkind x hx
theorem bal_step {K : Nat → Nat} {Q1 Q3 : Nat → Nat → Option Nat} {F0 : List Fr} {f : Fr} {X1 Tn : Tr} {o y : Option Nat} {t : Nat} (hP : PLG K Q1 (F0 ++ [f]) (Q1 t 1) o) (hn : (fad (F0 ++ [f]) ++ ino X1).Nodup) (ht : t ∉ fad (F0 ++ [f]) ++ ino X1) (hT : TP K Q3 Tn y) (hs : ∀ x ∈ ino Tn, x ∈ ino (mkf f X1)) (hQ : ∀ x, x ∉ ino (mkf f X1) → Q3 x = Q1 x) {Q4 : Nat → Nat → Option Nat}
    (hQ4 : Q4 = (match lastA F0 with | none => x_u2 Q3 t 1 y | some p0 => if Q3 p0 3 = some f.1 then x_u2 Q3 p0 3 y else x_u2 Q3 p0 4 y)) :
    PLG K Q4 F0 (Q4 t 1) y ∧ TP K Q4 Tn y ∧ (∀ x j, x ∉ fad (F0 ++ [f]) ++ ino X1 → ¬ (x = t ∧ j = 1) → Q4 x j = Q1 x j) := by
  have hmk : ∀ x ∈ ino (mkf f X1), x ∈ fad (F0 ++ [f]) ++ ino X1 := fun x hx => by
    have h1 := (mkf_ino f X1).mem_iff.mp hx
    rw [fad_app]; simp only [fad, List.append_nil, List.mem_append, List.mem_cons] at h1 ⊢; grind
  have hdis : ∀ x ∈ fad F0, x ∉ ino (mkf f X1) := fun x hx hx2 => by
    have h1 := (mkf_ino f X1).mem_iff.mp hx2
    rw [fad_app, List.append_assoc, List.nodup_append] at hn
    exact hn.2.2 x hx x (by simpa [fad] using h1) rfl
  have htm : t ∉ ino (mkf f X1) := fun h => ht (hmk t h)
  rw [PLG.app] at hP
  obtain ⟨z, hP0, hz, -⟩ := hP
  subst hz
  have hP3 : PLG K Q3 F0 (Q3 t 1) (some f.1) := by
    rw [hQ t htm]
    exact hP0.congr (fun a ha => by rw [hQ a (hdis a ha)]; exact ⟨rfl, rfl⟩)
  have hF0 : ∀ x ∈ fad F0, x ∈ fad (F0 ++ [f]) ++ ino X1 := fun x hx => by rw [fad_app]; simp [hx]
  rcases fr_split F0 with rfl | ⟨F00, f0, rfl⟩
  · rw [lastA_nil] at hQ4
    simp only at hQ4
    subst hQ4
    refine ⟨x_u2_s _ _ _ _, hT.congr (fun x hx => ?_), fun x j hx hj => ?_⟩
    · rw [x_u2_a _ _ (show x ≠ t from fun e => htm (e ▸ hs x hx))]; exact ⟨rfl, rfl, rfl⟩
    · rw [← hQ x (fun h => hx (hmk x h))]
      by_cases e : x = t
      · subst e; exact x_u2_j _ _ (fun e2 => hj ⟨rfl, e2⟩)
      · rw [x_u2_a _ _ e]
  · rw [lastA_app] at hQ4
    simp only at hQ4
    have hf0 : f0.1 ∈ fad (F00 ++ [f0]) := by rw [fad_app]; simp [fad]
    have hq : f.1 ∉ fad (F00 ++ [f0]) := fun h => hdis _ h ((mkf_ino f X1).mem_iff.mpr (by simp))
    have hot := hP3.other hq
    have e4 : Q4 = x_u2 Q3 f0.1 (sd f0.2.1) y := by
      rw [hQ4]
      cases hb : f0.2.1
      · rw [if_neg (by have := hot.2; rw [hb] at this; exact this)]; rfl
      · rw [if_pos (by have := hot.1; rw [hb] at this; exact this)]; rfl
    have htf : t ≠ f0.1 := fun e => ht (e ▸ hF0 _ hf0)
    have hn0 : (fad (F00 ++ [f0])).Nodup := by
      rw [fad_app (F00 ++ [f0]), List.append_assoc, List.nodup_append] at hn
      exact hn.1
    subst e4
    refine ⟨?_, hT.congr (fun x hx => ?_), fun x j hx hj => ?_⟩
    · rw [x_u2_a _ _ htf]
      refine hP3.relink hn0 (x_u2_s _ _ _ _) (fun a j ha haj hj => ?_)
      by_cases e : a = f0.1
      · subst e; exact x_u2_j _ _ (fun e2 => haj (by rw [e2]))
      · rw [x_u2_a _ _ e]
    · rw [x_u2_a _ _ (show x ≠ f0.1 from fun e => hdis _ hf0 (e ▸ hs x hx))]; exact ⟨rfl, rfl, rfl⟩
    · rw [x_u2_a _ _ (show x ≠ f0.1 from fun e => hx (e ▸ hF0 _ hf0)), hQ x (fun h => hx (hmk x h))]
theorem fad_sub : ∀ {F : List Fr} {f : Fr}, f ∈ F → ∀ x ∈ ino f.2.2, x ∈ fad F
  | g :: F, f, h, x, hx => by
    simp only [fad, List.mem_cons, List.mem_append]
    rcases List.mem_cons.mp h with rfl | h
    · exact Or.inr (Or.inl hx)
    · exact Or.inr (Or.inr (fad_sub h x hx))
