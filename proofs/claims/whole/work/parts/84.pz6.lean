/-! balance of the turning tree -/
def WB : Tr → Prop
  | .leaf _ => True
  | .branch _ l r => sz l + 1 ≤ 3 * (sz r + 1) ∧ sz r + 1 ≤ 3 * (sz l + 1) ∧ WB l ∧ WB r
theorem WB_b {q : Nat} {l r : Tr} : WB (.branch q l r) ↔ sz l + 1 ≤ 3 * (sz r + 1) ∧ sz r + 1 ≤ 3 * (sz l + 1) ∧ WB l ∧ WB r := Iff.rfl
theorem wb_balT {q : Nat} {l r : Tr} {a0 b0 : Nat} (hl : WB l) (hr : WB r) (h1 : a0 ≤ 3 * b0) (h2 : b0 ≤ 3 * a0) (h3 : 1 ≤ a0) (h4 : 1 ≤ b0)
    (h5 : a0 = sz l + 1 ∧ (b0 = sz r + 1 ∨ b0 = sz r ∨ b0 = sz r + 2) ∨ b0 = sz r + 1 ∧ (a0 = sz l + 1 ∨ a0 = sz l ∨ a0 = sz l + 2)) : WB (balT (.branch q l r)) := by
  by_cases c1 : 3 * (sz l + 1) < sz r + 1
  · obtain ⟨c', a, b, rfl⟩ := sz_pos (t := r) (by omega)
    obtain ⟨r1, r2, r3, r4⟩ := WB_b.mp hr
    simp only [sz] at c1 h5
    by_cases c2 : 2 * (sz b + 1) ≤ sz a + 1
    · obtain ⟨e, t1, t2, rfl⟩ := sz_pos (t := a) (by omega)
      obtain ⟨q1, q2, q3, q4⟩ := WB_b.mp r3
      simp only [sz] at c1 c2 h5 r1 r2
      rw [(balT_RD (q := q) (c := c') (e := e) (l := l) (t1 := t1) (t2 := t2) (b := b) (by simp only [sz]; omega) (by simp only [sz]; omega)).1]
      refine WB_b.mpr ⟨by simp only [sz]; omega, by simp only [sz]; omega, WB_b.mpr ⟨by omega, by omega, hl, q3⟩, WB_b.mpr ⟨by omega, by omega, q4, r4⟩⟩
    · rw [(balT_RS (q := q) (c := c') (l := l) (a := a) (b := b) (by omega) c2).1]
      refine WB_b.mpr ⟨by simp only [sz]; omega, by simp only [sz]; omega, WB_b.mpr ⟨by omega, by omega, hl, r3⟩, r4⟩
  · by_cases c3 : 3 * (sz r + 1) < sz l + 1
    · obtain ⟨c', a, b, rfl⟩ := sz_pos (t := l) (by omega)
      obtain ⟨r1, r2, r3, r4⟩ := WB_b.mp hl
      simp only [sz] at c1 c3 h5
      by_cases c2 : 2 * (sz a + 1) ≤ sz b + 1
      · obtain ⟨e, t1, t2, rfl⟩ := sz_pos (t := b) (by omega)
        obtain ⟨q1, q2, q3, q4⟩ := WB_b.mp r4
        simp only [sz] at c1 c2 c3 h5 r1 r2
        rw [(balT_LD (q := q) (c := c') (e := e) (r := r) (a := a) (t1 := t1) (t2 := t2) (by simp only [sz]; omega) (by simp only [sz]; omega) (by simp only [sz]; omega)).1]
        refine WB_b.mpr ⟨by simp only [sz]; omega, by simp only [sz]; omega, WB_b.mpr ⟨by omega, by omega, r3, q3⟩, WB_b.mpr ⟨by omega, by omega, q4, hr⟩⟩
      · rw [(balT_LS (q := q) (c := c') (r := r) (a := a) (b := b) (by omega) (by omega) c2).1]
        refine WB_b.mpr ⟨by simp only [sz]; omega, by simp only [sz]; omega, r3, WB_b.mpr ⟨by omega, by omega, r4, hr⟩⟩
    · rw [balT_b, if_neg c1, if_neg c3]
      exact WB_b.mpr ⟨by omega, by omega, hl, hr⟩
theorem sz_plug (F : List Fr) (X : Tr) : sz (plug F X) = (fad F).length + sz X := by
  rw [← ino_len, (plug_ino F X).length_eq, List.length_append, ino_len]
theorem sz_balF (F : List Fr) (X : Tr) : sz (balF F X) = (fad F).length + sz X := by
  rw [← ino_len, (balF_ino F X).length_eq, List.length_append, ino_len]
theorem wb_balF : ∀ {F : List Fr} {X X0 : Tr}, WB (plug F X0) → WB X → (sz X = sz X0 ∨ sz X = sz X0 + 1 ∨ sz X + 1 = sz X0) → WB (balF F X)
  | [], _, _, _, h, _ => h
  | (q, b, s) :: F, X, X0, h, hX, hs => by
    have e1 := sz_balF F X
    have e2 := sz_plug F X0
    cases b with
    | true =>
      obtain ⟨h1, h2, h3, h4⟩ := WB_b.mp h
      have ih := wb_balF h3 hX hs
      exact wb_balT (a0 := sz (plug F X0) + 1) (b0 := sz s + 1) ih h4 h1 h2 (by omega) (by omega) (Or.inr ⟨rfl, by omega⟩)
    | false =>
      obtain ⟨h1, h2, h3, h4⟩ := WB_b.mp h
      have ih := wb_balF h4 hX hs
      exact wb_balT (a0 := sz s + 1) (b0 := sz (plug F X0) + 1) h3 ih h1 h2 (by omega) (by omega) (Or.inl ⟨rfl, by omega⟩)
theorem wb_step {a k w W : Nat} (h : a ≤ 3 ^ k * w) (hw : 4 * w ≤ 3 * W) : 4 * a ≤ 3 ^ (k + 1) * W := by
  rw [Nat.pow_succ, Nat.mul_assoc]
  have h1 : 4 * a ≤ 4 * (3 ^ k * w) := Nat.mul_le_mul_left _ h
  have h2 : 3 ^ k * (4 * w) ≤ 3 ^ k * (3 * W) := Nat.mul_le_mul_left _ hw
  have h3 : 4 * (3 ^ k * w) = 3 ^ k * (4 * w) := by rw [← Nat.mul_assoc, Nat.mul_comm 4, Nat.mul_assoc]
  omega
theorem wb_pw : ∀ {A : Tr}, WB A → 4 ^ ht A ≤ 3 ^ ht A * (sz A + 1)
  | .leaf _, _ => by simp [ht, sz]
  | .branch q l r, h => by
    obtain ⟨h1, h2, h3, h4⟩ := WB_b.mp h
    have i1 := wb_pw h3
    have i2 := wb_pw h4
    simp only [ht, sz]
    rw [Nat.pow_succ, Nat.mul_comm _ 4]
    rcases Nat.le_total (ht l) (ht r) with hm | hm
    · rw [Nat.max_eq_right hm]
      exact wb_step i2 (by omega)
    · rw [Nat.max_eq_left hm]
      exact wb_step i1 (by omega)
theorem wb_fr : ∀ {F : List Fr} {X0 : Tr}, WB (plug F X0) → 4 ^ F.length * (sz X0 + 1) ≤ 3 ^ F.length * (sz (plug F X0) + 1) ∧ WB X0
  | [], _, h => by simp [plug]; exact h
  | (q, b, s) :: F, X0, h => by
    simp only [List.length_cons]
    rw [Nat.pow_succ, Nat.mul_comm _ 4, Nat.mul_assoc]
    cases b with
    | true =>
      have h : WB (.branch q (plug F X0) s) := h
      obtain ⟨h1, h2, h3, h4⟩ := WB_b.mp h
      have ih := wb_fr h3
      refine ⟨wb_step ih.1 ?_, ih.2⟩
      simp only [plug, mkf, if_true, sz]; omega
    | false =>
      have h : WB (.branch q s (plug F X0)) := h
      obtain ⟨h1, h2, h3, h4⟩ := WB_b.mp h
      have ih := wb_fr h4
      refine ⟨wb_step ih.1 ?_, ih.2⟩
      simp only [plug, mkf, Bool.false_eq_true, if_false, sz]; omega
theorem pw_gap : ∀ d : Nat, 204 * 3 ^ (19 + d) < 4 ^ (19 + d)
  | 0 => by decide
  | d + 1 => by
    have ih := pw_gap d
    rw [show 19 + (d + 1) = (19 + d) + 1 by omega, Nat.pow_succ, Nat.pow_succ]
    omega
theorem pw18 {k w : Nat} (h : 4 ^ k ≤ 3 ^ k * w) (hw : w ≤ 204) : k ≤ 18 := by
  rcases Nat.lt_or_ge k 19 with h1 | h1
  · omega
  · exfalso
    have h2 := pw_gap (k - 19)
    rw [show 19 + (k - 19) = k by omega] at h2
    have h3 : 3 ^ k * w ≤ 3 ^ k * 204 := Nat.mul_le_mul_left _ hw
    rw [Nat.mul_comm _ 204] at h3
    omega
theorem ht_plug_max : ∀ (F : List Fr) (X0 Y : Tr), ht (plug F Y) ≤ max (ht (plug F X0)) (F.length + ht Y)
  | [], X0, Y => by simp [plug]; omega
  | (q, b, s) :: F, X0, Y => by
    have ih := ht_plug_max F X0 Y
    cases b <;> simp only [plug, mkf, ht, List.length_cons, if_true, Bool.false_eq_true, if_false] <;> omega
theorem wb_ht {A : Tr} (h : WB A) (hs : sz A ≤ 200) : ht A ≤ 18 := pw18 (wb_pw h) (by omega)
/-- while the balancing goes up, the tree stays low -/
theorem wb_mid {F1 F2 : List Fr} {X X0 : Tr} (h : WB (plug (F1 ++ F2) X0)) (hX : WB X) (hs : sz X = sz X0 ∨ sz X = sz X0 + 1 ∨ sz X + 1 = sz X0) (hsz : sz (plug (F1 ++ F2) X0) ≤ 100) : ht (plug F1 (balF F2 X)) ≤ 18 := by
  have h0 := h
  rw [plug_app] at h hsz
  obtain ⟨g1, g2⟩ := wb_fr h
  have hY := wb_balF g2 hX hs
  have e1 := sz_balF F2 X
  have e2 := sz_plug F2 X0
  have hpw := wb_pw hY
  have h1 := ht_plug_max F1 (plug F2 X0) (balF F2 X)
  have h2 := wb_ht h (by omega)
  have h3 : F1.length + ht (balF F2 X) ≤ 18 := by
    refine pw18 (w := 2 * (sz (plug F1 (plug F2 X0)) + 1)) ?_ (by omega)
    have hW : 0 < sz (plug F2 X0) + 1 := by omega
    refine Nat.le_of_mul_le_mul_right ?_ hW
    rw [Nat.pow_add, Nat.pow_add]
    have k1 : 4 ^ ht (balF F2 X) ≤ 3 ^ ht (balF F2 X) * (2 * (sz (plug F2 X0) + 1)) := Nat.le_trans hpw (Nat.mul_le_mul_left _ (by omega))
    have k2 := Nat.mul_le_mul g1 k1
    calc 4 ^ F1.length * 4 ^ ht (balF F2 X) * (sz (plug F2 X0) + 1) = 4 ^ F1.length * (sz (plug F2 X0) + 1) * 4 ^ ht (balF F2 X) := by rw [Nat.mul_right_comm]
      _ ≤ 3 ^ F1.length * (sz (plug F1 (plug F2 X0)) + 1) * (3 ^ ht (balF F2 X) * (2 * (sz (plug F2 X0) + 1))) := k2
      _ = 3 ^ F1.length * 3 ^ ht (balF F2 X) * (2 * (sz (plug F1 (plug F2 X0)) + 1)) * (sz (plug F2 X0) + 1) := by
        simp only [Nat.mul_assoc, Nat.mul_comm, Nat.mul_left_comm]
  omega
/-! the order of the codes through a change -/
theorem mkf_ino_e (f : Fr) (t : Tr) : ino (mkf f t) = if f.2.1 = true then ino t ++ f.1 :: ino f.2.2 else ino f.2.2 ++ f.1 :: ino t := by
  obtain ⟨q, b, s⟩ := f
  cases b <;> rfl
theorem balF_ino_e : ∀ (F : List Fr) (X : Tr), ino (balF F X) = ino (plug F X)
  | [], _ => rfl
  | f :: F, X => by
    simp only [balF, plug]
    rw [balT_ino, mkf_ino_e, mkf_ino_e, balF_ino_e F X]
def fpre : List Fr → List Nat
  | [] => []
  | f :: F => if f.2.1 = true then fpre F else ino f.2.2 ++ f.1 :: fpre F
def fpost : List Fr → List Nat
  | [] => []
  | f :: F => if f.2.1 = true then fpost F ++ f.1 :: ino f.2.2 else fpost F
theorem plug_ino_e : ∀ (F : List Fr) (X : Tr), ino (plug F X) = fpre F ++ (ino X ++ fpost F)
  | [], X => by simp [plug, fpre, fpost]
  | (q, b, s) :: F, X => by
    simp only [plug]
    rw [mkf_ino_e, plug_ino_e F X]
    cases b <;> simp [fpre, fpost]
theorem SRT_cd {cd cd' : Nat → Nat} {A : Tr} (h : SRT cd A) (hc : ∀ a ∈ ino A, cd' a = cd a) : SRT cd' A := by
  unfold SRT at h ⊢
  rw [List.map_congr_left hc]
  exact h
theorem SRT_ins {cd : Nat → Nat} {cc v : Nat} : ∀ {A : Tr}, SRT cd A → (∀ a ∈ ino A, cd a ≠ cc) → cd v = cc → SRT cd (plug (fpF cd cc A) (.branch v (.leaf ()) (.leaf ())))
  | .leaf _, _, _, _ => by simp [fpF, plug, SRT, ino]
  | .branch q l r, h, hn, hv => by
    obtain ⟨h1, h2, h3, h4⟩ := SRT_b.mp h
    have hq := hn q (by simp [ino])
    have hm : ∀ (t : Tr), (∀ a ∈ ino t, cd a ≠ cc) → ∀ a ∈ ino (plug (fpF cd cc t) (.branch v (.leaf ()) (.leaf ()) : Tr)), a = v ∨ a ∈ ino t := fun t hnt a ha => by
      rw [plug_ino_e] at ha
      simp only [ino, List.nil_append, List.mem_append, List.mem_cons, List.not_mem_nil, or_false] at ha
      have h9 := plug_ino_e (fpF cd cc t) (fpT cd cc t)
      rw [fp_plug] at h9
      rw [h9]
      simp only [List.mem_append]
      grind
    simp only [fpF, if_neg hq]
    by_cases e : cc < cd q
    · rw [if_pos e]
      show SRT cd (.branch q (plug (fpF cd cc l) (.branch v (.leaf ()) (.leaf ()))) r)
      refine SRT_b.mpr ⟨SRT_ins h1 (fun a ha => hn a (by simp [ino, ha])) hv, h2, fun a ha => ?_, h4⟩
      rcases hm l (fun a ha => hn a (by simp [ino, ha])) a ha with rfl | h9
      · omega
      · exact h3 a h9
    · rw [if_neg e]
      show SRT cd (.branch q l (plug (fpF cd cc r) (.branch v (.leaf ()) (.leaf ()))))
      refine SRT_b.mpr ⟨h1, SRT_ins h2 (fun a ha => hn a (by simp [ino, ha])) hv, h3, fun a ha => ?_⟩
      rcases hm r (fun a ha => hn a (by simp [ino, ha])) a ha with rfl | h9
      · omega
      · exact h4 a h9
theorem upT_ino {hh : Nat} {l r : Tr} (hz : sz l = 0 ∨ sz r = 0) : ino (upT (.branch hh l r)) = ino l ++ ino r := by
  simp only [upT]
  by_cases c : sz l = 0
  · obtain ⟨u, rfl⟩ := sz_leaf c
    rw [if_pos c]; rfl
  · obtain ⟨u, rfl⟩ := sz_leaf (A := r) (by omega)
    rw [if_neg c]; simp [ino]
theorem hp_ino_t : ∀ {A : Tr} {hh : Nat} {l2 r2 : Tr}, hpT true A = .branch hh l2 r2 → ino (plug (hpF true A) (upT (.branch hh l2 r2))) ++ [hh] = ino A
  | .branch q l r, hh, l2, r2, he => by
    simp only [hpT, if_true] at he
    simp only [hpF, if_true]
    split at he
    · rename_i hz
      rw [if_pos hz]
      cases he
      obtain ⟨u, rfl⟩ := sz_leaf hz
      simp only [plug]
      rw [upT_ino (Or.inr rfl)]
      simp [ino]
    · rename_i hz
      rw [if_neg hz]
      have ih := hp_ino_t he
      simp only [plug]
      rw [mkf_ino_e]
      simp only [Bool.false_eq_true, if_false, ino, List.append_assoc, List.cons_append]
      rw [ih]
theorem hp_ino_f : ∀ {A : Tr} {hh : Nat} {l2 r2 : Tr}, hpT false A = .branch hh l2 r2 → hh :: ino (plug (hpF false A) (upT (.branch hh l2 r2))) = ino A
  | .branch q l r, hh, l2, r2, he => by
    simp only [hpT, Bool.false_eq_true, if_false] at he
    simp only [hpF, Bool.false_eq_true, if_false]
    split at he
    · rename_i hz
      rw [if_pos hz]
      cases he
      obtain ⟨u, rfl⟩ := sz_leaf hz
      simp only [plug]
      rw [upT_ino (Or.inl rfl)]
      simp [ino]
    · rename_i hz
      rw [if_neg hz]
      have ih := hp_ino_f he
      simp only [plug]
      rw [mkf_ino_e]
      simp only [if_true, ino]
      rw [← ih]; rfl
