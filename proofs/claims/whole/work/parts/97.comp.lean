/-! the components of the law's world: owners of the addresses -/
theorem XM.mono {α : Type} {l : Launch} {y : MethodName} {cc : ByteArray} {maxL : Nat} {ret : Option FieldType} {rm : Room} {G : xG} {ρ : α → Option Value} {av : List Value} {S : xS} {post post' : α → xS → Prop} (h : XM l y cc maxL ret rm G ρ av S post) (hp : ∀ r S', post r S' → post' r S') : XM l y cc maxL ret rm G ρ av S post' := by
  unfold XM Met at h ⊢
  exact MetFree.mono h (fun _ _ q => q) (fun _ _ _ _ _ q => q) (fun a st o t _ q => ⟨⟨q.1.1.imp fun r h1 => h1.imp fun S' h2 => ⟨h2.1, hp r S' h2.2.1, h2.2.2⟩, q.1.2⟩, q.2⟩)
abbrev xO : Type := Nat → Nat
/-- only cells of the owner c were written, or new ones made -/
def FRO (c : Nat) (ow ow1 : xO) (S S1 : xS) : Prop := S1.2.2.2.2 = S.2.2.2.2 ∧ ∀ q : Nat, S.1 q ≠ 0 → ow1 q = ow q ∧ S1.1 q = S.1 q ∧ S1.2.1 q = S.2.1 q ∧ (ow q ≠ c → S1.2.2.1 q = S.2.2.1 q ∧ S1.2.2.2.1 q = S.2.2.2.1 q)
theorem FRO.of {c : Nat} {ow ow1 : xO} {S S1 : xS} (hJ : S1.2.2.2.2 = S.2.2.2.2) (h : ∀ q : Nat, S.1 q ≠ 0 → ow1 q = ow q ∧ S1.1 q = S.1 q ∧ S1.2.1 q = S.2.1 q ∧ (ow q ≠ c → S1.2.2.1 q = S.2.2.1 q ∧ S1.2.2.2.1 q = S.2.2.2.1 q)) : FRO c ow ow1 S S1 := ⟨hJ, h⟩
theorem FRO.refl (c : Nat) (ow : xO) (S : xS) : FRO c ow ow S S := ⟨rfl, fun _ _ => ⟨rfl, rfl, rfl, fun _ => ⟨rfl, rfl⟩⟩⟩
/-- one cell, kept -/
def xAg (c : Nat) (ow ow1 : xO) (S S1 : xS) (q : Nat) : Prop := S.1 q ≠ 0 ∧ ow q = c ∧ ow1 q = c ∧ S1.1 q = S.1 q ∧ S1.2.1 q = S.2.1 q ∧ S1.2.2.1 q = S.2.2.1 q ∧ S1.2.2.2.1 q = S.2.2.2.1 q
theorem FRO.ag {c d : Nat} {ow ow1 : xO} {S S1 : xS} (h : FRO c ow ow1 S S1) (hcd : d ≠ c) {q : Nat} (hq : S.1 q ≠ 0) (ho : ow q = d) : xAg d ow ow1 S S1 q := by
  obtain ⟨h1, h2, h3, h4⟩ := h.2 q hq
  obtain ⟨h5, h6⟩ := h4 (by rw [ho]; exact hcd)
  exact ⟨hq, ho, h1.trans ho, h2, h3, h5, h6⟩
theorem TP.nz {K : Nat → Nat} {Q : Nat → Nat → Option Nat} {A : Tr} {o : Option Nat} (h : TP K Q A o) : ∀ a ∈ ino A, K a = 3 := by
  induction A generalizing o with
  | leaf u => intro a ha; simp [ino] at ha
  | branch q l r ihl ihr =>
    obtain ⟨h1, h2, h3, h4⟩ := h
    intro a ha
    simp only [ino, List.mem_append, List.mem_cons] at ha
    rcases ha with ha | rfl | ha
    · exact ihl h3 a ha
    · exact h2
    · exact ihr h4 a ha
/-- a lazy tree with its cells -/
def CL (cv : Nat → Int32) (B kd cap c : Nat) (ow : xO) (S : xS) (t : Nat) (cd : Nat → Nat) (A : Tr) (pq pn rw rn : Nat) : Prop :=
  LTI cv B S.1 S.2.1 S.2.2.1 S.2.2.2.1 t kd pq pn rw rn cap cd A ∧ (∀ q, q = t ∨ q = pq ∨ q = pn ∨ q = rw ∨ q = rn ∨ q ∈ ino A → ow q = c)
theorem CL.nz {cv : Nat → Int32} {B kd cap c : Nat} {ow : xO} {S : xS} {t : Nat} {cd : Nat → Nat} {A : Tr} {pq pn rw rn : Nat} (h : CL cv B kd cap c ow S t cd A pq pn rw rn) : ∀ q, q = t ∨ q = pq ∨ q = pn ∨ q = rw ∨ q = rn ∨ q ∈ ino A → S.1 q ≠ 0 := by
  obtain ⟨⟨hz, hT, hW, hn, hN, hi, hs, hc⟩, ho⟩ := h
  obtain ⟨hk, hkd, h0, h1, ⟨p1, p2, p3, p4⟩, ⟨r1, r2, r3, r4⟩, hpr, hpn⟩ := hz
  rintro q (rfl | rfl | rfl | rfl | rfl | hq)
  · omega
  · omega
  · omega
  · omega
  · omega
  · rw [(hN q hq).1]; omega
theorem CL.agree {cv : Nat → Int32} {B kd cap c d : Nat} {ow ow1 : xO} {S S1 : xS} {t : Nat} {cd : Nat → Nat} {A : Tr} {pq pn rw rn : Nat} (h : CL cv B kd cap c ow S t cd A pq pn rw rn) (hf : FRO d ow ow1 S S1) (hcd : c ≠ d) : CL cv B kd cap c ow1 S1 t cd A pq pn rw rn := by
  have hnz := h.nz
  have hag : ∀ q, q = t ∨ q = pq ∨ q = pn ∨ q = rw ∨ q = rn ∨ q ∈ ino A → xAg c ow ow1 S S1 q := fun q hq => hf.ag hcd (hnz q hq) (h.2 q hq)
  obtain ⟨⟨hz, hT, hW, hn, hN, hi, hs, hc⟩, ho⟩ := h
  obtain ⟨hk, hkd, h0, h1, ⟨p1, p2, p3, p4⟩, ⟨r1, r2, r3, r4⟩, hpr, hpn⟩ := hz
  obtain ⟨-, -, t1, t2, t3, t4, t5⟩ := hag t (by simp)
  obtain ⟨-, -, q1, q2, q3, q4, q5⟩ := hag pq (by simp)
  obtain ⟨-, -, n1, n2, n3, n4, n5⟩ := hag pn (by simp)
  obtain ⟨-, -, w1, w2, w3, w4, w5⟩ := hag rw (by simp)
  obtain ⟨-, -, v1, v2, v3, v4, v5⟩ := hag rn (by simp)
  refine ⟨⟨⟨by rw [t2]; exact hk, hkd, by rw [t5]; exact h0, by rw [t5]; exact h1, ⟨by rw [q2]; exact p1, by rw [q5]; exact p2, by rw [n2]; exact p3, by rw [n3]; exact p4⟩, ⟨by rw [w2]; exact r1, by rw [w5]; exact r2, by rw [v2]; exact r3, by rw [v3]; exact r4⟩, hpr, hpn⟩, ?_, ?_, hn, ?_, hi, hs, hc⟩, fun q hq => (hag q hq).2.2.1⟩
  · rw [t5]
    exact hT.congr (fun a ha => by
      obtain ⟨-, -, a1, a2, a3, a4, a5⟩ := hag a (by simp [ha])
      exact ⟨a2, by rw [a5], by rw [a5]⟩)
  · exact hW.congr (fun a ha => by rw [(hag a (by simp [ha])).2.2.2.2.2.1])
  · intro q hq
    obtain ⟨-, -, a1, a2, a3, a4, a5⟩ := hag q (by simp [hq])
    rw [a2, a4]
    exact hN q hq
/-- the turning tree with its cells -/
def C7 (ow : xO) (S : xS) (t : Nat) (cd : Nat → Nat) (A : Tr) (pq pn : Nat) : Prop :=
  TZ S.1 S.2.1 S.2.2.2.1 t pq pn ∧ TP S.1 S.2.2.2.1 A (S.2.2.2.1 t 1) ∧ WT S.2.2.1 A ∧ (ino A).Nodup ∧ ND cv1 1999 S.1 S.2.2.1 cd (ino A) ∧ (∀ q, q = t ∨ q = pq ∨ q = pn ∨ q ∈ ino A → ow q = 7)
theorem C7.nz {ow : xO} {S : xS} {t : Nat} {cd : Nat → Nat} {A : Tr} {pq pn : Nat} (h : C7 ow S t cd A pq pn) : ∀ q, q = t ∨ q = pq ∨ q = pn ∨ q ∈ ino A → S.1 q ≠ 0 := by
  obtain ⟨⟨hk, h0, p1, p2, p3, p4⟩, hT, hW, hn, hN, ho⟩ := h
  rintro q (rfl | rfl | rfl | hq)
  · omega
  · omega
  · omega
  · rw [(hN q hq).1]; omega
theorem C7.agree {d : Nat} {ow ow1 : xO} {S S1 : xS} {t : Nat} {cd : Nat → Nat} {A : Tr} {pq pn : Nat} (h : C7 ow S t cd A pq pn) (hf : FRO d ow ow1 S S1) (hcd : 7 ≠ d) : C7 ow1 S1 t cd A pq pn := by
  have hnz := h.nz
  have ho := h.2.2.2.2.2
  have hag : ∀ q, q = t ∨ q = pq ∨ q = pn ∨ q ∈ ino A → xAg 7 ow ow1 S S1 q := fun q hq => hf.ag hcd (hnz q hq) (ho q hq)
  obtain ⟨⟨hk, h0, p1, p2, p3, p4⟩, hT, hW, hn, hN, -⟩ := h
  obtain ⟨-, -, t1, t2, t3, t4, t5⟩ := hag t (by simp)
  obtain ⟨-, -, q1, q2, q3, q4, q5⟩ := hag pq (by simp)
  obtain ⟨-, -, n1, n2, n3, n4, n5⟩ := hag pn (by simp)
  refine ⟨⟨by rw [t2]; exact hk, by rw [t5]; exact h0, by rw [q2]; exact p1, by rw [q5]; exact p2, by rw [n2]; exact p3, by rw [n3]; exact p4⟩, ?_, ?_, hn, ?_, fun q hq => (hag q hq).2.2.1⟩
  · rw [t5]
    exact hT.congr (fun a ha => by
      obtain ⟨-, -, a1, a2, a3, a4, a5⟩ := hag a (by simp [ha])
      exact ⟨a2, by rw [a5], by rw [a5]⟩)
  · exact hW.congr (fun a ha => by rw [(hag a (by simp [ha])).2.2.2.2.2.1])
  · intro q hq
    obtain ⟨-, -, a1, a2, a3, a4, a5⟩ := hag q (by simp [hq])
    rw [a2, a4]
    exact hN q hq
/-- the parts with their cells -/
def C6 (ow : xO) (S : xS) (t : Nat) (cd : Nat → Nat) (lst : List Nat) : Prop :=
  S.1 t = 6 ∧ CH S.1 S.2.2.2.1 lst (S.2.2.2.1 t 0) ∧ NE S.1 S.2.2.1 cd lst ∧ lst.Nodup ∧ (∀ q, q = t ∨ q ∈ lst → ow q = 6)
theorem C6.nz {ow : xO} {S : xS} {t : Nat} {cd : Nat → Nat} {lst : List Nat} (h : C6 ow S t cd lst) : ∀ q, q = t ∨ q ∈ lst → S.1 q ≠ 0 := by
  obtain ⟨hk, hC, hN, hn, ho⟩ := h
  rintro q (rfl | hq)
  · omega
  · rw [(hN q hq).1]; omega
theorem C6.agree {d : Nat} {ow ow1 : xO} {S S1 : xS} {t : Nat} {cd : Nat → Nat} {lst : List Nat} (h : C6 ow S t cd lst) (hf : FRO d ow ow1 S S1) (hcd : 6 ≠ d) : C6 ow1 S1 t cd lst ∧ ∀ q, q = t ∨ q ∈ lst → S1.2.2.1 q = S.2.2.1 q := by
  have hnz := h.nz
  have ho := h.2.2.2.2
  have hag : ∀ q, q = t ∨ q ∈ lst → xAg 6 ow ow1 S S1 q := fun q hq => hf.ag hcd (hnz q hq) (ho q hq)
  obtain ⟨hk, hC, hN, hn, -⟩ := h
  obtain ⟨-, -, t1, t2, t3, t4, t5⟩ := hag t (by simp)
  refine ⟨⟨by rw [t2]; exact hk, ?_, ?_, hn, fun q hq => (hag q hq).2.2.1⟩, fun q hq => (hag q hq).2.2.2.2.2.1⟩
  · rw [t5]
    exact hC.congr (fun a ha => by
      obtain ⟨-, -, a1, a2, a3, a4, a5⟩ := hag a (by simp [ha])
      exact ⟨a2, by rw [a5]⟩)
  · intro q hq
    obtain ⟨-, -, a1, a2, a3, a4, a5⟩ := hag q (by simp [hq])
    rw [a2, a4]
    exact hN q hq
