/-- the whole component and the model's rows -/
def SY (ow : xO) (S : xS) (x n : Nat) (c : Nat → Nat) (al : Nat → Bool) (sp tu pt : Nat → Nat) (m : Nat) (pc : Nat → Nat) (pa : Nat → Bool) (ps : Nat → Nat) (r d u g w : Int32) : Prop :=
  ∃ t1 t7 t6 t5, (S.1 x = 8 ∧ ow x = 8 ∧ S.2.2.2.1 x 0 = some t1 ∧ S.2.2.2.1 x 1 = some t7 ∧ S.2.2.2.1 x 2 = some t6 ∧ S.2.2.2.1 x 3 = some t5) ∧ KK1 ow S t1 n c al sp ∧ KK7 ow S t7 n c tu ∧ KK6 ow S t6 n c al pt ∧ KK5 ow S t5 m pc pa ps ∧ (S.2.2.1 t1 4 = r ∧ S.2.2.1 t1 5 = d ∧ S.2.2.1 t7 2 = u ∧ S.2.2.1 t6 3 = g ∧ S.2.2.1 t5 4 = w) ∧ n ≤ 200 ∧ (∀ i, i < n → c i < 1999)
/-- only the component's cells were written, or new ones made -/
def FR8 (ow ow1 : xO) (S S1 : xS) : Prop := ∀ q : Nat, S.1 q ≠ 0 → ow1 q = ow q ∧ S1.1 q = S.1 q ∧ S1.2.1 q = S.2.1 q ∧ (8 ≤ ow q → S1.2.2.1 q = S.2.2.1 q ∧ S1.2.2.2.1 q = S.2.2.2.1 q ∧ S1.2.2.2.2 q = S.2.2.2.2 q)
theorem FR8.refl (ow : xO) (S : xS) : FR8 ow ow S S := fun _ _ => ⟨rfl, rfl, rfl, fun _ => ⟨rfl, rfl, rfl⟩⟩
theorem FRO.fr8 {c : Nat} {ow ow1 : xO} {S S1 : xS} (h : FRO c ow ow1 S S1) (hc : c < 8) : FR8 ow ow1 S S1 := fun q hq => by
  have hJ := h.1
  obtain ⟨h1, h2, h3, h4⟩ := h.2 q hq
  refine ⟨h1, h2, h3, fun h8 => ?_⟩
  obtain ⟨h5, h6⟩ := h4 (by omega)
  exact ⟨h5, h6, by rw [hJ]⟩
theorem FR8.trans {ow ow1 ow2 : xO} {S S1 S2 : xS} (h : FR8 ow ow1 S S1) (h2 : FR8 ow1 ow2 S1 S2) : FR8 ow ow2 S S2 := fun q hq => by
  obtain ⟨a1, a2, a3, a4⟩ := h q hq
  obtain ⟨b1, b2, b3, b4⟩ := h2 q (by rw [a2]; exact hq)
  refine ⟨b1.trans a1, b2.trans a2, b3.trans a3, fun h8 => ?_⟩
  obtain ⟨c1, c2, c3⟩ := a4 h8
  obtain ⟨d1, d2, d3⟩ := b4 (by rw [a1]; exact h8)
  exact ⟨d1.trans c1, d2.trans c2, d3.trans c3⟩
theorem FRO.obj {c : Nat} {ow ow1 : xO} {S S1 : xS} (h : FRO c ow ow1 S S1) (hc : 8 ≠ c) {x : Nat} (hx : S.1 x = 8) (ho : ow x = 8) : S1.1 x = 8 ∧ ow1 x = 8 ∧ S1.2.2.2.1 x = S.2.2.2.1 x := by
  obtain ⟨-, -, h1, h2, -, -, h3⟩ := h.ag hc (by omega) ho
  exact ⟨h2.trans hx, h1, h3⟩
theorem SY.a1 {ow ow1 : xO} {S S1 : xS} {x n : Nat} {c : Nat → Nat} {al : Nat → Bool} {sp tu pt : Nat → Nat} {m : Nat} {pc : Nat → Nat} {pa : Nat → Bool} {ps : Nat → Nat} {r d u g w : Int32} {t1 t7 t6 t5 : Nat} (hx : S.1 x = 8 ∧ ow x = 8 ∧ S.2.2.2.1 x 0 = some t1 ∧ S.2.2.2.1 x 1 = some t7 ∧ S.2.2.2.1 x 2 = some t6 ∧ S.2.2.2.1 x 3 = some t5) (h7 : KK7 ow S t7 n c tu) (h6 : KK6 ow S t6 n c al pt) (h5 : KK5 ow S t5 m pc pa ps) (hr : S.2.2.1 t1 4 = r ∧ S.2.2.1 t1 5 = d ∧ S.2.2.1 t7 2 = u ∧ S.2.2.1 t6 3 = g ∧ S.2.2.1 t5 4 = w) (hn : n ≤ 200) (hb : ∀ i, i < n → c i < 1999) (hf : FRO 1 ow ow1 S S1) (h1 : KK1 ow1 S1 t1 n c al sp) (e4 : S1.2.2.1 t1 4 = S.2.2.1 t1 4) (e5 : S1.2.2.1 t1 5 = S.2.2.1 t1 5) : SY ow1 S1 x n c al sp tu pt m pc pa ps r d u g w := by
  obtain ⟨x1, x2, x3, x4, x5, x6⟩ := hx
  obtain ⟨y1, y2, y3⟩ := hf.obj (by omega) x1 x2
  obtain ⟨a7, b7⟩ := h7.agree hf (by omega)
  obtain ⟨a6, b6⟩ := h6.agree hf (by omega)
  obtain ⟨a5, b5⟩ := h5.agree hf (by omega)
  obtain ⟨r1, r2, r3, r4, r5⟩ := hr
  exact ⟨t1, t7, t6, t5, ⟨y1, y2, by rw [y3]; exact x3, by rw [y3]; exact x4, by rw [y3]; exact x5, by rw [y3]; exact x6⟩, h1, a7, a6, a5, ⟨e4.trans r1, e5.trans r2, by rw [b7]; exact r3, by rw [b6]; exact r4, by rw [b5]; exact r5⟩, hn, hb⟩
theorem SY.a7 {ow ow1 : xO} {S S1 : xS} {x n : Nat} {c : Nat → Nat} {al : Nat → Bool} {sp tu pt : Nat → Nat} {m : Nat} {pc : Nat → Nat} {pa : Nat → Bool} {ps : Nat → Nat} {r d u g w : Int32} {t1 t7 t6 t5 : Nat} (hx : S.1 x = 8 ∧ ow x = 8 ∧ S.2.2.2.1 x 0 = some t1 ∧ S.2.2.2.1 x 1 = some t7 ∧ S.2.2.2.1 x 2 = some t6 ∧ S.2.2.2.1 x 3 = some t5) (h1 : KK1 ow S t1 n c al sp) (h6 : KK6 ow S t6 n c al pt) (h5 : KK5 ow S t5 m pc pa ps) (hr : S.2.2.1 t1 4 = r ∧ S.2.2.1 t1 5 = d ∧ S.2.2.1 t7 2 = u ∧ S.2.2.1 t6 3 = g ∧ S.2.2.1 t5 4 = w) (hn : n ≤ 200) (hb : ∀ i, i < n → c i < 1999) (hf : FRO 7 ow ow1 S S1) (h7 : KK7 ow1 S1 t7 n c tu) (e2 : S1.2.2.1 t7 2 = S.2.2.1 t7 2) : SY ow1 S1 x n c al sp tu pt m pc pa ps r d u g w := by
  obtain ⟨x1, x2, x3, x4, x5, x6⟩ := hx
  obtain ⟨y1, y2, y3⟩ := hf.obj (by omega) x1 x2
  obtain ⟨a1, b1⟩ := h1.agree hf (by omega)
  obtain ⟨a6, b6⟩ := h6.agree hf (by omega)
  obtain ⟨a5, b5⟩ := h5.agree hf (by omega)
  obtain ⟨r1, r2, r3, r4, r5⟩ := hr
  exact ⟨t1, t7, t6, t5, ⟨y1, y2, by rw [y3]; exact x3, by rw [y3]; exact x4, by rw [y3]; exact x5, by rw [y3]; exact x6⟩, a1, h7, a6, a5, ⟨by rw [b1]; exact r1, by rw [b1]; exact r2, e2.trans r3, by rw [b6]; exact r4, by rw [b5]; exact r5⟩, hn, hb⟩
theorem SY.a5 {ow ow1 : xO} {S S1 : xS} {x n : Nat} {c : Nat → Nat} {al : Nat → Bool} {sp tu pt : Nat → Nat} {m : Nat} {pc : Nat → Nat} {pa : Nat → Bool} {ps : Nat → Nat} {r d u g w w1 : Int32} {t1 t7 t6 t5 : Nat} (hx : S.1 x = 8 ∧ ow x = 8 ∧ S.2.2.2.1 x 0 = some t1 ∧ S.2.2.2.1 x 1 = some t7 ∧ S.2.2.2.1 x 2 = some t6 ∧ S.2.2.2.1 x 3 = some t5) (h1 : KK1 ow S t1 n c al sp) (h7 : KK7 ow S t7 n c tu) (h6 : KK6 ow S t6 n c al pt) (hr : S.2.2.1 t1 4 = r ∧ S.2.2.1 t1 5 = d ∧ S.2.2.1 t7 2 = u ∧ S.2.2.1 t6 3 = g ∧ S.2.2.1 t5 4 = w) (hn : n ≤ 200) (hb : ∀ i, i < n → c i < 1999) (hf : FRO 5 ow ow1 S S1) (h5 : KK5 ow1 S1 t5 m pc pa ps) (e4 : S1.2.2.1 t5 4 = w1) : SY ow1 S1 x n c al sp tu pt m pc pa ps r d u g w1 := by
  obtain ⟨x1, x2, x3, x4, x5, x6⟩ := hx
  obtain ⟨y1, y2, y3⟩ := hf.obj (by omega) x1 x2
  obtain ⟨a1, b1⟩ := h1.agree hf (by omega)
  obtain ⟨a6, b6⟩ := h6.agree hf (by omega)
  obtain ⟨a7, b7⟩ := h7.agree hf (by omega)
  obtain ⟨r1, r2, r3, r4, r5⟩ := hr
  exact ⟨t1, t7, t6, t5, ⟨y1, y2, by rw [y3]; exact x3, by rw [y3]; exact x4, by rw [y3]; exact x5, by rw [y3]; exact x6⟩, a1, a7, a6, h5, ⟨by rw [b1]; exact r1, by rw [b1]; exact r2, by rw [b7]; exact r3, by rw [b6]; exact r4, e4⟩, hn, hb⟩
