section XL9B
variable {p : Program} {l : Launch} {e : Env} {R : Room} {s : State} {m : MethodId} {args : Array Value} {below : List Frame} {meth : Method} {c : Code} {G : xG} {Z : State → Prop} {k n : Nat} {S : xS} {pc : Nat} {lv : List (Option Value)} {st : List Value} {cc : ByteArray} {nL : Nat} {own : String} {rt : Option FieldType}
theorem x_drop9 {a0 a1 a2 a3 a4 b5 b6 b7 b8 : Option Value} (kk : XW p l e R s m args below meth c G Z k n S pc [a0, a1, a2, a3, a4, none, none, none, none] st) : XW p l e R s m args below meth c G Z k n S pc [a0, a1, a2, a3, a4, b5, b6, b7, b8] st := fun H locs ls w z h => kk H locs ls w z (x_ls_sub h rfl (fun i v hi => by
  match i, hi with
  | 0, hi => exact hi
  | 1, hi => exact hi
  | 2, hi => exact hi
  | 3, hi => exact hi
  | 4, hi => exact hi
  | 5, hi => simp at hi
  | 6, hi => simp at hi
  | 7, hi => simp at hi
  | 8, hi => simp at hi
  | i + 9, hi => simp at hi))
theorem x_eql {x : Int64} (y : Int64) (h : x = y) (kk : XW p l e R s m args below meth c G Z k n S pc lv (.long y :: st)) : XW p l e R s m args below meth c G Z k n S pc lv (.long x :: st) := h ▸ kk
end XL9B
theorem balM_pos {n p : Nat} {tu : Nat → Nat} (hp : 0 < p) (i : Nat) : 0 < (balM n tu p).1 i ↔ 0 < tu i := by
  have h1 : ∀ (e1 e0 q x : Nat), 0 < q → (0 < turnM e1 e0 q x ↔ 0 < x) := fun e1 e0 q x hq => by
    refine ⟨fun h => ?_, tm_pos hq⟩
    rcases Nat.eq_zero_or_pos x with e | e
    · rw [e, tm_0 hq] at h; exact absurd h (Nat.lt_irrefl _)
    · exact e
  unfold balM
  split
  · split
    · exact (h1 _ _ _ _ hp).trans (h1 _ _ _ _ (by omega))
    · exact h1 _ _ _ _ hp
  · split
    · split
      · exact (h1 _ _ _ _ hp).trans (h1 _ _ _ _ (by omega))
      · exact h1 _ _ _ _ hp
    · exact Iff.rfl
theorem balsM_pos {n : Nat} : ∀ (f : Nat) (tu : Nat → Nat) (u i : Nat), 0 < (balsM n f tu u).1 i ↔ 0 < tu i
  | 0, _, _, _ => Iff.rfl
  | f + 1, tu, u, i => by
    rcases Nat.eq_zero_or_pos u with e | e
    · rw [e, balsM_0]
    · rw [balsM_go e]
      exact (balsM_pos f _ _ i).trans (balM_pos e i)
theorem KK7.lpos {ow : xO} {S : xS} {t n : Nat} {c tu : Nat → Nat} {k : Nat} (h : KK7 ow S t n c tu) (hk : k < n) (h0 : tu k = 0) (hcl : cn (fun i => decide (0 < tu i)) n < 100) : 0 < hplT n c tu k := by
  obtain ⟨cd, A, pq, pn, h1, h2⟩ := h
  obtain ⟨v, hv⟩ := xfresh (ino A)
  obtain ⟨a1, a2, -⟩ := TI_add h2 hk h0 (by rw [TI_sz h2]; exact hcl) hv
  have e : hplT n c tu k = hpl (fpF cd (c k) A) 1 := by unfold hplT; rw [a2]; rfl
  rw [e]
  exact hpl_pos _ (by omega)
theorem SY.k7 {ow : xO} {S : xS} {x n : Nat} {c : Nat → Nat} {al : Nat → Bool} {sp tu pt : Nat → Nat} {m : Nat} {pc : Nat → Nat} {pa : Nat → Bool} {ps : Nat → Nat} {r d u g w : Int32} (h : SY ow S x n c al sp tu pt m pc pa ps r d u g w) : (∃ t, KK7 ow S t n c tu) ∧ (∃ t, KK1 ow S t n c al sp) ∧ (∃ t, KK5 ow S t m pc pa ps) := by
  obtain ⟨t1, t7, t6, t5, hx, h1, h7, h6, h5, hr, hn, hb⟩ := h
  exact ⟨⟨t7, h7⟩, ⟨t1, h1⟩, ⟨t5, h5⟩⟩
theorem FR8.o {ow ow1 : xO} {S S1 : xS} {o : Nat} (h : FR8 ow ow1 S S1) (hO : S.1 o = 24 ∧ S.2.1 o = 1 ∧ ow o = 10) : S1.1 o = 24 ∧ S1.2.1 o = 1 ∧ ow1 o = 10 := by
  obtain ⟨h1, h2, h3, -⟩ := h o (by omega)
  exact ⟨h2.trans hO.1, h3.trans hO.2.1, h1.trans hO.2.2⟩
theorem ar_ne {K N : Nat → Nat} {Q : Nat → Nat → Option Nat} {mm : Nat} {ar : Nat → Nat} (h : MZ K N Q mm ar) {i j : Nat} (hi : mO i = true) (hj : mO j = true) (hij : i ≠ j) : ar i ≠ ar j := fun e => hij (h.2.2 i j hi hj e)
theorem fr9_keys {ow : xO} {K N : Nat → Nat} {I I1 : Nat → Nat → Int32} {Q : Nat → Nat → Option Nat} {J : Nat → Nat → Int64} {mm : Nat} {ar : Nat → Nat} {n : Nat} {c : Nat → Nat} {al : Nat → Bool} {sp tu pt : Nat → Nat} {m : Nat} {pc : Nat → Nat} {pa : Nat → Bool} {ps : Nat → Nat} {r d u g w : Int32} (h : KM ow (K, N, I, Q, J) mm ar n c al sp tu pt m pc pa ps r d u g w) (hf : KFR I I1 mm ar) : FRO 9 ow ow (K, N, I, Q, J) (K, N, I1, Q, J) := fr9_mk fun q hq => by
  have ho := h.2.2.2.1
  exact hf q (fun e => hq (e ▸ ho.1)) (fun e => hq (e ▸ ho.2 5 rfl)) (fun e => hq (e ▸ ho.2 6 rfl)) (fun e => hq (e ▸ ho.2 7 rfl)) (fun e => hq (e ▸ ho.2 8 rfl)) (fun e => hq (e ▸ ho.2 9 rfl))
theorem fr9_pts {ow : xO} {K N : Nat → Nat} {I I1 : Nat → Nat → Int32} {Q : Nat → Nat → Option Nat} {J : Nat → Nat → Int64} {mm : Nat} {ar : Nat → Nat} {n : Nat} {c : Nat → Nat} {al : Nat → Bool} {sp tu pt : Nat → Nat} {m : Nat} {pc : Nat → Nat} {pa : Nat → Bool} {ps : Nat → Nat} {r d u g w : Int32} (h : KM ow (K, N, I, Q, J) mm ar n c al sp tu pt m pc pa ps r d u g w) (hf : PFR I I1 mm ar) : FRO 9 ow ow (K, N, I, Q, J) (K, N, I1, Q, J) := fr9_mk fun q hq => by
  have ho := h.2.2.2.1
  exact hf q (fun e => hq (e ▸ ho.1)) (fun e => hq (e ▸ ho.2 12 rfl)) (fun e => hq (e ▸ ho.2 13 rfl)) (fun e => hq (e ▸ ho.2 14 rfl)) (fun e => hq (e ▸ ho.2 15 rfl)) (fun e => hq (e ▸ ho.2 16 rfl)) (fun e => hq (e ▸ ho.2 17 rfl))
theorem KM.keys {ow : xO} {K N : Nat → Nat} {I I1 : Nat → Nat → Int32} {Q : Nat → Nat → Option Nat} {J : Nat → Nat → Int64} {mm : Nat} {ar : Nat → Nat} {n n1 : Nat} {c c1 : Nat → Nat} {al al1 : Nat → Bool} {sp tu pt sp1 tu1 pt1 : Nat → Nat} {m : Nat} {pc : Nat → Nat} {pa : Nat → Bool} {ps : Nat → Nat} {r d u g w r1 d1 u1 g1 : Int32} (h : KM ow (K, N, I, Q, J) mm ar n c al sp tu pt m pc pa ps r d u g w) (hK : KV I1 mm ar n1 c1 al1 sp1 tu1 pt1) (hf : KFR I I1 mm ar) (e10 : I1 mm 10 = I mm 10) (e11 : I1 mm 11 = I mm 11) (e1 : I1 mm 1 = d1) (e2 : I1 mm 2 = r1) (e3 : I1 mm 3 = u1) (e4 : I1 mm 4 = g1) : KM ow (K, N, I1, Q, J) mm ar n1 c1 al1 sp1 tu1 pt1 m pc pa ps r1 d1 u1 g1 w := by
  obtain ⟨hz, hk, ⟨p0, p1, p12, p13, p14, p15⟩, ho, h1, h2, h3, h4, h5⟩ := h
  have hn : ∀ j, mO j = true → j ≠ 5 → j ≠ 6 → j ≠ 7 → j ≠ 8 → j ≠ 9 → I1 (ar j) = I (ar j) := fun j hj a5 a6 a7 a8 a9 => hf _ (hz.nm j hj) (ar_ne hz hj rfl a5) (ar_ne hz hj rfl a6) (ar_ne hz hj rfl a7) (ar_ne hz hj rfl a8) (ar_ne hz hj rfl a9)
  have i12 := hn 12 rfl (by omega) (by omega) (by omega) (by omega) (by omega)
  have i13 := hn 13 rfl (by omega) (by omega) (by omega) (by omega) (by omega)
  have i14 := hn 14 rfl (by omega) (by omega) (by omega) (by omega) (by omega)
  have i15 := hn 15 rfl (by omega) (by omega) (by omega) (by omega) (by omega)
  exact ⟨hz, hK, ⟨e10.trans p0, p1, fun i hi => (congrFun i12 i).trans (p12 i hi), fun i hi => (congrFun i13 i).trans (p13 i hi), fun i hi => (congrFun i14 i).trans (p14 i hi), fun i hi => (congrFun i15 i).trans (p15 i hi)⟩, ho, e1, e2, e3, e4, e11.trans h5⟩
theorem KM.pts {ow : xO} {K N : Nat → Nat} {I I1 : Nat → Nat → Int32} {Q : Nat → Nat → Option Nat} {J : Nat → Nat → Int64} {mm : Nat} {ar : Nat → Nat} {n : Nat} {c : Nat → Nat} {al : Nat → Bool} {sp tu pt : Nat → Nat} {m m1 : Nat} {pc pc1 : Nat → Nat} {pa pa1 : Nat → Bool} {ps ps1 : Nat → Nat} {r d u g w w1 : Int32} (h : KM ow (K, N, I, Q, J) mm ar n c al sp tu pt m pc pa ps r d u g w) (hK : PV I1 mm ar m1 pc1 pa1 ps1) (hf : PFR I I1 mm ar) (hj : ∀ j, j ≠ 18 → j ≠ 10 → j ≠ 11 → I1 mm j = I mm j) (e11 : I1 mm 11 = w1) : KM ow (K, N, I1, Q, J) mm ar n c al sp tu pt m1 pc1 pa1 ps1 r d u g w1 := by
  obtain ⟨hz, ⟨k0, k1, k5, k6, k7, k8, k9⟩, -, ho, h1, h2, h3, h4, h5⟩ := h
  have hn : ∀ j, mO j = true → j ≠ 12 → j ≠ 13 → j ≠ 14 → j ≠ 15 → j ≠ 16 → j ≠ 17 → I1 (ar j) = I (ar j) := fun j hj a5 a6 a7 a8 a9 a10 => hf _ (hz.nm j hj) (ar_ne hz hj rfl a5) (ar_ne hz hj rfl a6) (ar_ne hz hj rfl a7) (ar_ne hz hj rfl a8) (ar_ne hz hj rfl a9) (ar_ne hz hj rfl a10)
  have i5 := hn 5 rfl (by omega) (by omega) (by omega) (by omega) (by omega) (by omega)
  have i6 := hn 6 rfl (by omega) (by omega) (by omega) (by omega) (by omega) (by omega)
  have i7 := hn 7 rfl (by omega) (by omega) (by omega) (by omega) (by omega) (by omega)
  have i8 := hn 8 rfl (by omega) (by omega) (by omega) (by omega) (by omega) (by omega)
  have i9 := hn 9 rfl (by omega) (by omega) (by omega) (by omega) (by omega) (by omega)
  exact ⟨hz, ⟨(hj 0 (by omega) (by omega) (by omega)).trans k0, k1, fun i hi => (congrFun i5 i).trans (k5 i hi), fun i hi => (congrFun i6 i).trans (k6 i hi), fun i hi => (congrFun i7 i).trans (k7 i hi), fun i hi => (congrFun i8 i).trans (k8 i hi), fun i hi => (congrFun i9 i).trans (k9 i hi)⟩, hK, ho, (hj 1 (by omega) (by omega) (by omega)).trans h1, (hj 2 (by omega) (by omega) (by omega)).trans h2, (hj 3 (by omega) (by omega) (by omega)).trans h3, (hj 4 (by omega) (by omega) (by omega)).trans h4, e11⟩
theorem INV.mk {ow : xO} {S : xS} {x mm o : Nat} {ar : Nat → Nat} {n : Nat} {c : Nat → Nat} {al : Nat → Bool} {sp tu pt : Nat → Nat} {m : Nat} {pc : Nat → Nat} {pa : Nat → Bool} {ps : Nat → Nat} {r d u g w : Int32} (hS : SY ow S x n c al sp tu pt m pc pa ps r d u g w) (hM : KM ow S mm ar n c al sp tu pt m pc pa ps r d u g w) (hO : S.1 o = 24 ∧ S.2.1 o = 1 ∧ ow o = 10) (hB : BNm n al tu m pa) : INV ow S x mm o := ⟨n, c, al, sp, tu, pt, m, pc, pa, ps, r, d, u, g, w, ar, hS, hM, hO, hB⟩
theorem BNm.addD {n m k pl : Nat} {al pa : Nat → Bool} {tu tu1 : Nat → Nat} (h : BNm n al tu m pa) (hk : k < n) (hal : al k = false) (hlv : cn al n < 100) (hpl : 0 < pl) (h1 : ∀ i, 0 < tu1 i ↔ 0 < x_up tu k pl i) : BNm n (x_up al k true) tu1 m pa := by
  obtain ⟨b1, b2, b3, b4, b5⟩ := h
  have e := cn_set hk hal
  refine ⟨by rw [e]; omega, by rw [e]; omega, fun i hi => ?_, b4, b5⟩
  rw [h1 i]
  by_cases ei : i = k
  · subst ei; rw [x_up_s, x_up_s]; exact ⟨fun _ => hpl, fun _ => rfl⟩
  · rw [x_up_n _ _ ei, x_up_n _ _ ei]; exact b3 i hi
theorem BNm.addN {n m a pl : Nat} {al pa : Nat → Bool} {tu tu1 : Nat → Nat} (h : BNm n al tu m pa) (ha : a ≤ n) (hlv : cn al n < 100) (hpl : 0 < pl) (h1 : ∀ i, 0 < tu1 i ↔ 0 < x_up (ins tu a 0) a pl i) : BNm (n + 1) (ins al a true) tu1 m pa := by
  obtain ⟨b1, b2, b3, b4, b5⟩ := h
  have e : cn (ins al a true) (n + 1) = cn al n + 1 := by rw [cn_ins ha, if_pos rfl]
  refine ⟨by rw [e]; omega, by rw [e]; omega, fun i hi => ?_, b4, b5⟩
  rw [h1 i]
  by_cases ei : i = a
  · subst ei; rw [x_up_s, ins_at]; exact ⟨fun _ => hpl, fun _ => rfl⟩
  · rw [x_up_n _ _ ei]
    unfold ins
    by_cases e2 : i < a
    · rw [if_pos e2, if_pos e2]; exact b3 i (by omega)
    · rw [if_neg e2, if_neg e2, if_neg ei, if_neg ei]; exact b3 (i - 1) (by omega)
theorem BNm.remK {n m k : Nat} {al pa : Nat → Bool} {tu tu1 : Nat → Nat} (h : BNm n al tu m pa) (hk : k < n) (hal : al k = true) (hcond : n - cn (x_up al k false) n ≤ cn (x_up al k false) n) (h1 : ∀ i, i < n → (0 < tu1 i ↔ i ≠ k ∧ 0 < tu i)) : BNm n (x_up al k false) tu1 m pa := by
  obtain ⟨b1, b2, b3, b4, b5⟩ := h
  have e := cn_clr hk hal
  refine ⟨hcond, by omega, fun i hi => ?_, b4, b5⟩
  rw [h1 i hi]
  by_cases ei : i = k
  · subst ei; rw [x_up_s]; simp
  · rw [x_up_n _ _ ei, b3 i hi]; simp [ei]
theorem BNm.remD {n m k : Nat} {al pa : Nat → Bool} {tu tu1 : Nat → Nat} (h : BNm n al tu m pa) (hk : k < n) (hal : al k = true) (h1 : ∀ i, i < n → (0 < tu1 i ↔ i ≠ k ∧ 0 < tu i)) : BNm (cn (x_up al k false) n) (fun _ => true) (fun j => tu1 (selF (x_up al k false) n j)) m pa := by
  obtain ⟨b1, b2, b3, b4, b5⟩ := h
  have e := cn_clr hk hal
  refine ⟨by rw [cn_true]; omega, by rw [cn_true]; omega, fun i hi => ?_, b4, b5⟩
  obtain ⟨s1, s2, s3⟩ := selF_ok hi
  have hne : selF (x_up al k false) n i ≠ k := fun z => by
    rw [z, x_up_s] at s2
    cases s2
  rw [x_up_n _ _ hne] at s2
  exact ⟨fun _ => (h1 _ s1).mpr ⟨hne, (b3 _ s1).mp s2⟩, fun _ => rfl⟩
theorem BNm.ptD {n m k : Nat} {al pa : Nat → Bool} {tu : Nat → Nat} (h : BNm n al tu m pa) (hk : k < m) (hal : pa k = false) (hlv : cn pa m < 60) : BNm n al tu m (x_up pa k true) := by
  obtain ⟨b1, b2, b3, b4, b5⟩ := h
  have e := cn_set hk hal
  exact ⟨b1, b2, b3, by rw [e]; omega, by rw [e]; omega⟩
theorem cn_push {pa : Nat → Bool} {m : Nat} : cn (x_up pa m true) (m + 1) = cn pa m + 1 := by
  rw [cn_step, x_up_s, if_pos rfl]
  rw [cn_congr (fun i hi => x_up_n pa true (show i ≠ m by omega))]
theorem BNm.ptN {n m : Nat} {al pa : Nat → Bool} {tu : Nat → Nat} (h : BNm n al tu m pa) (hlv : cn pa m < 60) : BNm n al tu (m + 1) (x_up pa m true) := by
  obtain ⟨b1, b2, b3, b4, b5⟩ := h
  have e := @cn_push pa m
  exact ⟨b1, b2, b3, by rw [e]; omega, by rw [e]; omega⟩
theorem BNm.ptK {n m k : Nat} {al pa : Nat → Bool} {tu : Nat → Nat} (h : BNm n al tu m pa) (hk : k < m) (hal : pa k = true) (hcond : m - cn (x_up pa k false) m ≤ cn (x_up pa k false) m) : BNm n al tu m (x_up pa k false) := by
  obtain ⟨b1, b2, b3, b4, b5⟩ := h
  have e := cn_clr hk hal
  exact ⟨b1, b2, b3, hcond, by omega⟩
theorem BNm.ptX {n m k : Nat} {al pa : Nat → Bool} {tu : Nat → Nat} (h : BNm n al tu m pa) (hk : k < m) (hal : pa k = true) : BNm n al tu (cn (x_up pa k false) m) (fun _ => true) := by
  obtain ⟨b1, b2, b3, b4, b5⟩ := h
  have e := cn_clr hk hal
  exact ⟨b1, b2, b3, by rw [cn_true]; omega, by rw [cn_true]; omega⟩
theorem selF_congr {a b : Nat → Bool} : ∀ {n j : Nat}, (∀ i, i < n → a i = b i) → selF a n j = selF b n j
  | 0, _, _ => rfl
  | k + 1, j, h => by
    simp only [selF]
    rw [h k (by omega), cn_congr (n := k) (fun i hi => h i (by omega)), selF_congr (n := k) (j := j) (fun i hi => h i (by omega))]
