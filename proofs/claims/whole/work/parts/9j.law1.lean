/-! rows for the law -/
section XL9
variable {p : Program} {l : Launch} {e : Env} {R : Room} {s : State} {m : MethodId} {args : Array Value} {below : List Frame} {meth : Method} {c : Code} {G : xG} {Z : State → Prop} {k n : Nat} {S : xS} {pc : Nat} {lv : List (Option Value)} {st : List Value} {cc : ByteArray} {nL : Nat} {own : String} {rt : Option FieldType}
theorem x_sld (C : XC p s m args meth c cc nL own rt G) {b L : Nat} {xs : Nat → Int32} (hXs : va_X b L xs s s.heap) (hbl : b < s.heap.size) (hbA : ¬ gA G b) {i : Int32} (j : Nat) (hi : i = nI j) (hj : j < L) (hL : L ≤ 2560) (hdg : decode cc pc = .ok (.iaload, 1)) (kk : XW p l e R s m args below meth c G Z k n S (pc + 1) lv (.int (xs j) :: st)) : XW p l e R s m args below meth c G Z k n S pc lv (.int i :: .ref b :: st) := fun H locs ls w z h => by
  subst hi
  have e1 : (nI j).toNatClampNeg = j := nI_clamp (by omega)
  have k1 := kk H locs ls w z h
  rw [← e1] at k1
  exact va_sld C.1 C.2.1 hXs hbl hbA z (vp_in_nI hj (by omega)) hdg k1
theorem x_scl (C : XC p s m args meth c cc nL own rt G) {b L : Nat} {xs : Nat → Int32} (hXs : va_X b L xs s s.heap) (hbl : b < s.heap.size) (hbA : ¬ gA G b) (hdg : decode cc pc = .ok (.arraylength, 1)) (kk : XW p l e R s m args below meth c G Z k n S (pc + 1) lv (.int (nI L) :: st)) : XW p l e R s m args below meth c G Z k n S pc lv (.ref b :: st) := fun H locs ls w z h => va_slen C.1 C.2.1 hXs hbl hbA z hdg (kk H locs ls w z h)
theorem x_tabIn (C : XC p s m args meth c cc nL own rt G) {dflt lo hi : Int} {offs : Array Int} {len : Nat} {x : Int32} {off : Int} (tgt : Nat) (hdg : decode cc pc = .ok (.tableswitch dflt lo hi offs, len)) (h1 : ¬ x.toInt < lo) (h2 : ¬ hi < x.toInt) (ho : offs[(x.toInt - lo).toNat]? = some off) (ht : (pc : Int) + off = (tgt : Int)) (kk : XW p l e R s m args below meth c G Z k n S tgt lv st) : XW p l e R s m args below meth c G Z k n S pc lv (.int x :: st) := fun H locs ls w z h => lv_tableIn C.1 C.2.1 hdg h1 h2 ho ht (kk H locs ls w z h)
theorem x_tabOut (C : XC p s m args meth c cc nL own rt G) {dflt lo hi : Int} {offs : Array Int} {len : Nat} {x : Int32} (tgt : Nat) (hdg : decode cc pc = .ok (.tableswitch dflt lo hi offs, len)) (h1 : x.toInt < lo ∨ hi < x.toInt) (ht : (pc : Int) + dflt = (tgt : Int)) (kk : XW p l e R s m args below meth c G Z k n S tgt lv st) : XW p l e R s m args below meth c G Z k n S pc lv (.int x :: st) := fun H locs ls w z h => lv_tableOut C.1 C.2.1 hdg h1 ht (kk H locs ls w z h)
theorem x_f2d (C : XC p s m args meth c cc nL own rt G) {x : UInt32} (hdg : decode cc pc = .ok (.f2d, 1)) (hne : vf_n64 (FP.f2d x)) (kk : XW p l e R s m args below meth c G Z k n S (pc + 1) lv (.double (FP.f2d x) :: st)) : XW p l e R s m args below meth c G Z k n S pc lv (.float x :: st) := fun H locs ls w z h => lv_f2d C.1 C.2.1 hdg hne (kk H locs ls w z h)
theorem x_dcmp (C : XC p s m args meth c cc nL own rt G) {x y : UInt64} {op : CmpOp} (hdg : decode cc pc = .ok (.dcmp op, 1)) (kk : XW p l e R s m args below meth c G Z k n S (pc + 1) lv (.int (Op.cmpValue (FP.dcmp x y) op) :: st)) : XW p l e R s m args below meth c G Z k n S pc lv (.double y :: .double x :: st) := fun H locs ls w z h => lv_dcmp C.1 C.2.1 hdg (kk H locs ls w z h)
end XL9
theorem av_nn (s n : Nat) (hn : n < 1000) : Jvm.FP.Core.fIsNaN (avgF s n) = false := by
  unfold avgF
  by_cases e : n = 0
  · rw [if_pos e]; decide +kernel
  · rw [if_neg e]
    have hb : nI n ≠ 0 := fun z => e (cz_eq z (by omega))
    rw [FP.fdiv_core, FP.i2f_core]
    refine Jvm.FP.Core.fdiv_out ?_ (Jvm.FP.Core.i2f_fin (nI n)) (fun z => Jvm.FP.Core.i2f_ne_zero hb ((Jvm.FP.Core.zero_bits232 _).mp z))
    rw [Jvm.FP.Core.notNaN_iff32]
    exact (Jvm.FP.Core.i2f_fin (nI s)).ne_nan
theorem av_f2d {a : UInt32} (h : Jvm.FP.Core.fIsNaN a = false) : vf_n64 (FP.f2d a) ∧ FP.dcmp (FP.f2d a) (FP.f2d a) = some .eq := by
  have h1 := Jvm.FP.Core.f2d_out h
  rw [FP.f2d_core h]
  refine ⟨?_, ?_⟩
  · unfold vf_n64
    have h2 : ¬ 9218868437227405312 < (Jvm.FP.Core.f2d a).toNat % 2 ^ 63 := fun z => by
      rw [(Jvm.FP.Core.isNaN_bits _).mpr z] at h1
      cases h1
    rw [UInt64.le_iff_toNat_le, UInt64.toNat_and]
    show (Jvm.FP.Core.f2d a).toNat &&& (2 ^ 63 - 1) ≤ 9218868437227405312
    rw [Nat.and_two_pow_sub_one_eq_mod]
    omega
  · rw [FP.dcmp_core]
    exact Jvm.FP.Core.dcmp_self ((Jvm.FP.Core.notNaN_iff _).mp h1)
/-! the reference and the component together -/
def KM (ow : xO) (S : xS) (mm : Nat) (ar : Nat → Nat) (n : Nat) (c : Nat → Nat) (al : Nat → Bool) (sp tu pt : Nat → Nat) (m : Nat) (pc : Nat → Nat) (pa : Nat → Bool) (ps : Nat → Nat) (r d u g w : Int32) : Prop :=
  MZ S.1 S.2.1 S.2.2.2.1 mm ar ∧ KV S.2.2.1 mm ar n c al sp tu pt ∧ PV S.2.2.1 mm ar m pc pa ps ∧ (ow mm = 9 ∧ ∀ j, mO j = true → ow (ar j) = 9) ∧ (S.2.2.1 mm 1 = d ∧ S.2.2.1 mm 2 = r ∧ S.2.2.1 mm 3 = u ∧ S.2.2.1 mm 4 = g ∧ S.2.2.1 mm 11 = w)
theorem kO_nz {j : Nat} (h : mO j = true) : kO j ≠ 0 := by
  have hj : j < 18 := by
    rcases Nat.lt_or_ge j 18 with h1 | h1
    · exact h1
    · exfalso
      simp [mO] at h
      omega
  revert h
  revert j
  decide
theorem KM.agree {ow ow1 : xO} {S S1 : xS} {mm : Nat} {ar : Nat → Nat} {n : Nat} {c : Nat → Nat} {al : Nat → Bool} {sp tu pt : Nat → Nat} {m : Nat} {pc : Nat → Nat} {pa : Nat → Bool} {ps : Nat → Nat} {r d u g w : Int32} (h : KM ow S mm ar n c al sp tu pt m pc pa ps r d u g w) (hf : FR8 ow ow1 S S1) : KM ow1 S1 mm ar n c al sp tu pt m pc pa ps r d u g w := by
  obtain ⟨⟨z1, z2, z3⟩, ⟨k0, k1, k5, k6, k7, k8, k9⟩, ⟨p0, p1, p12, p13, p14, p15⟩, ⟨o1, o2⟩, hc⟩ := h
  obtain ⟨a1, a2, a3, a4⟩ := hf mm (by rw [z1]; omega)
  obtain ⟨a5, a6, -⟩ := a4 (by rw [o1]; omega)
  have har : ∀ j, mO j = true → ow1 (ar j) = ow (ar j) ∧ S1.1 (ar j) = S.1 (ar j) ∧ S1.2.1 (ar j) = S.2.1 (ar j) ∧ S1.2.2.1 (ar j) = S.2.2.1 (ar j) := fun j hj => by
    obtain ⟨b1, b2, b3, b4⟩ := hf (ar j) (by rw [(z2 j hj).2.1]; exact kO_nz hj)
    exact ⟨b1, b2, b3, (b4 (by rw [o2 j hj]; omega)).1⟩
  refine ⟨⟨a2.trans z1, fun j hj => ?_, z3⟩, ⟨by rw [a5]; exact k0, k1, fun i hi => ?_, fun i hi => ?_, fun i hi => ?_, fun i hi => ?_, fun i hi => ?_⟩, ⟨by rw [a5]; exact p0, p1, fun i hi => ?_, fun i hi => ?_, fun i hi => ?_, fun i hi => ?_⟩, ⟨a1.trans o1, fun j hj => (har j hj).1.trans (o2 j hj)⟩, by rw [a5]; exact hc⟩
  · obtain ⟨b1, b2, b3, b4⟩ := har j hj
    rw [a6, b2, b3]; exact z2 j hj
  · rw [(har 5 rfl).2.2.2]; exact k5 i hi
  · rw [(har 6 rfl).2.2.2]; exact k6 i hi
  · rw [(har 7 rfl).2.2.2]; exact k7 i hi
  · rw [(har 8 rfl).2.2.2]; exact k8 i hi
  · rw [(har 9 rfl).2.2.2]; exact k9 i hi
  · rw [(har 12 rfl).2.2.2]; exact p12 i hi
  · rw [(har 13 rfl).2.2.2]; exact p13 i hi
  · rw [(har 14 rfl).2.2.2]; exact p14 i hi
  · rw [(har 15 rfl).2.2.2]; exact p15 i hi
theorem SY.fr9 {ow : xO} {S S1 : xS} {x n : Nat} {c : Nat → Nat} {al : Nat → Bool} {sp tu pt : Nat → Nat} {m : Nat} {pc : Nat → Nat} {pa : Nat → Bool} {ps : Nat → Nat} {r d u g w : Int32} (h : SY ow S x n c al sp tu pt m pc pa ps r d u g w) (hf : FRO 9 ow ow S S1) : SY ow S1 x n c al sp tu pt m pc pa ps r d u g w := by
  obtain ⟨t1, t7, t6, t5, ⟨x1, x2, x3, x4, x5, x6⟩, h1, h7, h6, h5, ⟨r1, r2, r3, r4, r5⟩, hn, hb⟩ := h
  obtain ⟨y1, y2, y3⟩ := hf.obj (by omega) x1 x2
  obtain ⟨a1, b1⟩ := h1.agree hf (by omega)
  obtain ⟨a7, b7⟩ := h7.agree hf (by omega)
  obtain ⟨a6, b6⟩ := h6.agree hf (by omega)
  obtain ⟨a5, b5⟩ := h5.agree hf (by omega)
  exact ⟨t1, t7, t6, t5, ⟨y1, y2, by rw [y3]; exact x3, by rw [y3]; exact x4, by rw [y3]; exact x5, by rw [y3]; exact x6⟩, a1, a7, a6, a5, ⟨by rw [b1]; exact r1, by rw [b1]; exact r2, by rw [b7]; exact r3, by rw [b6]; exact r4, by rw [b5]; exact r5⟩, hn, hb⟩
def BNm (n : Nat) (al : Nat → Bool) (tu : Nat → Nat) (m : Nat) (pa : Nat → Bool) : Prop := n - cn al n ≤ cn al n ∧ cn al n ≤ 100 ∧ (∀ i, i < n → (al i = true ↔ 0 < tu i)) ∧ m - cn pa m ≤ cn pa m ∧ cn pa m ≤ 60
def INV (ow : xO) (S : xS) (x mm o : Nat) : Prop := ∃ (n : Nat) (c : Nat → Nat) (al : Nat → Bool) (sp tu pt : Nat → Nat) (m : Nat) (pc : Nat → Nat) (pa : Nat → Bool) (ps : Nat → Nat) (r d u g w : Int32) (ar : Nat → Nat), SY ow S x n c al sp tu pt m pc pa ps r d u g w ∧ KM ow S mm ar n c al sp tu pt m pc pa ps r d u g w ∧ (S.1 o = 24 ∧ S.2.1 o = 1 ∧ ow o = 10) ∧ BNm n al tu m pa
/-- a call of the reference: only its own ints were written -/
theorem fr9_mk {ow : xO} {K N : Nat → Nat} {I I1 : Nat → Nat → Int32} {Q : Nat → Nat → Option Nat} {J : Nat → Nat → Int64} (h : ∀ q, ow q ≠ 9 → I1 q = I q) : FRO 9 ow ow (K, N, I, Q, J) (K, N, I1, Q, J) := FRO.of rfl fun q hq => ⟨rfl, rfl, rfl, fun hc => ⟨h q hc, rfl⟩⟩
