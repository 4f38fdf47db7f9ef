theorem lg_self (x : Int64) : lg_cmp x x = 0 := by
  unfold lg_cmp
  simp
theorem SY.J {ow : xO} {K N : Nat → Nat} {I : Nat → Nat → Int32} {Q : Nat → Nat → Option Nat} {J J1 : Nat → Nat → Int64} {x n : Nat} {c : Nat → Nat} {al : Nat → Bool} {sp tu pt : Nat → Nat} {m : Nat} {pc : Nat → Nat} {pa : Nat → Bool} {ps : Nat → Nat} {r d u g w : Int32} (h : SY ow (K, N, I, Q, J) x n c al sp tu pt m pc pa ps r d u g w) : SY ow (K, N, I, Q, J1) x n c al sp tu pt m pc pa ps r d u g w := h
theorem KM.J {ow : xO} {K N : Nat → Nat} {I : Nat → Nat → Int32} {Q : Nat → Nat → Option Nat} {J J1 : Nat → Nat → Int64} {mm : Nat} {ar : Nat → Nat} {n : Nat} {c : Nat → Nat} {al : Nat → Bool} {sp tu pt : Nat → Nat} {m : Nat} {pc : Nat → Nat} {pa : Nat → Bool} {ps : Nat → Nat} {r d u g w : Int32} (h : KM ow (K, N, I, Q, J) mm ar n c al sp tu pt m pc pa ps r d u g w) : KM ow (K, N, I, Q, J1) mm ar n c al sp tu pt m pc pa ps r d u g w := h
theorem KM.t18 {ow : xO} {K N : Nat → Nat} {I : Nat → Nat → Int32} {Q : Nat → Nat → Option Nat} {J : Nat → Nat → Int64} {mm : Nat} {ar : Nat → Nat} {n : Nat} {c : Nat → Nat} {al : Nat → Bool} {sp tu pt : Nat → Nat} {m : Nat} {pc : Nat → Nat} {pa : Nat → Bool} {ps : Nat → Nat} {r d u g w : Int32} (h : KM ow (K, N, I, Q, J) mm ar n c al sp tu pt m pc pa ps r d u g w) (v : Int32) : KM ow (K, N, x_u2 I mm 18 v, Q, J) mm ar n c al sp tu pt m pc pa ps r d u g w := by
  obtain ⟨hz, ⟨k0, k1, k5, k6, k7, k8, k9⟩, ⟨p0, p1, p12, p13, p14, p15⟩, ho, h1, h2, h3, h4, h5⟩ := h
  have hm : ∀ j, mO j = true → x_u2 I mm 18 v (ar j) = I (ar j) := fun j hj => x_u2_a _ _ (hz.nm j hj)
  have ht : ∀ j, j ≠ 18 → x_u2 I mm 18 v mm j = I mm j := fun j hj => x_u2_j _ _ hj
  refine ⟨hz, ⟨(ht 0 (by omega)).trans k0, k1, fun i hi => ?_, fun i hi => ?_, fun i hi => ?_, fun i hi => ?_, fun i hi => ?_⟩, ⟨(ht 10 (by omega)).trans p0, p1, fun i hi => ?_, fun i hi => ?_, fun i hi => ?_, fun i hi => ?_⟩, ho, (ht 1 (by omega)).trans h1, (ht 2 (by omega)).trans h2, (ht 3 (by omega)).trans h3, (ht 4 (by omega)).trans h4, (ht 11 (by omega)).trans h5⟩
  · exact (congrFun (hm 5 rfl) i).trans (k5 i hi)
  · exact (congrFun (hm 6 rfl) i).trans (k6 i hi)
  · exact (congrFun (hm 7 rfl) i).trans (k7 i hi)
  · exact (congrFun (hm 8 rfl) i).trans (k8 i hi)
  · exact (congrFun (hm 9 rfl) i).trans (k9 i hi)
  · exact (congrFun (hm 12 rfl) i).trans (p12 i hi)
  · exact (congrFun (hm 13 rfl) i).trans (p13 i hi)
  · exact (congrFun (hm 14 rfl) i).trans (p14 i hi)
  · exact (congrFun (hm 15 rfl) i).trans (p15 i hi)
/-- a question of the reference leaves all as it was, but its own note of what was thrown -/
theorem INV.q {ow : xO} {K N : Nat → Nat} {I : Nat → Nat → Int32} {Q : Nat → Nat → Option Nat} {J : Nat → Nat → Int64} {x mm o : Nat} {ar : Nat → Nat} {n : Nat} {c : Nat → Nat} {al : Nat → Bool} {sp tu pt : Nat → Nat} {m : Nat} {pc : Nat → Nat} {pa : Nat → Bool} {ps : Nat → Nat} {r d u g w : Int32} (hS : SY ow (K, N, I, Q, J) x n c al sp tu pt m pc pa ps r d u g w) (hM : KM ow (K, N, I, Q, J) mm ar n c al sp tu pt m pc pa ps r d u g w) (hO : K o = 24 ∧ N o = 1 ∧ ow o = 10) (hB : BNm n al tu m pa) (v : Int32) : INV ow (K, N, x_u2 I mm 18 v, Q, J) x mm o := by
  have ho := hM.2.2.2.1.1
  exact ⟨n, c, al, sp, tu, pt, m, pc, pa, ps, r, d, u, g, w, ar, hS.fr9 (fr9_mk (fun q hq => x_u2_a _ _ (fun e => hq (by rw [e]; exact ho)))), hM.t18 v, hO, hB⟩
