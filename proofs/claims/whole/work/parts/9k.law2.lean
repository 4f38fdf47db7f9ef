theorem SY.kb {ow : xO} {S : xS} {x n : Nat} {c : Nat → Nat} {al : Nat → Bool} {sp tu pt : Nat → Nat} {m : Nat} {pc : Nat → Nat} {pa : Nat → Bool} {ps : Nat → Nat} {r d u g w : Int32} (h : SY ow S x n c al sp tu pt m pc pa ps r d u g w) : KB n c sp tu pt ∧ PB m pc ps ∧ UP n c ∧ (∀ i j, i < m → j < m → pc i = pc j → i = j) ∧ n ≤ 200 ∧ (∀ i, i < n → c i < 1999) ∧ m ≤ 120 ∧ (∀ i, i < n → sp i < 2 ^ 20 ∧ tu i < 2 ^ 20) ∧ S.1 x = 8 := by
  obtain ⟨t1, t7, t6, t5, ⟨x1, x2, x3, x4, x5, x6⟩, h1, h7, h6, h5, hr, hn, hb⟩ := h
  have b1 := h1.bd hn
  have b7 := h7.bd
  have b5 := h5.bd
  have b6 := h6.cnt
  refine ⟨fun i hi => ⟨hb i hi, b1 i hi, ?_, ?_⟩, fun i hi => b5 i hi, b6.2.2.1, ?_, hn, hb, h5.kc.2.2, fun i hi => ⟨(b1 i hi).2, b7 i hi⟩, x1⟩
  · have := b7 i hi; omega
  · have := b6.2.2.2 i hi; omega
  · obtain ⟨cd, A, pq, pn, rw_, rn, hC, hS, hA, h3⟩ := h5
    exact hS.2.2.2.1
theorem KV_some {I : Nat → Nat → Int32} {mm n : Nat} {ar c sp tu pt : Nat → Nat} {al : Nat → Bool} (h : KV I mm ar n c al sp tu pt) (hup : UP n c) (hb : ∀ i, i < n → c i < 1999) {k : Nat} (hk : k < n) : lastF (fun i => decide (I (ar 5) i = cv1 (c k))) n = some k := by
  obtain ⟨k0, k1, k5, k6, k7, k8, k9⟩ := h
  refine lastF_uniq hk (decide_eq_true (k5 k hk)) (fun i hi e => ?_)
  have e1 := of_decide_eq_true e
  rw [k5 i hi] at e1
  exact UP_inj hup hi hk ((cv1_eq (hb i hi) (hb k hk)).mp e1)
theorem KV_none {I : Nat → Nat → Int32} {mm n : Nat} {ar c sp tu pt : Nat → Nat} {al : Nat → Bool} (h : KV I mm ar n c al sp tu pt) {y : Int32} (hno : ∀ i, i < n → ¬ cv1 (c i) = y) : lastF (fun i => decide (I (ar 5) i = y)) n = none := by
  obtain ⟨k0, k1, k5, k6, k7, k8, k9⟩ := h
  exact lastF_none.mpr (fun i hi => decide_eq_false (by rw [k5 i hi]; exact hno i hi))
theorem PV_some {I : Nat → Nat → Int32} {mm m : Nat} {ar pc ps : Nat → Nat} {pa : Nat → Bool} (h : PV I mm ar m pc pa ps) (hu : ∀ i j, i < m → j < m → pc i = pc j → i = j) (hb : ∀ i, i < m → pc i < 10000) {k : Nat} (hk : k < m) : lastF (fun i => decide (I (ar 12) i = nI (pc k / 100)) && decide (I (ar 13) i = nI (pc k % 100))) m = some k := by
  obtain ⟨p0, p1, p12, p13, p14, p15⟩ := h
  refine lastF_uniq hk (by rw [p12 k hk, p13 k hk]; simp) (fun i hi e => ?_)
  simp only [Bool.and_eq_true, decide_eq_true_eq] at e
  rw [p12 i hi, p13 i hi] at e
  have h1 := hb i hi
  have h2 := hb k hk
  have e1 := (nI_eq (by omega) (by omega)).mp e.1
  have e2 := (nI_eq (by omega) (by omega)).mp e.2
  exact hu i k hi hk (by omega)
theorem PV_none {I : Nat → Nat → Int32} {mm m : Nat} {ar pc ps : Nat → Nat} {pa : Nat → Bool} (h : PV I mm ar m pc pa ps) (hb : ∀ i, i < m → pc i < 10000) {cc : Nat} (hcc : cc < 10000) (hnew : ∀ i, i < m → pc i ≠ cc) : lastF (fun i => decide (I (ar 12) i = nI (cc / 100)) && decide (I (ar 13) i = nI (cc % 100))) m = none := by
  obtain ⟨p0, p1, p12, p13, p14, p15⟩ := h
  refine lastF_none.mpr (fun i hi => ?_)
  rw [p12 i hi, p13 i hi]
  rw [Bool.eq_false_iff]
  intro e
  simp only [Bool.and_eq_true, decide_eq_true_eq] at e
  have h1 := hb i hi
  have e1 := (nI_eq (by omega) (by omega)).mp e.1
  have e2 := (nI_eq (by omega) (by omega)).mp e.2
  exact hnew i hi (by omega)
theorem PV_range {I : Nat → Nat → Int32} {mm m : Nat} {ar pc ps : Nat → Nat} {pa : Nat → Bool} (h : PV I mm ar m pc pa ps) (hb : ∀ i, i < m → pc i < 10000) {y z : Int32} (hyz : y < 0 ∨ nI 99 < y ∨ z < 0 ∨ nI 99 < z) : lastF (fun i => decide (I (ar 12) i = y) && decide (I (ar 13) i = z)) m = none := by
  obtain ⟨p0, p1, p12, p13, p14, p15⟩ := h
  refine lastF_none.mpr (fun i hi => ?_)
  rw [p12 i hi, p13 i hi]
  rw [Bool.eq_false_iff]
  intro e
  simp only [Bool.and_eq_true, decide_eq_true_eq] at e
  have h1 := hb i hi
  have a1 := pl_99 (show pc i / 100 < 100 by omega)
  have a2 := pl_99 (show pc i % 100 < 100 by omega)
  rw [e.1] at a1
  rw [e.2] at a2
  rcases hyz with h | h | h | h
  · exact a1.1 h
  · exact a1.2 h
  · exact a2.1 h
  · exact a2.2 h
theorem nI_ofT {y : Int32} {j : Nat} (h : y.toInt = (j : Int)) (hj : j < 2 ^ 31) : y = nI j := by
  rw [i32_eq, nI_toInt hj]; exact h
theorem key_cases (y : Int32) : (y < -999 ∨ nI 999 < y) ∨ ∃ cc, cc < 1999 ∧ y = cv1 cc := by
  by_cases h : y < -999 ∨ nI 999 < y
  · exact Or.inl h
  · right
    simp only [not_or] at h
    obtain ⟨h1, h2⟩ := h
    rw [i32_lt] at h1 h2
    have e1 : (-999 : Int32).toInt = -999 := by decide
    have e2 : (nI 999).toInt = 999 := by decide
    refine ⟨(y.toInt + 999).toNat, by omega, ?_⟩
    rw [i32_eq, cv1_toInt (by omega)]
    omega
theorem point_cases (y z : Int32) : (y < 0 ∨ nI 99 < y ∨ z < 0 ∨ nI 99 < z) ∨ ∃ cc, cc < 10000 ∧ y = nI (cc / 100) ∧ z = nI (cc % 100) := by
  by_cases h : y < 0 ∨ nI 99 < y ∨ z < 0 ∨ nI 99 < z
  · exact Or.inl h
  · right
    simp only [not_or] at h
    obtain ⟨h1, h2, h3, h4⟩ := h
    rw [i32_lt] at h1 h2 h3 h4
    have e1 : (0 : Int32).toInt = 0 := by decide
    have e2 : (nI 99).toInt = 99 := by decide
    refine ⟨y.toInt.toNat * 100 + z.toInt.toNat, by omega, nI_ofT ?_ (by omega), nI_ofT ?_ (by omega)⟩
    · omega
    · omega
theorem no_range {n : Nat} {c : Nat → Nat} (hb : ∀ i, i < n → c i < 1999) {y : Int32} (hy : y < -999 ∨ nI 999 < y) : ∀ i, i < n → ¬ cv1 (c i) = y := fun i hi e => by
  have h1 := rng_in (hb i hi)
  rw [e] at h1
  rcases hy with h | h
  · exact h1.1 h
  · rw [i32_lt] at h
    have h2 := h1.2
    rw [i32_le] at h2
    omega
