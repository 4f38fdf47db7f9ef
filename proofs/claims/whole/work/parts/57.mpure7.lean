/-- the model's rows of keys -/
def KV (I : Nat → Nat → Int32) (m : Nat) (ar : Nat → Nat) (n : Nat) (kc : Nat → Nat) (al : Nat → Bool) (sp tu pt : Nat → Nat) : Prop :=
  I m 0 = nI n ∧ n ≤ 201 ∧ (∀ i, i < n → I (ar 5) i = cv1 (kc i)) ∧ (∀ i, i < n → I (ar 6) i = xb (al i)) ∧ (∀ i, i < n → I (ar 7) i = nI (sp i)) ∧ (∀ i, i < n → I (ar 8) i = nI (tu i)) ∧ (∀ i, i < n → I (ar 9) i = nI (pt i))
def KB (n : Nat) (kc sp tu pt : Nat → Nat) : Prop := ∀ i, i < n → kc i < 1999 ∧ (0 < sp i ∧ sp i < 2 ^ 20) ∧ tu i < 2 ^ 24 ∧ pt i < 1000
def KFR (I I1 : Nat → Nat → Int32) (m : Nat) (ar : Nat → Nat) : Prop := ∀ a, a ≠ m → a ≠ ar 5 → a ≠ ar 6 → a ≠ ar 7 → a ≠ ar 8 → a ≠ ar 9 → I1 a = I a
theorem KV.node {I : Nat → Nat → Int32} {m n : Nat} {ar kc sp tu pt : Nat → Nat} {al : Nat → Bool} (h : KV I m ar n kc al sp tu pt) (hk : ∀ i, i < n → kc i < 1999) {c : Nat} (hc : c < 1999) : lastF (fun i => decide (I (ar 5) i = cv1 c)) n = lastF (fun i => decide (kc i = c)) n :=
  lastF_congr (fun i hi => by rw [h.2.2.1 i hi]; simp only [cv1_eq (hk i hi) hc])
theorem leafW_congr {nd : Nat → Option Nat} {lt lt2 : Nat → Bool} (h : ∀ p k, nd p = some k → lt k = lt2 k) : ∀ (f p : Nat), leafW nd lt f p = leafW nd lt2 f p
  | 0, _ => rfl
  | f + 1, p => by
    cases hp : nd p with
    | none => rw [leafW_none hp, leafW_none hp]
    | some k => rw [leafW_some hp, leafW_some hp, h p k hp, leafW_congr h f]
theorem nI_m999 : (-999 : Int32).toInt = -999 := by decide
theorem rng_in {c : Nat} (hc : c < 1999) : ¬ cv1 c < -999 ∧ cv1 c ≤ nI 999 := by
  rw [i32_lt, i32_le, cv1_toInt hc, nI_m999, nI_toInt (by omega)]
  omega
