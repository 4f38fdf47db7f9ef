/-! THE MODEL: conversions, places, counts over rows -/
theorem cv_le {a b : Nat} (h : nI a ≤ nI b) (ha : a < 2 ^ 31) (hb : b < 2 ^ 31) : a ≤ b := (nI_leI ha hb).mp h
theorem cv_nle {a b : Nat} (h : ¬ nI a ≤ nI b) (ha : a < 2 ^ 31) (hb : b < 2 ^ 31) : b < a := Nat.lt_of_not_le (fun z => h ((nI_leI ha hb).mpr z))
theorem cv_lt {a b : Nat} (h : nI a < nI b) (ha : a < 2 ^ 31) (hb : b < 2 ^ 31) : a < b := (nI_ltI ha hb).mp h
theorem cv_nlt {a b : Nat} (h : ¬ nI a < nI b) (ha : a < 2 ^ 31) (hb : b < 2 ^ 31) : b ≤ a := Nat.le_of_not_lt (fun z => h ((nI_ltI ha hb).mpr z))
theorem cv_eq {a b : Nat} (h : nI a = nI b) (ha : a < 2 ^ 31) (hb : b < 2 ^ 31) : a = b := (nI_eq ha hb).mp h
theorem cv_ne {a b : Nat} (h : ¬ nI a = nI b) (_ : a < 2 ^ 31) (_ : b < 2 ^ 31) : a ≠ b := fun z => h (by rw [z])
theorem cz_le {a : Nat} (h : nI a ≤ 0) (ha : a < 2 ^ 31) : a = 0 := by
  have := (nI_leI (a := a) (b := 0) ha (by omega)).mp (by rw [nI_0]; exact h)
  omega
theorem cz_nle {a : Nat} (h : ¬ nI a ≤ 0) (_ : a < 2 ^ 31) : 0 < a := by
  rcases Nat.eq_zero_or_pos a with e | e
  · exact absurd (by rw [e, nI_0]; decide) h
  · exact e
theorem cz_lt {a : Nat} (h : nI a < 0) (ha : a < 2 ^ 31) : False := nI_pos ha h
theorem cz_gt {a : Nat} (h : 0 < nI a) (_ : a < 2 ^ 31) : 0 < a := by
  rcases Nat.eq_zero_or_pos a with e | e
  · rw [e, nI_0] at h; exact absurd h (by decide)
  · exact e
theorem cz_ngt {a : Nat} (h : ¬ 0 < nI a) (ha : a < 2 ^ 31) : a = 0 := by
  have := (nI_leI (a := a) (b := 0) ha (by omega)).mp (by rw [nI_0]; exact fa_of_nlt h)
  omega
theorem cz_eq {a : Nat} (h : nI a = 0) (ha : a < 2 ^ 31) : a = 0 := (nI_eq ha (by omega)).mp (by rw [h, nI_0])
theorem cz_ne {a : Nat} (h : ¬ nI a = 0) (_ : a < 2 ^ 31) : 0 < a := by
  rcases Nat.eq_zero_or_pos a with e | e
  · exact absurd (by rw [e, nI_0]) h
  · exact e
theorem cb_eq {b : Bool} (h : xb b = 0) : b = false := by
  cases b with
  | false => rfl
  | true => exact absurd h (by decide)
theorem cb_ne {b : Bool} (h : ¬ xb b = 0) : b = true := by
  cases b with
  | false => exact absurd rfl h
  | true => rfl
theorem x_incN_1 (a : Nat) : nI a + Int32.ofInt 1 = nI (a + 1) := nI_add a 1
theorem x_incN_5 (a : Nat) : nI a + Int32.ofInt 5 = nI (a + 5) := nI_add a 5
theorem x_incN_m1 (a : Nat) : nI (a + 1) + Int32.ofInt (-1) = nI a := pk_m1 a
/-! counts and last places over rows -/
def cn (p : Nat → Bool) : Nat → Nat
  | 0 => 0
  | k + 1 => cn p k + (if p k = true then 1 else 0)
def lastF (p : Nat → Bool) : Nat → Option Nat
  | 0 => none
  | k + 1 => if p k = true then some k else lastF p k
theorem cn_le (p : Nat → Bool) : ∀ n, cn p n ≤ n
  | 0 => Nat.le_refl _
  | k + 1 => by have := cn_le p k; simp only [cn]; split <;> omega
theorem cn_congr {p q : Nat → Bool} : ∀ {n : Nat}, (∀ i, i < n → p i = q i) → cn p n = cn q n
  | 0, _ => rfl
  | k + 1, h => by
    simp only [cn]
    rw [h k (by omega), cn_congr (fun i hi => h i (by omega))]
theorem cn_mono (p : Nat → Bool) : ∀ {n k : Nat}, k ≤ n → cn p k ≤ cn p n
  | 0, k, h => by
    have : k = 0 := by omega
    subst this; exact Nat.le_refl _
  | n + 1, k, h => by
    by_cases e : k = n + 1
    · subst e; exact Nat.le_refl _
    · have := cn_mono p (n := n) (k := k) (by omega)
      simp only [cn]; omega
theorem lastF_lt {p : Nat → Bool} : ∀ {n k : Nat}, lastF p n = some k → k < n ∧ p k = true
  | 0, k, h => by cases h
  | n + 1, k, h => by
    simp only [lastF] at h
    split at h
    · rename_i hp
      cases h
      exact ⟨Nat.lt_succ_self _, hp⟩
    · have := lastF_lt h
      exact ⟨by omega, this.2⟩
theorem lastF_congr {p q : Nat → Bool} : ∀ {n : Nat}, (∀ i, i < n → p i = q i) → lastF p n = lastF q n
  | 0, _ => rfl
  | k + 1, h => by
    simp only [lastF]
    rw [h k (by omega), lastF_congr (fun i hi => h i (by omega))]
theorem lastF_none {p : Nat → Bool} : ∀ {n : Nat}, lastF p n = none ↔ ∀ i, i < n → p i = false
  | 0 => by simp [lastF]
  | n + 1 => by
    simp only [lastF]
    split
    · rename_i hp
      simp only [reduceCtorEq, false_iff]
      intro h
      rw [h n (by omega)] at hp
      cases hp
    · rename_i hp
      rw [lastF_none]
      constructor
      · intro h i hi
        by_cases e : i = n
        · subst e; simpa using hp
        · exact h i (by omega)
      · intro h i hi
        exact h i (by omega)
theorem lastF_uniq {p : Nat → Bool} : ∀ {n k : Nat}, k < n → p k = true → (∀ i, i < n → p i = true → i = k) → lastF p n = some k
  | 0, k, h, _, _ => by omega
  | n + 1, k, h, hp, hu => by
    simp only [lastF]
    split
    · rename_i h2
      rw [hu n (by omega) h2]
    · rename_i h2
      have hkn : k ≠ n := fun e => h2 (e ▸ hp)
      exact lastF_uniq (by omega) hp (fun i hi => hu i (by omega))
/-! places: the root is at 1, the children of p at 2p and 2p + 1 -/
def dep (p : Nat) : Nat := Nat.log2 p
theorem dep_def (p : Nat) : dep p = if 2 ≤ p then dep (p / 2) + 1 else 0 := by
  unfold dep
  exact Nat.log2_def p
theorem dep_lt {p k : Nat} (h : p < 2 ^ k) (hk : 0 < k) : dep p < k := by
  unfold dep
  by_cases e : p = 0
  · subst e; simpa using hk
  · exact (Nat.log2_lt e).mpr h
theorem dep_mul (a : Nat) (ha : 0 < a) : ∀ (j i : Nat), i < 2 ^ j → dep (a * 2 ^ j + i) = dep a + j
  | 0, i, h => by
    have : i = 0 := by simpa using h
    subst this; simp
  | j + 1, i, h => by
    have e : (a * 2 ^ (j + 1) + i) / 2 = a * 2 ^ j + i / 2 := by
      rw [Nat.pow_succ, ← Nat.mul_assoc]; omega
    have h1 : 0 < 2 ^ j := Nat.two_pow_pos j
    have h2 : 2 ^ j ≤ a * 2 ^ j := Nat.le_mul_of_pos_left _ ha
    rw [dep_def, if_pos (by rw [Nat.pow_succ, ← Nat.mul_assoc]; omega), e, dep_mul a ha j (i / 2) (by rw [Nat.pow_succ] at h; omega)]
    omega
/-- digits of a number -/
def dg (r : Nat) : Nat := if r = 0 then 0 else dep r + 1
theorem dg_half {r : Nat} (h : 0 < r) : dg r = dg (r / 2) + 1 := by
  unfold dg
  rw [if_neg (by omega), dep_def r]
  by_cases e : 2 ≤ r
  · rw [if_pos e, if_neg (by omega)]
  · rw [if_neg e, if_pos (by omega)]
theorem dep_dg (p : Nat) : dep p = dg (p / 2) := by
  unfold dg
  rw [dep_def p]
  by_cases e : 2 ≤ p
  · rw [if_pos e, if_neg (by omega)]
  · rw [if_neg e, if_pos (by omega)]
theorem dep_lt30 {p : Nat} (h : p < 2 ^ 30) : dep p < 30 := dep_lt h (by omega)
def bel (p a : Nat) : Bool := decide (a ≤ p ∧ p / 2 ^ (dep p - dep a) = a)
def mvd (x a b : Nat) : Nat := b * 2 ^ (dep x - dep a) + (x - a * 2 ^ (dep x - dep a))
theorem dep_mono {a p : Nat} (h : a ≤ p) : dep a ≤ dep p := by
  by_cases e : a = 0
  · subst e; simp [dep]
  · unfold dep
    rcases Nat.lt_or_ge p.log2 a.log2 with h1 | h1
    · have h2 : p < 2 ^ (a.log2) := (Nat.log2_lt (by omega)).mp h1
      have h3 := Nat.log2_self_le e
      omega
    · exact h1
theorem bel_iff {p a : Nat} (ha : 0 < a) : bel p a = true ↔ ∃ j i, i < 2 ^ j ∧ p = a * 2 ^ j + i := by
  simp only [bel, decide_eq_true_eq]
  constructor
  · rintro ⟨h1, h2⟩
    refine ⟨dep p - dep a, p % 2 ^ (dep p - dep a), Nat.mod_lt _ (Nat.two_pow_pos _), ?_⟩
    have h3 := Nat.div_add_mod p (2 ^ (dep p - dep a))
    rw [h2, Nat.mul_comm] at h3
    exact h3.symm
  · rintro ⟨j, i, hi, rfl⟩
    have h1 : 0 < 2 ^ j := Nat.two_pow_pos j
    have h2 : a ≤ a * 2 ^ j := Nat.le_mul_of_pos_right _ h1
    refine ⟨by omega, ?_⟩
    rw [dep_mul a ha j i hi, show dep a + j - dep a = j by omega, Nat.add_comm, Nat.add_mul_div_right _ _ h1, Nat.div_eq_of_lt hi, Nat.zero_add]
theorem nI_shr {p d : Nat} (hp : p < 2 ^ 31) (hd : d < 31) : nI p >>> (nI d &&& 31) = nI (p / 2 ^ d) := by
  refine pk_shrN hp _ d ?_
  have h9 : ∀ i : Fin 31, ((nI i.val &&& 31).toBitVec.smod 32).toNat = i.val := by decide
  exact h9 ⟨d, hd⟩
theorem nI_shl {p d : Nat} (hd : d < 31) (h : p * 2 ^ d < 2 ^ 32) : nI p <<< (nI d &&& 31) = nI (p * 2 ^ d) := by
  refine pk_shlN _ d ?_ h
  have h9 : ∀ i : Fin 31, ((nI i.val &&& 31).toBitVec.smod 32).toNat = i.val := by decide
  exact h9 ⟨d, hd⟩
/-! the model's cells -/
def mO (j : Nat) : Bool := (Nat.ble 5 j && Nat.ble j 9) || (Nat.ble 12 j && Nat.ble j 17)
def kO : Nat → Nat
  | 6 => 22
  | 14 => 22
  | 16 => 22
  | _ => 21
def MZ (K N : Nat → Nat) (Q : Nat → Nat → Option Nat) (m : Nat) (ar : Nat → Nat) : Prop := K m = 9 ∧ (∀ j, mO j = true → Q m j = some (ar j) ∧ K (ar j) = kO j ∧ N (ar j) = if j < 10 then 202 else 122) ∧ ∀ i j, mO i = true → mO j = true → ar i = ar j → i = j
theorem MZ.nk {K N : Nat → Nat} {Q : Nat → Nat → Option Nat} {m : Nat} {ar : Nat → Nat} (h : MZ K N Q m ar) (j : Nat) (hj : (mO j && Nat.ble j 9) = true) : N (ar j) = 202 := by
  simp only [Bool.and_eq_true, Nat.ble_eq] at hj
  rw [(h.2.1 j hj.1).2.2, if_pos (by omega)]
theorem MZ.np {K N : Nat → Nat} {Q : Nat → Nat → Option Nat} {m : Nat} {ar : Nat → Nat} (h : MZ K N Q m ar) (j : Nat) (hj : (mO j && Nat.ble 12 j) = true) : N (ar j) = 122 := by
  simp only [Bool.and_eq_true, Nat.ble_eq] at hj
  rw [(h.2.1 j hj.1).2.2, if_neg (by omega)]
theorem MZ.ne {K N : Nat → Nat} {Q : Nat → Nat → Option Nat} {m : Nat} {ar : Nat → Nat} (h : MZ K N Q m ar) (i j : Nat) (hij : (mO i && mO j && decide (i ≠ j)) = true) : ar i ≠ ar j := fun e => by
  simp only [Bool.and_eq_true, decide_eq_true_eq] at hij
  exact hij.2 (h.2.2 i j hij.1.1 hij.1.2 e)
theorem MZ.nm {K N : Nat → Nat} {Q : Nat → Nat → Option Nat} {m : Nat} {ar : Nat → Nat} (h : MZ K N Q m ar) (j : Nat) (hj : mO j = true) : ar j ≠ m := fun e => by
  have h1 := (h.2.1 j hj).2.1
  rw [e, h.1] at h1
  have h2 : kO j = 21 ∨ kO j = 22 := by
    unfold kO; split <;> simp
  omega
/-- one more than the greatest depth -/
def hmx (f : Nat → Nat) : Nat → Nat
  | 0 => 0
  | k + 1 => max (hmx f k) (dep (f k) + 1)
theorem hmx_le {f : Nat → Nat} {b : Nat} : ∀ {n : Nat}, (∀ i, i < n → dep (f i) < b) → hmx f n ≤ b
  | 0, _ => Nat.zero_le _
  | k + 1, h => by
    have h1 := h k (by omega)
    have h2 := hmx_le (f := f) (b := b) (n := k) (fun i hi => h i (by omega))
    simp only [hmx]; omega
