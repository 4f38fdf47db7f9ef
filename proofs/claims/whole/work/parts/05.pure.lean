/-! updates over updates -/
theorem x_up_up {α : Type} (f : Nat → α) (a : Nat) (v w : α) : x_up (x_up f a v) a w = x_up f a w := by
  funext q; simp only [x_up]; split <;> rfl
theorem x_u2_up {α : Type} (f : Nat → Nat → α) (a k : Nat) (g : Nat → α) (v : α) : x_u2 (x_up f a g) a k v = x_up f a (x_up g k v) := by
  simp only [x_u2, x_up_up, x_up_s]
theorem x_u2_u2 {α : Type} (f : Nat → Nat → α) (a k : Nat) (v w : α) : x_u2 (x_u2 f a k v) a k w = x_u2 f a k w := by
  simp only [x_u2, x_up_up, x_up_s]
theorem x_u2_s {α : Type} (f : Nat → Nat → α) (a k : Nat) (v : α) : x_u2 f a k v a k = v := by simp [x_u2, x_up]
theorem x_u2_a {α : Type} (f : Nat → Nat → α) {a k q : Nat} (v : α) (h : q ≠ a) : x_u2 f a k v q = f q := by simp [x_u2, x_up, h]
theorem x_u2_j {α : Type} (f : Nat → Nat → α) {a k q j : Nat} (v : α) (h : j ≠ k) : x_u2 f a k v q j = f q j := by
  by_cases hq : q = a
  · subst hq; simp [x_u2, x_up, h]
  · simp [x_u2, x_up, hq]
theorem x_up_id {α : Type} (f : Nat → α) (a : Nat) : x_up f a (f a) = f := by
  funext q; simp only [x_up]; split
  · rename_i h; rw [h]
  · rfl
theorem TP.none {K : Nat → Nat} {Q : Nat → Nat → Option Nat} {t : Tr} (h : TP K Q t none) : t = .leaf () := by
  cases t with
  | leaf u => rfl
  | branch q l r => cases h.1
theorem TP.some {K : Nat → Nat} {Q : Nat → Nat → Option Nat} {t : Tr} {q : Nat} (h : TP K Q t (some q)) : ∃ l r : Tr, t = .branch q l r ∧ K q = 3 ∧ TP K Q l (Q q 3) ∧ TP K Q r (Q q 4) := by
  cases t with
  | leaf u => cases h
  | branch q' l r =>
    obtain ⟨h1, h2⟩ := h
    cases h1
    exact ⟨l, r, rfl, h2⟩
/-! codes of keys and points, their orders by depth -/
def cv1 (c : Nat) : Int32 := nI c - nI 999
def cv5 (c : Nat) : Int32 := nI c
def od1 (_ c : Nat) : Nat := c
def od5 (d c : Nat) : Nat := if d % 2 = 0 then c else c % 100 * 100 + c / 100
theorem cv1_toInt {c : Nat} (h : c < 1999) : (cv1 c).toInt = (c : Int) - 999 := pk_sub_toInt (by omega) (by omega)
theorem cv5_toInt {c : Nat} (h : c < 10000) : (cv5 c).toInt = (c : Int) := nI_toInt (by omega)
theorem cv1_lt {a b : Nat} (ha : a < 1999) (hb : b < 1999) : cv1 a < cv1 b ↔ a < b := by rw [i32_lt, cv1_toInt ha, cv1_toInt hb]; omega
theorem cv5_lt {a b : Nat} (ha : a < 10000) (hb : b < 10000) : cv5 a < cv5 b ↔ a < b := by rw [i32_lt, cv5_toInt ha, cv5_toInt hb]; omega
theorem cv1_eq {a b : Nat} (ha : a < 1999) (hb : b < 1999) : cv1 a = cv1 b ↔ a = b := by rw [i32_eq, cv1_toInt ha, cv1_toInt hb]; omega
theorem cv5_eq {a b : Nat} (ha : a < 10000) (hb : b < 10000) : cv5 a = cv5 b ↔ a = b := by rw [i32_eq, cv5_toInt ha, cv5_toInt hb]; omega
theorem od1_lt {d c : Nat} (h : c < 1999) : od1 d c < 1999 := h
theorem od5_lt {d c : Nat} (h : c < 10000) : od5 d c < 10000 := by unfold od5; split <;> omega
theorem od1_inj {d a b : Nat} (h : od1 d a = od1 d b) (_ : a < 1999) (_ : b < 1999) : a = b := h
theorem od5_inj {d a b : Nat} (h : od5 d a = od5 d b) (ha : a < 10000) (hb : b < 10000) : a = b := by unfold od5 at h; split at h <;> omega
/-! a lazy tree's fixed parts -/
def RowS (K N : Nat → Nat) (Q : Nat → Nat → Option Nat) (rq nq cap : Nat) : Prop := K rq = 4 ∧ Q rq 0 = some nq ∧ K nq = 23 ∧ N nq = cap ∧ cap < 1000
theorem RowS.ok {K N : Nat → Nat} {I : Nat → Nat → Int32} {Q : Nat → Nat → Option Nat} {rq nq cap n : Nat} (h : RowS K N Q rq nq cap) (hn : I rq 1 = nI n) (hc : n ≤ cap) : RowOK K N I Q rq nq cap n := ⟨h.1, h.2.1, h.2.2.1, h.2.2.2.1, h.2.2.2.2, hn, hc⟩
theorem RowOK.s {K N : Nat → Nat} {I : Nat → Nat → Int32} {Q : Nat → Nat → Option Nat} {rq nq cap n : Nat} (h : RowOK K N I Q rq nq cap n) : RowS K N Q rq nq cap := ⟨h.1, h.2.1, h.2.2.1, h.2.2.2.1, h.2.2.2.2.1⟩
theorem RowS.row {K N : Nat → Nat} {Q : Nat → Nat → Option Nat} {rq nq cap : Nat} (h : RowS K N Q rq nq cap) (g : Nat → Option Nat) : RowS K N (x_up Q nq g) rq nq cap := by
  refine ⟨h.1, ?_, h.2.2⟩
  rw [x_up_n]
  · exact h.2.1
  · intro e; have := h.1; rw [e, h.2.2.1] at this; omega
def LZ (K N : Nat → Nat) (Q : Nat → Nat → Option Nat) (t kd pq pn rw rn cap : Nat) : Prop := K t = kd ∧ (kd = 2 ∨ kd = 5) ∧ Q t 0 = some pq ∧ Q t 1 = some rw ∧ RowS K N Q pq pn 40 ∧ RowS K N Q rw rn cap ∧ pq ≠ rw ∧ pn ≠ rn
/-- cells of kind 3 have codes -/
def ND (cv : Nat → Int32) (B : Nat) (K : Nat → Nat) (I : Nat → Nat → Int32) (cd : Nat → Nat) (as : List Nat) : Prop := ∀ q ∈ as, K q = 3 ∧ I q 0 = cv (cd q) ∧ cd q < B
def SEG (f : Nat → Option Nat) (a : Nat) (lst : List Nat) : Prop := ∀ i, i < lst.length → f (a + i) = lst[i]?
def spath (od : Nat → Nat → Nat) (cd : Nat → Nat) (c : Nat) : Tr → Nat → List Nat
  | .leaf _, _ => []
  | .branch q l r, d => q :: (if cd q = c then [] else if od d c < od d (cd q) then spath od cd c l (d + 1) else spath od cd c r (d + 1))
def sfind (od : Nat → Nat → Nat) (cd : Nat → Nat) (c : Nat) : Tr → Nat → Option Nat
  | .leaf _, _ => none
  | .branch q l r, d => if cd q = c then some q else if od d c < od d (cd q) then sfind od cd c l (d + 1) else sfind od cd c r (d + 1)
theorem spath_len (od : Nat → Nat → Nat) (cd : Nat → Nat) (c : Nat) : ∀ (t : Tr) (d : Nat), (spath od cd c t d).length ≤ ht t
  | .leaf _, _ => Nat.le_refl _
  | .branch q l r, d => by
    have h1 := spath_len od cd c l (d + 1)
    have h2 := spath_len od cd c r (d + 1)
    simp only [spath, ht, List.length_cons]
    split
    · simp
    · split <;> omega
theorem spath_mem (od : Nat → Nat → Nat) (cd : Nat → Nat) (c : Nat) : ∀ (t : Tr) (d a : Nat), a ∈ spath od cd c t d → a ∈ ino t
  | .leaf _, _, a, h => by simp [spath] at h
  | .branch q l r, d, a, h => by
    simp only [spath, List.mem_cons] at h
    rcases h with rfl | h
    · simp [ino]
    · split at h
      · simp at h
      · split at h
        · have := spath_mem od cd c l (d + 1) a h; simp [ino, this]
        · have := spath_mem od cd c r (d + 1) a h; simp [ino, this]
theorem sfind_mem (od : Nat → Nat → Nat) (cd : Nat → Nat) (c : Nat) : ∀ (t : Tr) (d a : Nat), sfind od cd c t d = some a → a ∈ ino t
  | .leaf _, _, a, h => by simp [sfind] at h
  | .branch q l r, d, a, h => by
    simp only [sfind] at h
    split at h
    · cases h; simp [ino]
    · split at h
      · have := sfind_mem od cd c l (d + 1) a h; simp [ino, this]
      · have := sfind_mem od cd c r (d + 1) a h; simp [ino, this]
def alv (I : Nat → Nat → Int32) (q : Nat) : Bool := decide (¬ I q 1 = 0)
def sumd : Tr → Nat → Nat
  | .leaf _, _ => 0
  | .branch _ l r, d => d + sumd l (d + 1) + sumd r (d + 1)
theorem imax {a b : Nat} (ha : a < 1000000) (hb : b < 1000000) : (if nI a - nI 1 < nI b - nI 1 then nI b - nI 1 else nI a - nI 1) = nI (max a b) - nI 1 := by
  have h : nI a - nI 1 < nI b - nI 1 ↔ a < b := by
    rw [i32_lt, pk_sub_toInt (by omega) (by omega), pk_sub_toInt (by omega) (by omega)]; omega
  by_cases hab : a < b
  · rw [if_pos (h.mpr hab), Nat.max_eq_right (by omega)]
  · rw [if_neg (fun z => hab (h.mp z)), Nat.max_eq_left (by omega)]
theorem nodes_ne {K : Nat → Nat} {q a k : Nat} (h : K q = 3) (ha : K a = k) (hk : k ≠ 3) : q ≠ a := fun e => hk (by rw [← ha, ← e]; exact h)
theorem fa_of_nlt {a b : Int32} (h : ¬ a < b) : b ≤ a := by rw [i32_lt] at h; rw [i32_le]; omega
theorem SEG_app {f : Nat → Option Nat} {a : Nat} {l1 l2 : List Nat} (h1 : SEG f a l1) (h2 : SEG f (a + l1.length) l2) : SEG f a (l1 ++ l2) := by
  intro i hi
  by_cases h : i < l1.length
  · rw [List.getElem?_append_left h]; exact h1 i h
  · rw [List.getElem?_append_right (by omega), ← h2 (i - l1.length) (by simp at hi; omega)]
    congr 1; omega
theorem SEG_left {f : Nat → Option Nat} {a : Nat} {l1 l2 : List Nat} (h : SEG f a (l1 ++ l2)) : SEG f a l1 := by
  intro i hi
  rw [h i (by simp; omega), List.getElem?_append_left hi]
theorem SEG_right {f : Nat → Option Nat} {a : Nat} {l1 l2 : List Nat} (h : SEG f a (l1 ++ l2)) : SEG f (a + l1.length) l2 := by
  intro i hi
  rw [show a + l1.length + i = a + (l1.length + i) by omega, h _ (by simp; omega), List.getElem?_append_right (by omega)]
  congr 1; omega
theorem SEG_congr {f g : Nat → Option Nat} {a : Nat} {lst : List Nat} (h : SEG f a lst) (hc : ∀ i, a ≤ i → i < a + lst.length → g i = f i) : SEG g a lst := by
  intro i hi
  rw [hc _ (by omega) (by omega)]; exact h i hi
theorem SEG_one {f : Nat → Option Nat} {a q : Nat} (h : f a = some q) : SEG f a [q] := by
  intro i hi
  simp at hi
  subst hi
  simpa using h
theorem SEG_nil {f : Nat → Option Nat} {a : Nat} : SEG f a [] := fun i hi => absurd hi (Nat.not_lt_zero _)
def apd (dd : Bool) (I : Nat → Nat → Int32) (A : Tr) : List Nat := (ino A).filter (fun q => dd || alv I q)
theorem apd_congr {dd : Bool} {I I' : Nat → Nat → Int32} {A : Tr} (h : ∀ a ∈ ino A, I' a 1 = I a 1) : apd dd I' A = apd dd I A := by
  unfold apd
  exact List.filter_congr (fun a ha => by simp only [alv, h a ha])
theorem apd_node (dd : Bool) (I : Nat → Nat → Int32) (q : Nat) (l r : Tr) : apd dd I (.branch q l r) = apd dd I l ++ ((if dd || alv I q then [q] else []) ++ apd dd I r) := by
  simp only [apd, ino, List.filter_append, List.filter_cons]
  split <;> simp
theorem apd_mem {dd : Bool} {I : Nat → Nat → Int32} {A : Tr} {q : Nat} (h : q ∈ apd dd I A) : q ∈ ino A := (List.mem_filter.mp h).1
theorem TP.row {K : Nat → Nat} {Q : Nat → Nat → Option Nat} {t : Tr} {o : Option Nat} {rn : Nat} (h : TP K Q t o) (hk : K rn = 23) (g : Nat → Option Nat) : TP K (x_up Q rn g) t o :=
  h.congr (fun a ha => by
    have hne : a ≠ rn := nodes_ne (h.kind a ha) hk (by omega)
    exact ⟨rfl, by rw [x_up_n _ _ hne], by rw [x_up_n _ _ hne]⟩)
