/-! THE LINK: trees with places -/
def plc (cd : Nat → Nat) : Tr → Nat → List (Nat × Nat)
  | .leaf _, _ => []
  | .branch q l r, p => plc cd l (2 * p) ++ (cd q, p) :: plc cd r (2 * p + 1)
theorem plc_len (cd : Nat → Nat) : ∀ (A : Tr) (p : Nat), (plc cd A p).length = sz A
  | .leaf _, _ => rfl
  | .branch q l r, p => by
    simp only [plc, sz, List.length_append, List.length_cons, plc_len cd l, plc_len cd r]
    omega
theorem plc_fst (cd : Nat → Nat) : ∀ (A : Tr) (p : Nat), (plc cd A p).map Prod.fst = (ino A).map cd
  | .leaf _, _ => rfl
  | .branch q l r, p => by
    simp only [plc, ino, List.map_append, List.map_cons, plc_fst cd l, plc_fst cd r]
theorem plc_cd {cd cd' : Nat → Nat} : ∀ {A : Tr} {p : Nat}, (∀ a ∈ ino A, cd' a = cd a) → plc cd' A p = plc cd A p
  | .leaf _, _, _ => rfl
  | .branch q l r, p, h => by
    simp only [plc]
    rw [plc_cd (A := l) (fun a ha => h a (by simp [ino, ha])), plc_cd (A := r) (fun a ha => h a (by simp [ino, ha])), h q (by simp [ino])]
theorem bel_l {x p : Nat} (hp : 0 < p) (h : bel x (2 * p) = true) : bel x p = true := by
  obtain ⟨j, i, hi, rfl⟩ := (bel_iff (by omega)).mp h
  refine (bel_iff hp).mpr ⟨j + 1, i, by rw [Nat.pow_succ]; omega, ?_⟩
  rw [Nat.pow_succ, Nat.mul_comm 2 p, Nat.mul_assoc, Nat.mul_comm 2 (2 ^ j)]
theorem bel_r {x p : Nat} (hp : 0 < p) (h : bel x (2 * p + 1) = true) : bel x p = true := by
  obtain ⟨j, i, hi, rfl⟩ := (bel_iff (by omega)).mp h
  refine (bel_iff hp).mpr ⟨j + 1, 2 ^ j + i, by rw [Nat.pow_succ]; omega, ?_⟩
  rw [Nat.pow_succ, Nat.add_mul, Nat.one_mul, Nat.mul_comm 2 p, Nat.mul_assoc, Nat.mul_comm 2 (2 ^ j), Nat.add_assoc]
theorem bel_trans {x y z : Nat} (hz : 0 < z) (h1 : bel x y = true) (h2 : bel y z = true) : bel x z = true := by
  obtain ⟨j, i, hi, rfl⟩ := (bel_iff hz).mp h2
  have hy : 0 < z * 2 ^ j + i := by
    have := Nat.mul_pos hz (Nat.two_pow_pos j)
    omega
  obtain ⟨k, m, hm, rfl⟩ := (bel_iff hy).mp h1
  refine (bel_iff hz).mpr ⟨j + k, i * 2 ^ k + m, ?_, ?_⟩
  · rw [Nat.pow_add]
    have h3 : (i + 1) * 2 ^ k ≤ 2 ^ j * 2 ^ k := Nat.mul_le_mul_right _ hi
    rw [Nat.add_mul, Nat.one_mul] at h3
    omega
  · rw [Nat.add_mul, Nat.pow_add, Nat.mul_assoc, Nat.add_assoc]
theorem bel_lr {x p : Nat} (hp : 0 < p) (h : bel x (2 * p) = true) : bel x (2 * p + 1) = false := by
  have hd : dep (2 * p) = dep (2 * p + 1) := by
    have h1 := dep_mul p hp 1 0 (by omega)
    have h2 := dep_mul p hp 1 1 (by omega)
    rw [show p * 2 ^ 1 + 0 = 2 * p by omega] at h1
    rw [show p * 2 ^ 1 + 1 = 2 * p + 1 by omega] at h2
    rw [h1, h2]
  simp only [bel, decide_eq_true_eq, decide_eq_false_iff_not] at h ⊢
  rw [← hd]
  omega
theorem bel_rl {x p : Nat} (hp : 0 < p) (h : bel x (2 * p + 1) = true) : bel x (2 * p) = false := by
  cases e : bel x (2 * p) with
  | false => rfl
  | true => rw [bel_lr hp e] at h; cases h
theorem bel_down {x p : Nat} (hp : 0 < p) (h : bel x p = true) : x = p ∨ bel x (2 * p) = true ∨ bel x (2 * p + 1) = true := by
  obtain ⟨j, i, hi, rfl⟩ := (bel_iff hp).mp h
  cases j with
  | zero => left; simp at hi; subst hi; simp
  | succ j =>
    right
    rw [Nat.pow_succ] at hi
    have e : p * 2 ^ (j + 1) = 2 * p * 2 ^ j := by rw [Nat.pow_succ, Nat.mul_comm 2 p, Nat.mul_assoc, Nat.mul_comm 2 (2 ^ j)]
    by_cases h2 : i < 2 ^ j
    · left
      exact (bel_iff (by omega)).mpr ⟨j, i, h2, by rw [e]⟩
    · right
      refine (bel_iff (by omega)).mpr ⟨j, i - 2 ^ j, by omega, ?_⟩
      rw [e, Nat.add_mul, Nat.one_mul]
      omega
theorem plc_bel {cd : Nat → Nat} : ∀ {A : Tr} {p : Nat}, 0 < p → ∀ x ∈ plc cd A p, bel x.2 p = true
  | .leaf _, p, _, x, hx => by simp [plc] at hx
  | .branch q l r, p, hp, x, hx => by
    simp only [plc, List.mem_append, List.mem_cons] at hx
    rcases hx with hx | rfl | hx
    · exact bel_l hp (plc_bel (by omega) x hx)
    · exact bel_self hp
    · exact bel_r hp (plc_bel (by omega) x hx)
theorem plc_pos {cd : Nat → Nat} {A : Tr} {p : Nat} (hp : 0 < p) : ∀ x ∈ plc cd A p, 0 < x.2 := fun x hx => by
  have h := plc_bel hp x hx
  simp only [bel, decide_eq_true_eq] at h
  omega
theorem plc_lt {cd : Nat → Nat} : ∀ {A : Tr} {p : Nat}, ∀ x ∈ plc cd A p, x.2 + 1 ≤ (p + 1) * 2 ^ (ht A - 1)
  | .leaf _, p, x, hx => by simp [plc] at hx
  | .branch q l r, p, x, hx => by
    simp only [plc, List.mem_append, List.mem_cons] at hx
    simp only [ht, Nat.add_sub_cancel]
    have key : ∀ (t : Tr) (c : Nat), (x ∈ plc cd t (2 * p + c) → x.2 + 1 ≤ (2 * p + c + 1) * 2 ^ (ht t - 1)) → c ≤ 1 → ht t ≤ max (ht l) (ht r) → x ∈ plc cd t (2 * p + c) → x.2 + 1 ≤ (p + 1) * 2 ^ max (ht l) (ht r) := by
      intro t c ih hc hm hx2
      have h1 := ih hx2
      have h0 : 0 < ht t := by
        cases t with
        | leaf _ => simp [plc] at hx2
        | branch a b c => simp [ht]
      have h2 : (2 * p + c + 1) * 2 ^ (ht t - 1) ≤ (2 * (p + 1)) * 2 ^ (ht t - 1) := Nat.mul_le_mul_right _ (by omega)
      have h3 : (2 * (p + 1)) * 2 ^ (ht t - 1) = (p + 1) * 2 ^ (ht t) := by
        rw [Nat.mul_comm 2, Nat.mul_assoc, Nat.mul_comm 2, ← Nat.pow_succ, show (ht t - 1).succ = ht t by omega]
      have h4 : (p + 1) * 2 ^ (ht t) ≤ (p + 1) * 2 ^ max (ht l) (ht r) := Nat.mul_le_mul_left _ (Nat.pow_le_pow_right (by omega) hm)
      omega
    rcases hx with hx | rfl | hx
    · exact key l 0 (fun h => plc_lt (A := l) x h) (by omega) (Nat.le_max_left _ _) hx
    · simp only []
      exact Nat.le_mul_of_pos_right _ (Nat.two_pow_pos _)
    · exact key r 1 (fun h => plc_lt (A := r) x h) (by omega) (Nat.le_max_right _ _) hx
/-! frames and the hole's place -/
def hpl : List Fr → Nat → Nat
  | [], p => p
  | f :: F, p => hpl F (2 * p + (if f.2.1 = true then 0 else 1))
def pfr (cd : Nat → Nat) : List Fr → Nat → List (Nat × Nat)
  | [], _ => []
  | f :: F, p => (cd f.1, p) :: (plc cd f.2.2 (2 * p + (if f.2.1 = true then 1 else 0)) ++ pfr cd F (2 * p + (if f.2.1 = true then 0 else 1)))
theorem hpl_app : ∀ (F1 F2 : List Fr) (p : Nat), hpl (F1 ++ F2) p = hpl F2 (hpl F1 p)
  | [], _, _ => rfl
  | f :: F1, F2, p => by simp only [List.cons_append, hpl, hpl_app F1 F2]
theorem hpl_pos : ∀ (F : List Fr) {p : Nat}, 0 < p → 0 < hpl F p
  | [], _, h => h
  | f :: F, p, h => hpl_pos F (by omega)
theorem hpl_bel : ∀ (F : List Fr) {p : Nat}, 0 < p → bel (hpl F p) p = true
  | [], p, h => bel_self h
  | f :: F, p, h => by
    simp only [hpl]
    split
    · exact bel_l h (hpl_bel F (by omega))
    · exact bel_r h (hpl_bel F (by omega))
theorem plc_plug (cd : Nat → Nat) (X : Tr) : ∀ (F : List Fr) (p : Nat), (plc cd (plug F X) p).Perm (pfr cd F p ++ plc cd X (hpl F p))
  | [], p => List.Perm.refl _
  | (q, b, s) :: F, p => by
    cases b with
    | true =>
      simp only [plug, mkf, plc, pfr, hpl, if_true, List.cons_append]
      refine List.perm_middle.trans (List.Perm.cons _ ?_)
      refine List.perm_append_comm.trans ?_
      rw [List.append_assoc]
      exact (plc_plug cd X F (2 * p)).append_left _
    | false =>
      simp only [plug, mkf, plc, pfr, hpl, Bool.false_eq_true, if_false, List.cons_append]
      refine List.perm_middle.trans (List.Perm.cons _ ?_)
      rw [List.append_assoc]
      exact (plc_plug cd X F (2 * p + 1)).append_left _
theorem pfr_nb {cd : Nat → Nat} : ∀ {F : List Fr} {p : Nat}, 0 < p → ∀ x ∈ pfr cd F p, bel x.2 (hpl F p) = false
  | [], p, _, x, hx => by simp [pfr] at hx
  | (q, b, s) :: F, p, hp, x, hx => by
    have hb : ∀ c : Nat, bel (hpl F (2 * p + c)) (2 * p + c) = true := fun c => hpl_bel F (by omega)
    cases b with
    | true =>
      simp only [pfr, hpl, if_true, List.mem_cons, List.mem_append] at hx ⊢
      have hb0 := hb 0
      simp only [Nat.add_zero] at hb0 hx ⊢
      rcases hx with rfl | hx | hx
      · refine bel_up ?_
        simp only [bel, decide_eq_true_eq] at hb0
        show p < hpl F (2 * p)
        omega
      · cases e : bel x.2 (hpl F (2 * p)) with
        | false => rfl
        | true =>
          have h1 := bel_trans (by omega) e hb0
          have h2 := plc_bel (by omega) x hx
          rw [bel_lr hp h1] at h2; cases h2
      · exact pfr_nb (by omega) x hx
    | false =>
      simp only [pfr, hpl, Bool.false_eq_true, if_false, List.mem_cons, List.mem_append] at hx ⊢
      have hb0 := hb 1
      simp only [Nat.add_zero] at hx
      rcases hx with rfl | hx | hx
      · refine bel_up ?_
        simp only [bel, decide_eq_true_eq] at hb0
        show p < hpl F (2 * p + 1)
        omega
      · cases e : bel x.2 (hpl F (2 * p + 1)) with
        | false => rfl
        | true =>
          have h1 := bel_trans (by omega) e hb0
          have h2 := plc_bel (by omega) x hx
          rw [bel_rl hp h1] at h2; cases h2
      · exact pfr_nb (by omega) x hx
/-! the model's rows as codes with places -/
def rwl (n : Nat) (c f : Nat → Nat) : List (Nat × Nat) := ((List.range n).filter (fun i => decide (0 < f i))).map (fun i => (c i, f i))
def RT (n : Nat) (c f cd : Nat → Nat) (A : Tr) : Prop := (rwl n c f).Perm (plc cd A 1)
theorem cn_countP (p : Nat → Bool) : ∀ n, cn p n = (List.range n).countP p
  | 0 => rfl
  | k + 1 => by
    rw [List.range_succ, List.countP_append, ← cn_countP p k]
    simp only [cn, List.countP_singleton]
theorem rwl_countP (n : Nat) (c f : Nat → Nat) (p : Nat × Nat → Bool) : (rwl n c f).countP p = cn (fun i => decide (0 < f i) && p (c i, f i)) n := by
  unfold rwl
  rw [List.countP_map, List.countP_filter, cn_countP]
  congr 1
  funext i
  simp only [Function.comp, Bool.and_comm]
theorem RT_cnW {n : Nat} {c f cd : Nat → Nat} {A : Tr} (h : RT n c f cd A) (q : Nat) : cnW n f q = (plc cd A 1).countP (fun x => bel x.2 q) := by
  have h1 := rwl_countP n c f (fun x => bel x.2 q)
  unfold cnW
  rw [← h1, h.countP_eq]
theorem countP_hole (cd : Nat → Nat) (F : List Fr) (X : Tr) {p : Nat} (hp : 0 < p) : (plc cd (plug F X) p).countP (fun x => bel x.2 (hpl F p)) = sz X := by
  rw [(plc_plug cd X F p).countP_eq, List.countP_append]
  rw [List.countP_eq_zero.mpr (fun x hx => by rw [pfr_nb hp x hx]; decide), Nat.zero_add, ← plc_len cd X (hpl F p), List.countP_eq_length]
  exact fun x hx => plc_bel (hpl_pos F hp) x hx
theorem RT_hole {n : Nat} {c f cd : Nat → Nat} {F : List Fr} {X : Tr} (h : RT n c f cd (plug F X)) : cnW n f (hpl F 1) = sz X := by
  rw [RT_cnW h, countP_hole cd F X (by omega)]
