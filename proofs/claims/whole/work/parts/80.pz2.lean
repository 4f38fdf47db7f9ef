theorem bel_form {x a : Nat} (ha : 0 < a) (h : bel x a = true) : ∃ j i, i < 2 ^ j ∧ x = a * 2 ^ j + i ∧ dep x = dep a + j := by
  obtain ⟨j, i, hi, rfl⟩ := (bel_iff ha).mp h
  exact ⟨j, i, hi, rfl, dep_mul a ha j i hi⟩
theorem dep_2 {a : Nat} (ha : 0 < a) {e : Nat} (he : e ≤ 1) : dep (2 * a + e) = dep a + 1 := by
  have h1 := dep_mul a ha 1 e (by omega)
  rw [show a * 2 ^ 1 + e = 2 * a + e by omega] at h1
  exact h1
theorem mvd_form {a b j i : Nat} (ha : 0 < a) (hi : i < 2 ^ j) : mvd (a * 2 ^ j + i) a b = b * 2 ^ j + i := by
  unfold mvd
  rw [dep_mul a ha j i hi, show dep a + j - dep a = j by omega, show a * 2 ^ j + i - a * 2 ^ j = i by omega]
theorem mvd_root {a b : Nat} (ha : 0 < a) : mvd a a b = b := by
  have h := mvd_form (a := a) (b := b) (j := 0) (i := 0) ha (by simp)
  simpa using h
theorem pw_s (a j : Nat) : 2 * a * 2 ^ j = a * 2 ^ (j + 1) := by rw [Nat.pow_succ, Nat.mul_comm 2 a, Nat.mul_assoc, Nat.mul_comm 2 (2 ^ j)]
theorem mvd_c {x a b e : Nat} (ha : 0 < a) (he : e ≤ 1) (h : bel x (2 * a + e) = true) : mvd x a b = mvd x (2 * a + e) (2 * b + e) := by
  obtain ⟨j, i, hi, rfl⟩ := (bel_iff (by omega)).mp h
  rw [mvd_form (by omega) hi]
  have e1 : (2 * a + e) * 2 ^ j + i = a * 2 ^ (j + 1) + (e * 2 ^ j + i) := by rw [Nat.add_mul, pw_s, Nat.add_assoc]
  have h2 : e * 2 ^ j + i < 2 ^ (j + 1) := by
    rw [Nat.pow_succ]
    have : e * 2 ^ j ≤ 1 * 2 ^ j := Nat.mul_le_mul_right _ he
    omega
  rw [e1, mvd_form ha h2, Nat.add_mul, pw_s, Nat.add_assoc]
theorem plc_shift (cd : Nat → Nat) : ∀ (A : Tr) (a b : Nat), 0 < a → (plc cd A a).map (fun x => (x.1, mvd x.2 a b)) = plc cd A b
  | .leaf _, _, _, _ => rfl
  | .branch q l r, a, b, ha => by
    simp only [plc, List.map_append, List.map_cons]
    rw [mvd_root ha]
    congr 1
    · rw [← plc_shift cd l (2 * a) (2 * b) (by omega)]
      refine List.map_congr_left (fun x hx => ?_)
      rw [mvd_c (e := 0) ha (by omega) (plc_bel (by omega) x hx)]; rfl
    · congr 1
      rw [← plc_shift cd r (2 * a + 1) (2 * b + 1) (by omega)]
      refine List.map_congr_left (fun x hx => ?_)
      rw [mvd_c (e := 1) ha (by omega) (plc_bel (by omega) x hx)]
theorem bel_c {x p e : Nat} (hp : 0 < p) (he : e ≤ 1) (h : bel x (2 * p + e) = true) : bel x p = true := by
  rcases (show e = 0 ∨ e = 1 by omega) with rfl | rfl
  · exact bel_l hp h
  · exact bel_r hp h
theorem bel_x {x p e1 e0 : Nat} (hp : 0 < p) (he : e1 + e0 = 1) (h : bel x (2 * p + e0) = true) : bel x (2 * p + e1) = false := by
  rcases (show e0 = 0 ∧ e1 = 1 ∨ e0 = 1 ∧ e1 = 0 by omega) with ⟨rfl, rfl⟩ | ⟨rfl, rfl⟩
  · exact bel_lr hp h
  · exact bel_rl hp h
theorem bel_ge {x a : Nat} (h : bel x a = true) : a ≤ x := by
  simp only [bel, decide_eq_true_eq] at h
  exact h.1
theorem tm_root {e1 e0 p : Nat} : turnM e1 e0 p p = 2 * p + e0 := by unfold turnM; rw [if_pos rfl]
theorem tm_up {e1 e0 p : Nat} (hp : 0 < p) : turnM e1 e0 p (2 * p + e1) = p := by unfold turnM; rw [if_neg (by omega), if_pos rfl]
theorem tm_down {e1 e0 p x : Nat} (hp : 0 < p) (he : e1 + e0 = 1) (h : bel x (2 * p + e0) = true) : turnM e1 e0 p x = mvd x (2 * p + e0) (2 * (2 * p + e0) + e0) := by
  have hx := bel_ge h
  unfold turnM
  rw [if_neg (by omega), if_neg (fun z => ?_), if_pos (by rw [h, Bool.and_true]; exact decide_eq_true (by omega))]
  rw [z, bel_x (e1 := e0) (e0 := e1) hp (by omega) (bel_self (by omega))] at h
  cases h
theorem tm_inner {e1 e0 p x : Nat} (hp : 0 < p) (he : e1 + e0 = 1) (h : bel x (2 * (2 * p + e1) + e0) = true) : turnM e1 e0 p x = mvd x (2 * (2 * p + e1) + e0) (2 * (2 * p + e0) + e1) := by
  have hx := bel_ge h
  have h1 : bel x (2 * p + e1) = true := bel_c (by omega) (by omega) h
  have h2 := bel_x (e1 := e0) (e0 := e1) hp (by omega) h1
  unfold turnM
  rw [if_neg (by omega), if_neg (by omega), if_neg (by rw [h2, Bool.and_false]; decide), if_pos (by rw [h, Bool.and_true]; exact decide_eq_true (by omega))]
theorem tm_outer {e1 e0 p x : Nat} (hp : 0 < p) (he : e1 + e0 = 1) (h : bel x (2 * (2 * p + e1) + e1) = true) : turnM e1 e0 p x = mvd x (2 * (2 * p + e1) + e1) (2 * p + e1) := by
  have hx := bel_ge h
  have h1 : bel x (2 * p + e1) = true := bel_c (by omega) (by omega) h
  have h2 := bel_x (e1 := e0) (e0 := e1) hp (by omega) h1
  have h3 := bel_x (e1 := e0) (e0 := e1) (p := 2 * p + e1) (by omega) (by omega) h
  unfold turnM
  rw [if_neg (by omega), if_neg (by omega), if_neg (by rw [h2, Bool.and_false]; decide), if_neg (by rw [h3, Bool.and_false]; decide), if_pos (by rw [h, Bool.and_true]; exact decide_eq_true (by omega))]
theorem tm_else {e1 e0 p x : Nat} (hp : 0 < p) (he : e1 + e0 = 1) (h : bel x p = false) : turnM e1 e0 p x = x := by
  have n0 : bel x (2 * p + e0) = false := by
    cases e : bel x (2 * p + e0) with
    | false => rfl
    | true => rw [bel_c hp (by omega) e] at h; cases h
  have n1 : bel x (2 * p + e1) = false := by
    cases e : bel x (2 * p + e1) with
    | false => rfl
    | true => rw [bel_c hp (by omega) e] at h; cases h
  have n2 : ∀ z, z ≤ 1 → bel x (2 * (2 * p + e1) + z) = false := fun z hz => by
    cases e : bel x (2 * (2 * p + e1) + z) with
    | false => rfl
    | true => rw [bel_c (by omega) hz e] at n1; cases n1
  unfold turnM
  rw [if_neg (fun z => by rw [z, bel_self hp] at h; cases h), if_neg (fun z => by rw [z, bel_self (by omega)] at n1; cases n1), if_neg (by rw [n0, Bool.and_false]; decide), if_neg (by rw [n2 e0 (by omega), Bool.and_false]; decide), if_neg (by rw [n2 e1 (by omega), Bool.and_false]; decide)]
theorem tm_0 {e1 e0 p : Nat} (hp : 0 < p) : turnM e1 e0 p 0 = 0 := by
  unfold turnM
  rw [if_neg (by omega), if_neg (by omega), if_neg (by simp), if_neg (by simp), if_neg (by simp)]
theorem mvd_pos {x a b : Nat} (hb : 0 < b) : 0 < mvd x a b := by
  unfold mvd
  have := Nat.mul_pos hb (Nat.two_pow_pos (dep x - dep a))
  omega
theorem tm_pos {e1 e0 p x : Nat} (hp : 0 < p) (hx : 0 < x) : 0 < turnM e1 e0 p x := by
  unfold turnM
  split
  · omega
  · split
    · exact hp
    · split
      · exact mvd_pos (by omega)
      · split
        · exact mvd_pos (by omega)
        · split
          · exact mvd_pos (by omega)
          · exact hx
theorem plc_turnL (cd : Nat → Nat) {q c p : Nat} {l a b : Tr} (hp : 0 < p) : (plc cd (.branch q l (.branch c a b)) p).map (fun x => (x.1, turnM 1 0 p x.2)) = plc cd (.branch c (.branch q l a) b) p := by
  simp only [plc, List.map_append, List.map_cons, List.append_assoc, List.cons_append]
  rw [tm_root, tm_up hp, ← plc_shift cd l (2 * p) (2 * (2 * p)) (by omega), ← plc_shift cd a (2 * (2 * p + 1)) (2 * (2 * p) + 1) (by omega), ← plc_shift cd b (2 * (2 * p + 1) + 1) (2 * p + 1) (by omega)]
  congr 1
  · refine List.map_congr_left (fun x hx => ?_)
    rw [tm_down hp rfl (plc_bel (by omega) x hx)]; rfl
  · congr 1
    congr 1
    · refine List.map_congr_left (fun x hx => ?_)
      rw [tm_inner hp rfl (plc_bel (by omega) x hx)]; rfl
    · congr 1
      refine List.map_congr_left (fun x hx => ?_)
      rw [tm_outer hp rfl (plc_bel (by omega) x hx)]
theorem plc_turnR (cd : Nat → Nat) {q c p : Nat} {r a b : Tr} (hp : 0 < p) : (plc cd (.branch q (.branch c a b) r) p).map (fun x => (x.1, turnM 0 1 p x.2)) = plc cd (.branch c a (.branch q b r)) p := by
  simp only [plc, List.map_append, List.map_cons, List.append_assoc, List.cons_append]
  rw [tm_root, show turnM 0 1 p (2 * p) = p from tm_up (e1 := 0) hp, ← plc_shift cd a (2 * (2 * p)) (2 * p) (by omega), ← plc_shift cd b (2 * (2 * p) + 1) (2 * (2 * p + 1)) (by omega), ← plc_shift cd r (2 * p + 1) (2 * (2 * p + 1) + 1) (by omega)]
  congr 1
  · refine List.map_congr_left (fun x hx => ?_)
    rw [tm_outer (e1 := 0) (e0 := 1) hp rfl (plc_bel (by omega) x hx)]; rfl
  · congr 1
    congr 1
    · refine List.map_congr_left (fun x hx => ?_)
      rw [tm_inner (e1 := 0) (e0 := 1) hp rfl (plc_bel (by omega) x hx)]; rfl
    · congr 1
      refine List.map_congr_left (fun x hx => ?_)
      rw [tm_down (e1 := 0) (e0 := 1) hp rfl (plc_bel (by omega) x hx)]
theorem rwl_map {n : Nat} {c f g : Nat → Nat} (h0 : g 0 = 0) (hp : ∀ x, 0 < x → 0 < g x) : rwl n c (fun i => g (f i)) = (rwl n c f).map (fun x => (x.1, g x.2)) := by
  unfold rwl
  rw [List.map_map]
  have e : (fun i => decide (0 < g (f i))) = (fun i => decide (0 < f i)) := by
    funext i
    rcases Nat.eq_zero_or_pos (f i) with h | h
    · rw [h, h0]
    · rw [decide_eq_true h, decide_eq_true (hp _ h)]
  rw [e]
  rfl
theorem RT_map {n : Nat} {c f cd g : Nat → Nat} {F : List Fr} {X X' : Tr} (h : RT n c f cd (plug F X)) (h0 : g 0 = 0) (hp : ∀ x, 0 < x → 0 < g x) (hfix : ∀ x, bel x (hpl F 1) = false → g x = x) (hX : ((plc cd X (hpl F 1)).map (fun x => (x.1, g x.2))).Perm (plc cd X' (hpl F 1))) : RT n c (fun i => g (f i)) cd (plug F X') := by
  unfold RT at h ⊢
  rw [rwl_map h0 hp]
  refine (h.map _).trans ?_
  refine ((plc_plug cd X F 1).map _).trans ?_
  refine List.Perm.trans ?_ (plc_plug cd X' F 1).symm
  rw [List.map_append]
  refine List.Perm.append ?_ hX
  refine List.Perm.of_eq ?_
  rw [List.map_congr_left (g := id) (fun x hx => by rw [hfix x.2 (pfr_nb (by omega) x hx)]; rfl), List.map_id]
theorem plug_one (F : List Fr) (f : Fr) (X : Tr) : plug (F ++ [f]) X = plug F (mkf f X) := by rw [plug_app]; rfl
theorem hpl_one (F : List Fr) (f : Fr) (p : Nat) : hpl (F ++ [f]) p = 2 * hpl F p + (if f.2.1 = true then 0 else 1) := by rw [hpl_app]; rfl
theorem RT_l {n : Nat} {c f cd : Nat → Nat} {F : List Fr} {q : Nat} {l r : Tr} (h : RT n c f cd (plug F (.branch q l r))) : cnW n f (2 * hpl F 1) = sz l := by
  have e : plug F (.branch q l r) = plug (F ++ [(q, true, r)]) l := by rw [plug_one]; rfl
  rw [e] at h
  have := RT_hole h
  rwa [hpl_one] at this
theorem RT_r {n : Nat} {c f cd : Nat → Nat} {F : List Fr} {q : Nat} {l r : Tr} (h : RT n c f cd (plug F (.branch q l r))) : cnW n f (2 * hpl F 1 + 1) = sz r := by
  have e : plug F (.branch q l r) = plug (F ++ [(q, false, l)]) r := by rw [plug_one]; rfl
  rw [e] at h
  have := RT_hole h
  rwa [hpl_one] at this
theorem RT_rl {n : Nat} {c f cd : Nat → Nat} {F : List Fr} {q c' : Nat} {l a b : Tr} (h : RT n c f cd (plug F (.branch q l (.branch c' a b)))) : cnW n f (4 * hpl F 1 + 2) = sz a ∧ cnW n f (4 * hpl F 1 + 3) = sz b := by
  have e : plug F (.branch q l (.branch c' a b)) = plug (F ++ [(q, false, l)]) (.branch c' a b) := by rw [plug_one]; rfl
  rw [e] at h
  have h1 := RT_l h
  have h2 := RT_r h
  rw [hpl_one] at h1 h2
  simp only [Bool.false_eq_true, if_false] at h1 h2
  exact ⟨by rw [show 4 * hpl F 1 + 2 = 2 * (2 * hpl F 1 + 1) by omega]; exact h1, by rw [show 4 * hpl F 1 + 3 = 2 * (2 * hpl F 1 + 1) + 1 by omega]; exact h2⟩
theorem RT_ll {n : Nat} {c f cd : Nat → Nat} {F : List Fr} {q c' : Nat} {r a b : Tr} (h : RT n c f cd (plug F (.branch q (.branch c' a b) r))) : cnW n f (4 * hpl F 1) = sz a ∧ cnW n f (4 * hpl F 1 + 1) = sz b := by
  have e : plug F (.branch q (.branch c' a b) r) = plug (F ++ [(q, true, r)]) (.branch c' a b) := by rw [plug_one]; rfl
  rw [e] at h
  have h1 := RT_l h
  have h2 := RT_r h
  rw [hpl_one] at h1 h2
  simp only [if_true, Nat.add_zero] at h1 h2
  exact ⟨by rw [show 4 * hpl F 1 = 2 * (2 * hpl F 1) by omega]; exact h1, by rw [show 4 * hpl F 1 + 1 = 2 * (2 * hpl F 1) + 1 by omega]; exact h2⟩
theorem RT_tL {n : Nat} {c f cd : Nat → Nat} {F : List Fr} {q c' : Nat} {l a b : Tr} (h : RT n c f cd (plug F (.branch q l (.branch c' a b)))) : RT n c (fun i => turnM 1 0 (hpl F 1) (f i)) cd (plug F (.branch c' (.branch q l a) b)) :=
  RT_map h (tm_0 (hpl_pos F (by omega))) (fun x hx => tm_pos (hpl_pos F (by omega)) hx) (fun x hx => tm_else (hpl_pos F (by omega)) rfl hx) (List.Perm.of_eq (plc_turnL cd (hpl_pos F (by omega))))
theorem RT_tR {n : Nat} {c f cd : Nat → Nat} {F : List Fr} {q c' : Nat} {r a b : Tr} (h : RT n c f cd (plug F (.branch q (.branch c' a b) r))) : RT n c (fun i => turnM 0 1 (hpl F 1) (f i)) cd (plug F (.branch c' a (.branch q b r))) :=
  RT_map h (tm_0 (hpl_pos F (by omega))) (fun x hx => tm_pos (hpl_pos F (by omega)) hx) (fun x hx => tm_else (hpl_pos F (by omega)) rfl hx) (List.Perm.of_eq (plc_turnR cd (hpl_pos F (by omega))))
theorem bal_ok {n : Nat} {c tu cd : Nat → Nat} {F : List Fr} {q : Nat} {l r : Tr} (h : RT n c tu cd (plug F (.branch q l r))) : RT n c (balM n tu (hpl F 1)).1 cd (plug F (balT (.branch q l r))) ∧ (balM n tu (hpl F 1)).2 = balN (.branch q l r) := by
  have hl := RT_l h
  have hr := RT_r h
  by_cases c1 : 3 * (sz l + 1) < sz r + 1
  · obtain ⟨c', a, b, rfl⟩ := sz_pos (t := r) (by omega)
    obtain ⟨ha, hb⟩ := RT_rl h
    by_cases c2 : 2 * (sz b + 1) ≤ sz a + 1
    · obtain ⟨e, t1, t2, rfl⟩ := sz_pos (t := a) (by omega)
      have e1 : balM n tu (hpl F 1) = (fun i => turnM 1 0 (hpl F 1) (turnM 0 1 (2 * hpl F 1 + 1) (tu i)), 2) := by
        unfold balM; rw [if_pos (by omega), if_pos (by omega)]
      obtain ⟨b1, b2⟩ := balT_RD (q := q) (c := c') (e := e) (l := l) (t1 := t1) (t2 := t2) (b := b) (by simp only [sz] at c1 ⊢; omega) c2
      rw [e1, b1, b2]
      refine ⟨?_, rfl⟩
      have h2 : RT n c tu cd (plug (F ++ [(q, false, l)]) (.branch c' (.branch e t1 t2) b)) := by rw [plug_one]; exact h
      have h3 := RT_tR h2
      rw [plug_one, hpl_one] at h3
      exact RT_tL h3
    · have e1 : balM n tu (hpl F 1) = (fun i => turnM 1 0 (hpl F 1) (tu i), 1) := by
        unfold balM; rw [if_pos (by omega), if_neg (by omega)]
      obtain ⟨b1, b2⟩ := balT_RS (q := q) (c := c') (l := l) (a := a) (b := b) (by simp only [sz] at c1; omega) c2
      rw [e1, b1, b2]
      exact ⟨RT_tL h, rfl⟩
  · by_cases c3 : 3 * (sz r + 1) < sz l + 1
    · obtain ⟨c', a, b, rfl⟩ := sz_pos (t := l) (by omega)
      obtain ⟨ha, hb⟩ := RT_ll h
      by_cases c2 : 2 * (sz a + 1) ≤ sz b + 1
      · obtain ⟨e, t1, t2, rfl⟩ := sz_pos (t := b) (by omega)
        have e1 : balM n tu (hpl F 1) = (fun i => turnM 0 1 (hpl F 1) (turnM 1 0 (2 * hpl F 1) (tu i)), 2) := by
          unfold balM; rw [if_neg (by omega), if_pos (by omega), if_pos (by omega)]
        obtain ⟨b1, b2⟩ := balT_LD (q := q) (c := c') (e := e) (r := r) (a := a) (t1 := t1) (t2 := t2) (by simp only [sz] at c1 ⊢; omega) (by simp only [sz] at c3 ⊢; omega) c2
        rw [e1, b1, b2]
        refine ⟨?_, rfl⟩
        have h2 : RT n c tu cd (plug (F ++ [(q, true, r)]) (.branch c' a (.branch e t1 t2))) := by rw [plug_one]; exact h
        have h3 := RT_tL h2
        rw [plug_one, hpl_one] at h3
        exact RT_tR h3
      · have e1 : balM n tu (hpl F 1) = (fun i => turnM 0 1 (hpl F 1) (tu i), 1) := by
          unfold balM; rw [if_neg (by omega), if_pos (by omega), if_neg (by omega)]
        obtain ⟨b1, b2⟩ := balT_LS (q := q) (c := c') (r := r) (a := a) (b := b) (by simp only [sz] at c1; omega) (by simp only [sz] at c3; omega) c2
        rw [e1, b1, b2]
        exact ⟨RT_tR h, rfl⟩
    · have e1 : balM n tu (hpl F 1) = (tu, 0) := by unfold balM; rw [if_neg (by omega), if_neg (by omega)]
      rw [e1, balT_b, balN_b, if_neg c1, if_neg c3, if_neg c1, if_neg c3]
      exact ⟨h, rfl⟩
theorem mkf_br (f : Fr) (X : Tr) : ∃ q l r, mkf f X = .branch q l r := by
  obtain ⟨q, b, s⟩ := f
  cases b
  · exact ⟨q, s, X, rfl⟩
  · exact ⟨q, X, s, rfl⟩
theorem RT_lt {n : Nat} {c f cd : Nat → Nat} {A : Tr} {k : Nat} (h : RT n c f cd A) (hk : ht A ≤ k) : ∀ i, i < n → f i < 2 ^ k := fun i hi => by
  rcases Nat.eq_zero_or_pos (f i) with e | e
  · rw [e]; exact Nat.two_pow_pos k
  · have hm : (c i, f i) ∈ rwl n c f := by
      unfold rwl
      exact List.mem_map.mpr ⟨i, List.mem_filter.mpr ⟨List.mem_range.mpr hi, decide_eq_true e⟩, rfl⟩
    have h1 := plc_lt _ (h.mem_iff.mp hm)
    have h0 : 0 < ht A := by
      cases A with
      | leaf _ => have := h.mem_iff.mp hm; simp [plc] at this
      | branch a b c => simp [ht]
    have h2 : (1 + 1) * 2 ^ (ht A - 1) = 2 ^ ht A := by
      rw [show ht A = (ht A - 1) + 1 by omega, Nat.pow_succ, Nat.mul_comm]; rfl
    have h3 : 2 ^ ht A ≤ 2 ^ k := Nat.pow_le_pow_right (by omega) hk
    simp only [] at h1
    omega
theorem bals_ok {n : Nat} {c cd : Nat → Nat} : ∀ (k : Nat) (F : List Fr) (X : Tr) (tu : Nat → Nat) (fu : Nat), F.length = k → k ≤ fu → RT n c tu cd (plug F X) → (∀ F1 F2, F = F1 ++ F2 → ht (plug F1 (balF F2 X)) ≤ 25) → RT n c (balsM n fu tu (hpl F 1 / 2)).1 cd (balF F X) ∧ (balsM n fu tu (hpl F 1 / 2)).2 = balC F X ∧ balOK n fu tu (hpl F 1 / 2)
  | 0, F, X, tu, fu, hF, _, h, _ => by
    have : F = [] := List.eq_nil_of_length_eq_zero hF
    subst this
    rw [show hpl [] 1 / 2 = 0 from rfl, balsM_0]
    refine ⟨h, rfl, ?_⟩
    cases fu with
    | zero => rfl
    | succ fu => exact Or.inl rfl
  | k + 1, F, X, tu, fu, hF, hfu, h, hb => by
    rcases fr_split F with rfl | ⟨F0, g, rfl⟩
    · simp at hF
    · obtain ⟨fv, rfl⟩ : ∃ fv, fu = fv + 1 := ⟨fu - 1, by omega⟩
      have e1 : hpl (F0 ++ [g]) 1 / 2 = hpl F0 1 := by rw [hpl_one]; split <;> omega
      have hp := hpl_pos F0 (p := 1) (by omega)
      obtain ⟨q, l, r, hm⟩ := mkf_br g X
      have h' := h
      rw [plug_one, hm] at h'
      obtain ⟨b1, b2⟩ := bal_ok h'
      rw [← hm] at b1 b2
      obtain ⟨i1, i2, i3⟩ := bals_ok k F0 (balT (mkf g X)) (balM n tu (hpl F0 1)).1 fv (by simp at hF; exact hF) (by omega) b1 (fun F1 F2 e => by
        have h9 := hb F1 (F2 ++ [g]) (by rw [e, List.append_assoc])
        rw [balF_app] at h9
        exact h9)
      rw [e1, balsM_go hp, balF_app, balC_app]
      refine ⟨i1, ?_, Or.inr ⟨RT_lt h (hb (F0 ++ [g]) [] (by simp)), i3⟩⟩
      simp only [balF, balC]
      rw [i2, b2]
      omega
