theorem rwl_mem {n : Nat} {c f : Nat → Nat} {x : Nat × Nat} : x ∈ rwl n c f ↔ ∃ i, i < n ∧ 0 < f i ∧ x = (c i, f i) := by
  unfold rwl
  simp only [List.mem_map, List.mem_filter, List.mem_range, decide_eq_true_eq]
  constructor
  · rintro ⟨i, ⟨h1, h2⟩, rfl⟩
    exact ⟨i, h1, h2, rfl⟩
  · rintro ⟨i, h1, h2, rfl⟩
    exact ⟨i, ⟨h1, h2⟩, rfl⟩
theorem rwl_succ (n : Nat) (c f : Nat → Nat) : rwl (n + 1) c f = rwl n c f ++ (if 0 < f n then [(c n, f n)] else []) := by
  unfold rwl
  rw [List.range_succ, List.filter_append, List.map_append]
  congr 1
  by_cases h : 0 < f n
  · simp [h]
  · simp [h]
theorem rwl_congr {c c' f f' : Nat → Nat} : ∀ {n : Nat}, (∀ i, i < n → c i = c' i ∧ f i = f' i) → rwl n c f = rwl n c' f'
  | 0, _ => rfl
  | n + 1, h => by
    rw [rwl_succ, rwl_succ, rwl_congr (fun i hi => h i (by omega)), (h n (by omega)).1, (h n (by omega)).2]
theorem rwl_add {c f : Nat → Nat} {k p : Nat} (h0 : f k = 0) (hp : 0 < p) : ∀ {n : Nat}, k < n → (rwl n c (x_up f k p)).Perm ((c k, p) :: rwl n c f)
  | 0, h => by omega
  | n + 1, h => by
    rw [rwl_succ, rwl_succ]
    by_cases e : k = n
    · subst e
      rw [x_up_s, if_pos hp, h0, if_neg (by omega), List.append_nil, rwl_congr (c' := c) (f' := f) (fun i hi => ⟨rfl, x_up_n _ _ (by omega)⟩)]
      exact List.perm_append_comm
    · rw [x_up_n _ _ (fun z => e z.symm)]
      exact ((rwl_add h0 hp (n := n) (by omega)).append_right _)
theorem rwl_del {c f : Nat → Nat} {k n : Nat} (hk : k < n) (hp : 0 < f k) : (rwl n c f).Perm ((c k, f k) :: rwl n c (x_up f k 0)) := by
  have h := rwl_add (c := c) (f := x_up f k 0) (k := k) (p := f k) (x_up_s _ _ _) hp hk
  rwa [x_up_up, x_up_id] at h
/-- rows' codes rise -/
def UP (n : Nat) (c : Nat → Nat) : Prop := ∀ i j, i < j → j < n → c i < c j
theorem UP_inj {n : Nat} {c : Nat → Nat} (h : UP n c) {i j : Nat} (hi : i < n) (hj : j < n) (e : c i = c j) : i = j := by
  rcases Nat.lt_trichotomy i j with h1 | h1 | h1
  · have := h i j h1 hj; omega
  · exact h1
  · have := h j i h1 hi; omega
theorem RT_at {n : Nat} {c f cd : Nat → Nat} {A : Tr} (h : RT n c f cd A) (hu : ∀ i j, i < n → j < n → c i = c j → i = j) {k p : Nat} (hk : k < n) (hm : (c k, p) ∈ plc cd A 1) : f k = p ∧ 0 < p := by
  obtain ⟨i, h1, h2, h3⟩ := rwl_mem.mp (h.mem_iff.mpr hm)
  obtain ⟨e1, e2⟩ := Prod.mk.inj h3
  have := hu k i hk h1 e1
  subst this
  exact ⟨e2.symm, by omega⟩
theorem RT_mem {n : Nat} {c f cd : Nat → Nat} {A : Tr} (h : RT n c f cd A) {k : Nat} (hk : k < n) (hp : 0 < f k) : (c k, f k) ∈ plc cd A 1 := h.mem_iff.mp (rwl_mem.mpr ⟨k, hk, hp, rfl⟩)
theorem plc_ino {cd : Nat → Nat} {A : Tr} {p : Nat} {x : Nat × Nat} (h : x ∈ plc cd A p) : ∃ a ∈ ino A, cd a = x.1 := by
  have h1 : x.1 ∈ (plc cd A p).map Prod.fst := List.mem_map.mpr ⟨x, h, rfl⟩
  rw [plc_fst] at h1
  obtain ⟨a, ha, e⟩ := List.mem_map.mp h1
  exact ⟨a, ha, e⟩
theorem ino_plc {cd : Nat → Nat} {A : Tr} {p a : Nat} (h : a ∈ ino A) : ∃ y, (cd a, y) ∈ plc cd A p := by
  have h1 : cd a ∈ (plc cd A p).map Prod.fst := by rw [plc_fst]; exact List.mem_map.mpr ⟨a, h, rfl⟩
  obtain ⟨⟨u, y⟩, hm, e⟩ := List.mem_map.mp h1
  simp only [] at e
  exact ⟨y, by rw [← e]; exact hm⟩
theorem RT_row {n : Nat} {c f cd : Nat → Nat} {A : Tr} (h : RT n c f cd A) {a : Nat} (ha : a ∈ ino A) : ∃ k, k < n ∧ 0 < f k ∧ c k = cd a ∧ (cd a, f k) ∈ plc cd A 1 := by
  obtain ⟨y, hy⟩ := ino_plc (cd := cd) (p := 1) ha
  obtain ⟨k, h1, h2, h3⟩ := rwl_mem.mp (h.mem_iff.mpr hy)
  obtain ⟨e1, e2⟩ := Prod.mk.inj h3
  exact ⟨k, h1, h2, e1.symm, by rw [← e2]; exact hy⟩
theorem hole_root {cd : Nat → Nat} {F : List Fr} {q : Nat} {l r : Tr} : (cd q, hpl F 1) ∈ plc cd (plug F (.branch q l r)) 1 := (plc_plug cd _ F 1).mem_iff.mpr (List.mem_append_right _ (by simp [plc]))
theorem hole_code {cd : Nat → Nat} {F : List Fr} {X : Tr} {x : Nat × Nat} (h : x ∈ plc cd (plug F X) 1) (hb : bel x.2 (hpl F 1) = true) : x ∈ plc cd X (hpl F 1) := by
  rcases List.mem_append.mp ((plc_plug cd X F 1).mem_iff.mp h) with h1 | h1
  · rw [pfr_nb (by omega) x h1] at hb; cases hb
  · exact h1
theorem root_code {cd : Nat → Nat} {q p : Nat} {l r : Tr} {x : Nat × Nat} (hp : 0 < p) (h : x ∈ plc cd (.branch q l r) p) (hx : x.2 = p) : x.1 = cd q := by
  simp only [plc, List.mem_append, List.mem_cons] at h
  rcases h with h | h | h
  · have := bel_ge (plc_bel (by omega) x h); omega
  · rw [h]
  · have := bel_ge (plc_bel (by omega) x h); omega
theorem leaf_ok {n : Nat} {c f cd : Nat → Nat} {cc : Nat} {lt : Nat → Bool} (hlt : ∀ k, k < n → lt k = decide (cc < c k)) : ∀ (X : Tr) (F : List Fr) (fu : Nat), RT n c f cd (plug F X) → (∀ a ∈ ino X, cd a ≠ cc) → ht X < fu → leafW (fun p => lastF (fun i => decide (f i = p)) n) lt fu (hpl F 1) = some (hpl (F ++ fpF cd cc X) 1)
  | .leaf u, F, fu, h, _, hf => by
    obtain ⟨fv, rfl⟩ : ∃ fv, fu = fv + 1 := ⟨fu - 1, by omega⟩
    rw [leafW_none]
    · simp [fpF]
    · refine lastF_none.mpr (fun i hi => decide_eq_false (fun e => ?_))
      have hp := hpl_pos F (p := 1) (by omega)
      have h1 := RT_mem h hi (by omega)
      have h2 := hole_code h1 (by show bel (f i) _ = true; rw [e]; exact bel_self hp)
      simp [plc] at h2
  | .branch q l r, F, fu, h, hn, hf => by
    obtain ⟨fv, rfl⟩ : ∃ fv, fu = fv + 1 := ⟨fu - 1, by omega⟩
    have hp := hpl_pos F (p := 1) (by omega)
    have hq := hn q (by simp [ino])
    have hnd : ∃ k, lastF (fun i => decide (f i = hpl F 1)) n = some k := by
      cases e : lastF (fun i => decide (f i = hpl F 1)) n with
      | some k => exact ⟨k, rfl⟩
      | none =>
        obtain ⟨i, h1, h2, h3⟩ := rwl_mem.mp (h.mem_iff.mpr hole_root)
        obtain ⟨e1, e2⟩ := Prod.mk.inj h3
        have h4 := lastF_none.mp e i h1
        rw [decide_eq_false_iff_not] at h4
        exact absurd e2.symm h4
    obtain ⟨k, hk⟩ := hnd
    obtain ⟨hkn, hkp⟩ := lastF_lt hk
    simp only [decide_eq_true_eq] at hkp
    have hck : c k = cd q := root_code hp (hole_code (RT_mem h hkn (by omega)) (by show bel (f k) _ = true; rw [hkp]; exact bel_self hp)) hkp
    rw [leafW_some (p := hpl F 1) (k := k) hk, hlt k hkn, hck]
    simp only [ht] at hf
    simp only [fpF, if_neg hq]
    by_cases e : cc < cd q
    · rw [if_pos e, if_pos (decide_eq_true e)]
      have h2 : RT n c f cd (plug (F ++ [(q, true, r)]) l) := by rw [plug_one]; exact h
      have := leaf_ok hlt l (F ++ [(q, true, r)]) fv h2 (fun a ha => hn a (by simp [ino, ha])) (by omega)
      rw [hpl_one] at this
      simp only [if_true] at this
      rw [this]
      simp
    · rw [if_neg e, if_neg (by simp [e])]
      have h2 : RT n c f cd (plug (F ++ [(q, false, l)]) r) := by rw [plug_one]; exact h
      have := leaf_ok hlt r (F ++ [(q, false, l)]) fv h2 (fun a ha => hn a (by simp [ino, ha])) (by omega)
      rw [hpl_one] at this
      simp only [Bool.false_eq_true, if_false] at this
      rw [this]
      simp
theorem pfr_cd {cd cd' : Nat → Nat} : ∀ {F : List Fr} {p : Nat}, (∀ a ∈ fad F, cd' a = cd a) → pfr cd' F p = pfr cd F p
  | [], _, _ => rfl
  | f :: F, p, h => by
    simp only [pfr]
    rw [h f.1 (by simp [fad]), plc_cd (fun a ha => h a (by simp [fad, ha])), pfr_cd (F := F) (fun a ha => h a (by simp [fad, ha]))]
/-- a new leaf, in a row that had no place -/
theorem RT_leaf {n : Nat} {c f cd cd' : Nat → Nat} {F : List Fr} {u : Unit} {k v : Nat} (h : RT n c f cd (plug F (.leaf u))) (hk : k < n) (h0 : f k = 0) (hv : cd' v = c k) (hcd : ∀ a ∈ fad F, cd' a = cd a) : RT n c (x_up f k (hpl F 1)) cd' (plug F (.branch v (.leaf ()) (.leaf ()))) := by
  have hp := hpl_pos F (p := 1) (by omega)
  unfold RT at h ⊢
  refine (rwl_add h0 hp hk).trans ?_
  refine List.Perm.trans ?_ (plc_plug cd' _ F 1).symm
  have h1 := h.trans (plc_plug cd _ F 1)
  simp only [plc, List.append_nil] at h1
  simp only [plc, List.nil_append, hv]
  have e : pfr cd' F 1 = pfr cd F 1 := pfr_cd hcd
  rw [e]
  exact (h1.cons _).trans (List.perm_append_singleton _ _).symm
