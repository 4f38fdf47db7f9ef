/-! the questions: both sides' answers -/
theorem sfind_at {od : Nat → Nat → Nat} {cd : Nat → Nat} {c : Nat} : ∀ {A : Tr} {d a : Nat}, sfind od cd c A d = some a → cd a = c ∧ ∃ F l r, A = plug F (.branch a l r) ∧ F.length + 1 = (spath od cd c A d).length
  | .leaf _, d, a, h => by cases h
  | .branch q l r, d, a, h => by
    simp only [sfind] at h
    simp only [spath]
    split at h
    · rename_i e
      cases h
      exact ⟨e, [], l, r, rfl, by rw [if_pos e]; rfl⟩
    · rename_i e
      rw [if_neg e]
      split at h
      · rename_i e2
        obtain ⟨h1, F, l2, r2, h3, h4⟩ := sfind_at h
        exact ⟨h1, (q, true, r) :: F, l2, r2, by rw [h3]; rfl, by rw [if_pos e2]; simp [h4]⟩
      · rename_i e2
        obtain ⟨h1, F, l2, r2, h3, h4⟩ := sfind_at h
        exact ⟨h1, (q, false, l) :: F, l2, r2, by rw [h3]; rfl, by rw [if_neg e2]; simp [h4]⟩
theorem sfind_of {od : Nat → Nat → Nat} {cd : Nat → Nat} {c : Nat} : ∀ {A : Tr} {d a : Nat}, BSF od cd A d → a ∈ ino A → cd a = c → sfind od cd c A d = some a
  | .leaf _, d, a, _, h, _ => by simp [ino] at h
  | .branch q l r, d, a, hb, h, hc => by
    obtain ⟨h1, h2, h3, h4⟩ := hb
    simp only [ino, List.mem_append, List.mem_cons] at h
    simp only [sfind]
    rcases h with h | rfl | h
    · have h9 := h1 a h
      rw [hc] at h9
      rw [if_neg (fun e => by rw [e] at h9; omega), if_pos h9]
      exact sfind_of h3 h hc
    · rw [if_pos hc]
    · have h9 := h2 a h
      rw [hc] at h9
      rw [if_neg (fun e => by rw [e] at h9; omega), if_neg (by omega)]
      exact sfind_of h4 h hc
theorem sfind_no {od : Nat → Nat → Nat} {cd : Nat → Nat} {c : Nat} {A : Tr} {d : Nat} (hn : ∀ a ∈ ino A, cd a ≠ c) : sfind od cd c A d = none := by
  cases e : sfind od cd c A d with
  | none => rfl
  | some a => exact absurd (sfind_at e).1 (hn a (sfind_mem _ _ _ _ _ _ e))
theorem SRT_BSF {cd : Nat → Nat} : ∀ {A : Tr} {d : Nat}, SRT cd A → BSF od1 cd A d
  | .leaf _, _, _ => trivial
  | .branch q l r, d, h => by
    obtain ⟨h1, h2, h3, h4⟩ := SRT_b.mp h
    exact ⟨h3, h4, SRT_BSF h1, SRT_BSF h2⟩
/-- a node's depth and weight -/
theorem RT_found {n : Nat} {c f cd : Nat → Nat} {A : Tr} {od : Nat → Nat → Nat} {cc a k : Nat} (h : RT n c f cd A) (hu : ∀ i j, i < n → j < n → c i = c j → i = j) (hf : sfind od cd cc A 0 = some a) (hk : k < n) (hck : c k = cc) : ∃ F l r, A = plug F (.branch a l r) ∧ (spath od cd cc A 0).length = dep (f k) + 1 ∧ cnW n f (f k) = sz (.branch a l r : Tr) ∧ 0 < f k := by
  obtain ⟨h1, F, l, r, h2, h3⟩ := sfind_at hf
  have h4 : (c k, hpl F 1) ∈ plc cd A 1 := by rw [hck, ← h1, h2]; exact hole_root
  obtain ⟨h5, h6⟩ := RT_at h hu hk h4
  refine ⟨F, l, r, h2, ?_, ?_, by omega⟩
  · rw [h5, hpl_dep F (by omega), dep_one]; omega
  · rw [h5]
    rw [h2] at h
    exact RT_hole h
theorem plc_deep {cd : Nat → Nat} : ∀ {T : Tr} {p : Nat}, 0 < p → 0 < ht T → ∃ x ∈ plc cd T p, dep x.2 + 1 = dep p + ht T
  | .leaf _, p, _, h => by simp [ht] at h
  | .branch q l r, p, hp, _ => by
    simp only [ht, plc]
    have hd0 := dep_2 (e := 0) hp (by omega)
    have hd1 := dep_2 (e := 1) hp (by omega)
    simp only [Nat.add_zero] at hd0
    by_cases e0 : max (ht l) (ht r) = 0
    · exact ⟨(cd q, p), by simp, by simp only []; omega⟩
    · by_cases e : ht r ≤ ht l
      · obtain ⟨x, hx, h1⟩ := plc_deep (cd := cd) (T := l) (p := 2 * p) (by omega) (by omega)
        exact ⟨x, List.mem_append_left _ hx, by omega⟩
      · obtain ⟨x, hx, h1⟩ := plc_deep (cd := cd) (T := r) (p := 2 * p + 1) (by omega) (by omega)
        exact ⟨x, List.mem_append_right _ (List.mem_cons_of_mem _ hx), by omega⟩
theorem hmx_ge {f : Nat → Nat} : ∀ {n i : Nat}, i < n → dep (f i) + 1 ≤ hmx f n
  | 0, i, h => by omega
  | n + 1, i, h => by
    simp only [hmx]
    by_cases e : i = n
    · subst e; omega
    · have := hmx_ge (f := f) (n := n) (i := i) (by omega); omega
theorem RT_hmx {n : Nat} {c f cd : Nat → Nat} {A : Tr} (h : RT n c f cd A) (hp : ∀ i, i < n → 0 < f i) : hmx f n = ht A := by
  refine Nat.le_antisymm (hmx_le (fun i hi => ?_)) ?_
  · have := plc_dep (p := 1) (by omega) (RT_mem h hi (hp i hi))
    simp only [dep_one] at this
    omega
  · rcases Nat.eq_zero_or_pos (ht A) with e | e
    · omega
    · obtain ⟨x, hx, h1⟩ := plc_deep (cd := cd) (p := 1) (by omega) e
      obtain ⟨i, i1, i2, rfl⟩ := rwl_mem.mp (h.mem_iff.mpr hx)
      have := hmx_ge (f := f) i1
      simp only [dep_one] at h1
      omega
theorem smd_sum {f : Nat → Nat} : ∀ n : Nat, smd f n = ((List.range n).map (fun i => dep (f i))).sum
  | 0 => rfl
  | n + 1 => by
    rw [List.range_succ, List.map_append, List.sum_append, ← smd_sum n]
    simp [smd]
theorem plc_sum {cd : Nat → Nat} : ∀ {A : Tr} {p : Nat}, 0 < p → ((plc cd A p).map (fun x => dep x.2)).sum = sumd A (dep p)
  | .leaf _, p, _ => rfl
  | .branch q l r, p, hp => by
    have hd0 := dep_2 (e := 0) hp (by omega)
    have hd1 := dep_2 (e := 1) hp (by omega)
    simp only [Nat.add_zero] at hd0
    simp only [plc, List.map_append, List.map_cons, List.sum_append, List.sum_cons, sumd]
    rw [plc_sum (A := l) (by omega), plc_sum (A := r) (by omega), hd0, hd1]
    omega
theorem RT_smd {n : Nat} {c f cd : Nat → Nat} {A : Tr} (h : RT n c f cd A) (hp : ∀ i, i < n → 0 < f i) : smd f n = sumd A 0 := by
  have h1 := plc_sum (cd := cd) (A := A) (p := 1) (by omega)
  rw [dep_one] at h1
  rw [← h1, smd_sum]
  have h2 := (h.map (fun x => dep x.2)).sum_nat
  rw [← h2]
  unfold rwl
  rw [List.filter_eq_self.mpr (fun i hi => decide_eq_true (hp i (List.mem_range.mp hi))), List.map_map]
  rfl
theorem RT_root {n : Nat} {c f cd : Nat → Nat} {q : Nat} {l r : Tr} (h : RT n c f cd (.branch q l r)) : ∃ k, lastF (fun i => decide (f i = 1)) n = some k ∧ c k = cd q ∧ k < n := by
  have h0 : RT n c f cd (plug [] (.branch q l r)) := h
  obtain ⟨k, hk⟩ : ∃ k, lastF (fun i => decide (f i = 1)) n = some k := by
    cases e : lastF (fun i => decide (f i = 1)) n with
    | some k => exact ⟨k, rfl⟩
    | none =>
      obtain ⟨i, h1, h2, h3⟩ := rwl_mem.mp (h0.mem_iff.mpr hole_root)
      obtain ⟨e1, e2⟩ := Prod.mk.inj h3
      have h4 := lastF_none.mp e i h1
      rw [decide_eq_false_iff_not] at h4
      exact absurd e2.symm h4
  obtain ⟨hkn, hkp⟩ := lastF_lt hk
  simp only [decide_eq_true_eq] at hkp
  exact ⟨k, hk, root_code (p := 1) (by omega) (RT_mem h hkn (by omega)) hkp, hkn⟩
theorem RT_root0 {n : Nat} {c f cd : Nat → Nat} {u : Unit} (h : RT n c f cd (.leaf u)) : lastF (fun i => decide (f i = 1)) n = none := by
  refine lastF_none.mpr (fun i hi => decide_eq_false (fun e => ?_))
  have h1 := RT_mem h hi (by omega)
  simp [plc] at h1
/-- counting over the tree's nodes and over the rows -/
theorem RT_count {n : Nat} {c f cd : Nat → Nat} {A : Tr} {P Q : Nat → Bool} (h : RT n c f cd A) (hp : ∀ i, i < n → 0 < f i) (hu : ∀ i j, i < n → j < n → c i = c j → i = j) (hPQ : ∀ i, i < n → ∀ a ∈ ino A, cd a = c i → P a = Q i) : (ino A).countP P = cn Q n := by
  obtain ⟨R, eR⟩ : ∃ R : Nat → Bool, R = fun x => ((lastF (fun i => decide (c i = x)) n).map Q).getD false := ⟨_, rfl⟩
  have hl : ∀ k, k < n → lastF (fun i => decide (c i = c k)) n = some k := fun k hk => lastF_uniq hk (by simp) (fun i hi e => hu i k hi hk (by simpa using e))
  have h1 : (ino A).countP P = ((ino A).map cd).countP R := by
    rw [List.countP_map]
    refine List.countP_congr (fun a ha => ?_)
    obtain ⟨k, k1, k2, k3, -⟩ := RT_row h ha
    rw [hPQ k k1 a ha k3.symm, eR]
    simp only [Function.comp]
    rw [← k3, hl k k1]; rfl
  rw [h1, (RT_codes h hp).countP_eq, List.countP_map, cn_countP]
  refine List.countP_congr (fun i hi => ?_)
  rw [eR]
  simp only [Function.comp]
  rw [hl i (List.mem_range.mp hi)]; rfl
/-! the nearest one -/
def LEX (x y a b : Nat) : Prop := far x y a < far x y b ∨ far x y a = far x y b ∧ a ≤ b
theorem nrS_fold {x y : Nat} : ∀ (L : List Nat) (b : Nat), ∃ m, L.foldl (nrS x y) (some b, far x y b) = (some m, far x y m) ∧ (m = b ∨ m ∈ L) ∧ LEX x y m b ∧ ∀ c ∈ L, LEX x y m c
  | [], b => ⟨b, rfl, Or.inl rfl, Or.inr ⟨rfl, Nat.le_refl _⟩, fun c hc => by simp at hc⟩
  | c :: L, b => by
    simp only [List.foldl_cons]
    by_cases e : far x y c < far x y b ∨ far x y c = far x y b ∧ c < b
    · have e1 : nrS x y (some b, far x y b) c = (some c, far x y c) := by simp only [nrS, if_pos e]
      rw [e1]
      obtain ⟨m, h1, h2, h3, h4⟩ := nrS_fold (x := x) (y := y) L c
      refine ⟨m, h1, ?_, ?_, fun d hd => ?_⟩
      · rcases h2 with h2 | h2
        · exact Or.inr (by simp [h2])
        · exact Or.inr (by simp [h2])
      · unfold LEX at h3 ⊢; omega
      · rcases List.mem_cons.mp hd with rfl | hd
        · exact h3
        · exact h4 d hd
    · have e1 : nrS x y (some b, far x y b) c = (some b, far x y b) := by simp only [nrS, if_neg e]
      rw [e1]
      obtain ⟨m, h1, h2, h3, h4⟩ := nrS_fold (x := x) (y := y) L b
      refine ⟨m, h1, ?_, h3, fun d hd => ?_⟩
      · rcases h2 with h2 | h2
        · exact Or.inl h2
        · exact Or.inr (by simp [h2])
      · rcases List.mem_cons.mp hd with rfl | hd
        · unfold LEX at h3 ⊢; omega
        · exact h4 d hd
theorem nrM_ok {pc : Nat → Nat} {pa : Nat → Bool} {x y : Nat} (hx : x < 100) (hy : y < 100) : ∀ {n : Nat}, (∀ i, i < n → pc i < 10000) → (nrM pc pa x y n = (0, 1000000) ∧ ∀ i, i < n → pa i = false) ∨ ∃ k, k < n ∧ pa k = true ∧ nrM pc pa x y n = (pc k, far x y (pc k)) ∧ ∀ i, i < n → pa i = true → LEX x y (pc k) (pc i)
  | 0, _ => Or.inl ⟨rfl, fun i hi => by omega⟩
  | n + 1, h => by
    have h9 := far_lt hx hy (h n (by omega))
    simp only [nrM]
    rcases nrM_ok (pa := pa) hx hy (n := n) (fun i hi => h i (by omega)) with ⟨h1, h2⟩ | ⟨k, h1, h2, h3, h4⟩
    · rw [h1]
      simp only []
      by_cases e : pa n = true
      · rw [if_pos ⟨e, Or.inl (by omega)⟩]
        refine Or.inr ⟨n, by omega, e, rfl, fun i hi hp => ?_⟩
        by_cases ei : i = n
        · subst ei; exact Or.inr ⟨rfl, Nat.le_refl _⟩
        · rw [h2 i (by omega)] at hp; cases hp
      · rw [if_neg (fun z => e z.1)]
        refine Or.inl ⟨rfl, fun i hi => ?_⟩
        by_cases ei : i = n
        · subst ei; simpa using e
        · exact h2 i (by omega)
    · rw [h3]
      simp only []
      by_cases e : pa n = true ∧ (far x y (pc n) < far x y (pc k) ∨ far x y (pc n) = far x y (pc k) ∧ pc n < pc k)
      · rw [if_pos e]
        refine Or.inr ⟨n, by omega, e.1, rfl, fun i hi hp => ?_⟩
        by_cases ei : i = n
        · subst ei; exact Or.inr ⟨rfl, Nat.le_refl _⟩
        · have h5 := h4 i (by omega) hp
          have h6 := e.2
          unfold LEX at h5 ⊢; omega
      · rw [if_neg e]
        refine Or.inr ⟨k, by omega, h2, rfl, fun i hi hp => ?_⟩
        by_cases ei : i = n
        · subst ei
          have h6 : ¬ (far x y (pc i) < far x y (pc k) ∨ far x y (pc i) = far x y (pc k) ∧ pc i < pc k) := fun z => e ⟨hp, z⟩
          unfold LEX; omega
        · exact h4 i (by omega) hp
theorem PI_near {n : Nat} {pc ps cd : Nat → Nat} {A : Tr} {pa p : Nat → Bool} {x y : Nat} (h : PI n pc ps cd A) (hx : x < 100) (hy : y < 100) (hal : ∀ i, i < n → ∀ a ∈ ino A, cd a = pc i → p a = pa i) :
    (cn pa n = 0 ∧ ((((ino A).filter p).map cd).foldl (nrS x y) (none, 0)).1 = none) ∨ (0 < cn pa n ∧ ((((ino A).filter p).map cd).foldl (nrS x y) (none, 0)).1 = some (nrM pc pa x y n).1) := by
  obtain ⟨hR, hB, hnd, hu, hsp, hbal, hpc⟩ := h
  have hmem : ∀ c, c ∈ ((ino A).filter p).map cd ↔ ∃ i, i < n ∧ pa i = true ∧ pc i = c := fun c => by
    constructor
    · intro hc
      obtain ⟨a, ha, rfl⟩ := List.mem_map.mp hc
      obtain ⟨h1, h2⟩ := List.mem_filter.mp ha
      obtain ⟨k, k1, k2, k3, -⟩ := RT_row hR h1
      exact ⟨k, k1, by rw [← hal k k1 a h1 k3.symm]; exact h2, k3⟩
    · rintro ⟨i, h1, h2, rfl⟩
      obtain ⟨a, ha, e⟩ := (RT_pos hR hu h1).mp (hsp i h1)
      exact List.mem_map.mpr ⟨a, List.mem_filter.mpr ⟨ha, by rw [hal i h1 a ha e]; exact h2⟩, e⟩
  cases hL : ((ino A).filter p).map cd with
  | nil =>
    left
    refine ⟨?_, rfl⟩
    rw [cn_congr (q := fun _ => false) (fun i hi => ?_)]
    · exact cn_false n
    · cases e : pa i with
      | false => rfl
      | true =>
        have := (hmem (pc i)).mpr ⟨i, hi, e, rfl⟩
        rw [hL] at this; simp at this
  | cons b L =>
    right
    obtain ⟨m, h1, h2, h3, h4⟩ := nrS_fold (x := x) (y := y) L b
    have hmm : m ∈ ((ino A).filter p).map cd := by
      rw [hL]
      rcases h2 with h2 | h2
      · simp [h2]
      · simp [h2]
    obtain ⟨i, i1, i2, i3⟩ := (hmem m).mp hmm
    have hpos : 0 < cn pa n := by
      have h5 := cn_mono pa (n := n) (k := i + 1) (by omega)
      simp only [cn, i2, if_true] at h5
      omega
    refine ⟨hpos, ?_⟩
    simp only [List.foldl_cons, nrS_none]
    rw [h1]
    rcases nrM_ok (pa := pa) hx hy hpc with ⟨h5, h6⟩ | ⟨k, k1, k2, k3, k4⟩
    · rw [h6 i i1] at i2; cases i2
    · rw [k3]
      simp only [Option.some.injEq]
      have h7 := k4 i i1 i2
      have h8 : LEX x y m (pc k) := by
        have h9 := (hmem (pc k)).mpr ⟨k, k1, k2, rfl⟩
        rw [hL] at h9
        rcases List.mem_cons.mp h9 with e | e
        · rw [e]; exact h3
        · exact h4 _ e
      rw [i3] at h7
      unfold LEX at h7 h8
      omega
/-! entries: ranks, places, the n-th -/
theorem EI_filc {n : Nat} {c : Nat → Nat} {al : Nat → Bool} {pt cd : Nat → Nat} {av : Nat → Bool} {pr : Nat → Nat} {lst : List Nat} (h : EI n c al pt cd av pr lst) {f g : Nat → Bool} (hfg : ∀ i a, i < n → lst[i]? = some a → f a = g i) : (lst.filter f).map cd = (List.range (cn g n)).map (fun j => c (selF g n j)) := by
  rw [sel_list c n]
  have h1 : lst.map (fun a => (f a, cd a)) = (List.range n).map (fun i => (g i, c i)) := by
    refine List.ext_getElem? (fun i => ?_)
    by_cases hi : i < n
    · obtain ⟨a, a1, a2, a3, -⟩ := EI_at h hi
      rw [List.getElem?_map, a1, List.getElem?_map, List.getElem?_range hi]
      simp only [Option.map_some]
      rw [hfg i a hi a1, a3]
    · rw [List.getElem?_eq_none (by rw [List.length_map, EI_len h]; omega), List.getElem?_eq_none (by simp; omega)]
  have h2 := congrArg (fun l => (List.filter (fun x : Bool × Nat => x.1) l).map Prod.snd) h1
  simp only [List.filter_map, List.map_map] at h2
  exact h2
theorem EI_nth {n : Nat} {c : Nat → Nat} {al : Nat → Bool} {pt cd : Nat → Nat} {av : Nat → Bool} {pr : Nat → Nat} {lst : List Nat} (h : EI n c al pt cd av pr lst) {f g : Nat → Bool} (hfg : ∀ i a, i < n → lst[i]? = some a → f a = g i) {j : Nat} (hj : j < 2 ^ 31) : (j < cn g n → ∃ a, nths f (nI j) lst 0 = some a ∧ a ∈ lst ∧ cd a = c (selF g n j)) ∧ (cn g n ≤ j → nths f (nI j) lst 0 = none) := by
  have h1 := EI_filc h hfg
  rw [nths_fil f hj lst 0 (Nat.zero_le _), Nat.sub_zero]
  have hl : (lst.filter f).length = cn g n := by
    have := congrArg List.length h1
    simpa using this
  refine ⟨fun hlt => ?_, fun hge => List.getElem?_eq_none (by omega)⟩
  have h2 : j < (lst.filter f).length := by omega
  refine ⟨(lst.filter f)[j], List.getElem?_eq_getElem h2, (List.mem_filter.mp (List.getElem_mem h2)).1, ?_⟩
  have h3 := congrArg (fun l => l[j]?) h1
  rw [List.getElem?_map, List.getElem?_eq_getElem h2, List.getElem?_map, List.getElem?_range hlt] at h3
  simpa using h3
theorem nths_out {g : Nat → Bool} {x : Int32} : ∀ (l : List Nat) (s : Nat), (∀ t, s ≤ t → t < s + l.length → ¬ nI t = x) → nths g x l s = none
  | [], s, _ => rfl
  | a :: l, s, h => by
    simp only [nths]
    split
    · rw [if_neg (h s (Nat.le_refl _) (by simp)), nths_out l (s + 1) (fun t h1 h2 => h t (by omega) (by simp; omega))]
    · exact nths_out l s (fun t h1 h2 => h t (by omega) (by simp; omega))
