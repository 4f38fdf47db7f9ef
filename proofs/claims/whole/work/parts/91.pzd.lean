/-! the tree of points and the model's rows -/
theorem nodup_map_inj {cd : Nat → Nat} {l : List Nat} (h : (l.map cd).Nodup) {u v : Nat} (hu : u ∈ l) (hv : v ∈ l) (e : cd u = cd v) : u = v := by
  obtain ⟨i, hi⟩ := List.getElem?_of_mem hu
  obtain ⟨j, hj⟩ := List.getElem?_of_mem hv
  obtain ⟨hi1, hi2⟩ := List.getElem?_eq_some_iff.mp hi
  obtain ⟨hj1, hj2⟩ := List.getElem?_eq_some_iff.mp hj
  have key := List.pairwise_iff_getElem.mp h
  rcases Nat.lt_trichotomy i j with h1 | h1 | h1
  · have := key i j (by simpa using hi1) (by simpa using hj1) h1
    simp only [List.getElem_map, hi2, hj2] at this
    exact absurd e this
  · subst h1
    rw [← hi2, ← hj2]
  · have := key j i (by simpa using hj1) (by simpa using hi1) h1
    simp only [List.getElem_map, hi2, hj2] at this
    exact absurd e.symm this
theorem inj_nodup {n : Nat} {c : Nat → Nat} (h : ∀ i j, i < n → j < n → c i = c j → i = j) : ((List.range n).map c).Nodup := by
  unfold List.Nodup
  rw [List.pairwise_map]
  refine List.Pairwise.imp_of_mem (fun {a b} ha hb hab => ?_) List.nodup_range
  exact fun e => hab (h a b (List.mem_range.mp ha) (List.mem_range.mp hb) e)
theorem RT_codes {n : Nat} {c f cd : Nat → Nat} {A : Tr} (h : RT n c f cd A) (hp : ∀ i, i < n → 0 < f i) : ((ino A).map cd).Perm ((List.range n).map c) := by
  have h1 := h.map Prod.fst
  rw [plc_fst] at h1
  have h2 : (rwl n c f).map Prod.fst = (List.range n).map c := by
    unfold rwl
    rw [List.filter_eq_self.mpr (fun i hi => decide_eq_true (hp i (List.mem_range.mp hi))), List.map_map]
    rfl
  rw [h2] at h1
  exact h1.symm
theorem RT_exists {n : Nat} {c cd : Nat → Nat} {A : Tr} (h : ((ino A).map cd).Perm ((List.range n).map c)) (hu : ∀ i j, i < n → j < n → c i = c j → i = j) : ∃ f, RT n c f cd A ∧ ∀ i, i < n → 0 < f i := by
  have hnd : ((plc cd A 1).map Prod.fst).Nodup := by
    rw [plc_fst]
    exact h.nodup_iff.mpr (inj_nodup hu)
  have hex : ∀ i, ∃ y, i < n → (c i, y) ∈ plc cd A 1 := fun i => by
    by_cases hi : i < n
    · have h1 : c i ∈ (plc cd A 1).map Prod.fst := by
        rw [plc_fst]
        exact h.mem_iff.mpr (List.mem_map.mpr ⟨i, List.mem_range.mpr hi, rfl⟩)
      obtain ⟨⟨u, y⟩, hm, e⟩ := List.mem_map.mp h1
      simp only [] at e
      exact ⟨y, fun _ => by rw [← e]; exact hm⟩
    · exact ⟨0, fun z => absurd z hi⟩
  obtain ⟨f, hf⟩ : ∃ f : Nat → Nat, ∀ i, i < n → (c i, f i) ∈ plc cd A 1 := ⟨fun i => Classical.choose (hex i), fun i => Classical.choose_spec (hex i)⟩
  have hpos : ∀ i, i < n → 0 < f i := fun i hi => plc_pos (by omega) _ (hf i hi)
  refine ⟨f, ?_, hpos⟩
  unfold RT
  refine (List.perm_ext_iff_of_nodup ?_ ?_).mpr (fun x => ?_)
  · have h1 : ((rwl n c f).map Prod.fst).Nodup := by
      have h2 : (rwl n c f).map Prod.fst = (List.range n).map c := by
        unfold rwl
        rw [List.filter_eq_self.mpr (fun i hi => decide_eq_true (hpos i (List.mem_range.mp hi))), List.map_map]
        rfl
      rw [h2]; exact inj_nodup hu
    unfold List.Nodup at h1 ⊢
    rw [List.pairwise_map] at h1
    exact h1.imp (fun hab e => hab (by rw [e]))
  · unfold List.Nodup at hnd ⊢
    rw [List.pairwise_map] at hnd
    exact hnd.imp (fun hab e => hab (by rw [e]))
  · rw [rwl_mem]
    constructor
    · rintro ⟨i, h1, h2, rfl⟩
      exact hf i h1
    · intro hx
      have h1 : x.1 ∈ (plc cd A 1).map Prod.fst := List.mem_map.mpr ⟨x, hx, rfl⟩
      rw [plc_fst] at h1
      obtain ⟨i, hi, e⟩ := List.mem_map.mp (h.mem_iff.mp h1)
      have hin := List.mem_range.mp hi
      refine ⟨i, hin, hpos i hin, ?_⟩
      have h2 := hf i hin
      obtain ⟨j, hj⟩ := List.getElem?_of_mem hx
      obtain ⟨k, hk⟩ := List.getElem?_of_mem h2
      obtain ⟨hj1, hj2⟩ := List.getElem?_eq_some_iff.mp hj
      obtain ⟨hk1, hk2⟩ := List.getElem?_eq_some_iff.mp hk
      have key := List.pairwise_iff_getElem.mp hnd
      rcases Nat.lt_trichotomy j k with h3 | h3 | h3
      · have := key j k (by simpa using hj1) (by simpa using hk1) h3
        simp only [List.getElem_map, hj2, hk2] at this
        exact absurd e.symm this
      · subst h3
        rw [← hj2, ← hk2]
      · have := key k j (by simpa using hk1) (by simpa using hj1) h3
        simp only [List.getElem_map, hj2, hk2] at this
        exact absurd e this
/-! no child has more than two thirds -/
def PBAL : Tr → Prop
  | .leaf _ => True
  | .branch _ l r => 3 * max (sz l) (sz r) ≤ 2 * (sz l + 1 + sz r) ∧ PBAL l ∧ PBAL r
theorem HALF_PBAL : ∀ {A : Tr}, HALF A → PBAL A
  | .leaf _, _ => trivial
  | .branch q l r, h => ⟨by have := h.1; omega, HALF_PBAL h.2.1, HALF_PBAL h.2.2⟩
theorem PBAL_ht : ∀ {A : Tr} {k : Nat}, PBAL A → 2 ^ k * sz A < 3 ^ k → ht A ≤ k
  | .leaf _, k, _, _ => Nat.zero_le _
  | .branch q l r, 0, _, h => by simp only [sz] at h; omega
  | .branch q l r, k + 1, h, h2 => by
    obtain ⟨h3, h4, h5⟩ := h
    have key : ∀ s, 3 * s ≤ 2 * (sz l + 1 + sz r) → 2 ^ k * s < 3 ^ k := fun s hs => by
      have e1 : 2 ^ (k + 1) * sz (.branch q l r : Tr) = 2 ^ k * (2 * (sz l + 1 + sz r)) := by
        simp only [sz]
        rw [Nat.pow_succ, Nat.mul_assoc]
        congr 2; omega
      rw [e1, Nat.pow_succ] at h2
      have h6 : 2 ^ k * (3 * s) ≤ 2 ^ k * (2 * (sz l + 1 + sz r)) := Nat.mul_le_mul_left _ hs
      have h7 : 2 ^ k * (3 * s) = 2 ^ k * s * 3 := by rw [Nat.mul_comm 3 s, Nat.mul_assoc]
      omega
    have a1 := PBAL_ht (k := k) h4 (key _ (by omega))
    have a2 := PBAL_ht (k := k) h5 (key _ (by omega))
    simp only [ht]; omega
def lite (t : Tr) : Prop := 3 * max (sz (ltr t)) (sz (rtr t)) ≤ 2 * sz t
theorem PBAL_plug : ∀ {F : List Fr} {X0 X : Tr}, PBAL (plug F X0) → PBAL X → (∀ i, i < F.length → lite (plug (F.drop i) X)) → PBAL (plug F X)
  | [], X0, X, _, h, _ => h
  | (q, b, s) :: F, X0, X, h0, h, hl => by
    have h1 := hl 0 (by simp)
    have ih := fun h9 => PBAL_plug (F := F) (X0 := X0) (X := X) h9 h (fun i hi => hl (i + 1) (by simpa using hi))
    cases b with
    | true =>
      have h1 : lite (.branch q (plug F X) s) := h1
      unfold lite at h1
      simp only [ltr, rtr, sz] at h1
      refine ⟨?_, ih h0.2.1, h0.2.2⟩
      show 3 * max (sz (plug F X)) (sz s) ≤ 2 * (sz (plug F X) + 1 + sz s)
      omega
    | false =>
      have h1 : lite (.branch q s (plug F X)) := h1
      unfold lite at h1
      simp only [ltr, rtr, sz] at h1
      refine ⟨?_, h0.2.1, ih h0.2.2⟩
      show 3 * max (sz s) (sz (plug F X)) ≤ 2 * (sz s + 1 + sz (plug F X))
      omega
theorem lite_sz {X X' : Tr} (hs : sz X' = sz X) : ∀ {G : List Fr}, G ≠ [] → lite (plug G X) → lite (plug G X')
  | [], h, _ => absurd rfl h
  | (q, b, s) :: G, _, h => by
    have e : sz (plug G X') = sz (plug G X) := by rw [sz_plug, sz_plug, hs]
    cases b with
    | true =>
      have h : lite (.branch q (plug G X) s) := h
      show lite (.branch q (plug G X') s)
      unfold lite at h ⊢
      simp only [ltr, rtr, sz] at h ⊢
      rw [e]; exact h
    | false =>
      have h : lite (.branch q s (plug G X)) := h
      show lite (.branch q s (plug G X'))
      unfold lite at h ⊢
      simp only [ltr, rtr, sz] at h ⊢
      rw [e]; exact h
theorem BSF_cd {od : Nat → Nat → Nat} {cd cd' : Nat → Nat} : ∀ {A : Tr} {d : Nat}, BSF od cd A d → (∀ a ∈ ino A, cd' a = cd a) → BSF od cd' A d
  | .leaf _, _, _, _ => trivial
  | .branch q l r, d, h, hc => by
    have hq := hc q (by simp [ino])
    have hl : ∀ a ∈ ino l, cd' a = cd a := fun a ha => hc a (by simp [ino, ha])
    have hr : ∀ a ∈ ino r, cd' a = cd a := fun a ha => hc a (by simp [ino, ha])
    exact ⟨fun a ha => by rw [hq, hl a ha]; exact h.1 a ha, fun a ha => by rw [hq, hr a ha]; exact h.2.1 a ha, BSF_cd h.2.2.1 hl, BSF_cd h.2.2.2 hr⟩
theorem BSF_sub {od : Nat → Nat → Nat} {cd : Nat → Nat} {S T : Tr} (hc : ∀ a ∈ ino T, ∃ b ∈ ino S, cd a = cd b) : ∀ {F : List Fr} {d : Nat}, BSF od cd (plug F S) d → BSF od cd T (d + F.length) → BSF od cd (plug F T) d
  | [], d, _, h => h
  | (q, b, s) :: F, d, h0, h => by
    have e : d + ((q, b, s) :: F).length = d + 1 + F.length := by rw [List.length_cons]; omega
    rw [e] at h
    have hm : ∀ a ∈ ino (plug F T), ∃ b ∈ ino (plug F S), cd a = cd b := fun a ha => by
      rcases List.mem_append.mp ((plug_ino F T).mem_iff.mp ha) with h1 | h1
      · exact ⟨a, (plug_ino F S).mem_iff.mpr (List.mem_append_left _ h1), rfl⟩
      · obtain ⟨b, hb, e⟩ := hc a h1
        exact ⟨b, (plug_ino F S).mem_iff.mpr (List.mem_append_right _ hb), e⟩
    cases b with
    | true =>
      obtain ⟨h1, h2, h3, h4⟩ := h0
      exact ⟨fun a ha => by obtain ⟨b, hb, e⟩ := hm a ha; rw [e]; exact h1 b hb, h2, BSF_sub hc h3 h, h4⟩
    | false =>
      obtain ⟨h1, h2, h3, h4⟩ := h0
      exact ⟨h1, fun a ha => by obtain ⟨b, hb, e⟩ := hm a ha; rw [e]; exact h2 b hb, h3, BSF_sub hc h4 h⟩
theorem BSF_ins {od : Nat → Nat → Nat} {cd cd' : Nat → Nat} {c v : Nat} (hv : cd' v = c) : ∀ {A : Tr} {d : Nat}, BSF od cd A d → (∀ a ∈ ino A, cd' a = cd a) → (∀ a ∈ ino A, ∀ d, od d (cd a) ≠ od d c) → BSF od cd' (insA od cd c v A d) d
  | .leaf _, d, _, _, _ => ⟨fun a ha => by simp [ino] at ha, fun a ha => by simp [ino] at ha, trivial, trivial⟩
  | .branch q l r, d, h, hc, hne => by
    have hq := hc q (by simp [ino])
    have hl : ∀ a ∈ ino l, cd' a = cd a := fun a ha => hc a (by simp [ino, ha])
    have hr : ∀ a ∈ ino r, cd' a = cd a := fun a ha => hc a (by simp [ino, ha])
    have h9 := hne q (by simp [ino]) d
    obtain ⟨h1, h2, h3, h4⟩ := h
    simp only [insA]
    split
    · rename_i e
      refine ⟨fun a ha => ?_, fun a ha => by rw [hq, hr a ha]; exact h2 a ha, BSF_ins hv h3 hl (fun a ha => hne a (by simp [ino, ha])), BSF_cd h4 hr⟩
      rcases (insA_mem l (d + 1) a).mp ha with e2 | e2
      · subst e2; rw [hv, hq]; exact e
      · rw [hq, hl a e2]; exact h1 a e2
    · rename_i e
      refine ⟨fun a ha => by rw [hq, hl a ha]; exact h1 a ha, fun a ha => ?_, BSF_cd h3 hl, BSF_ins hv h4 hr (fun a ha => hne a (by simp [ino, ha]))⟩
      rcases (insA_mem r (d + 1) a).mp ha with e2 | e2
      · subst e2; rw [hv, hq]; omega
      · rw [hq, hr a e2]; exact h2 a e2
/-! the first heavy one from the top -/
theorem fstF_app {p : Nat → Bool} : ∀ (f i : Nat), fstF p (f + 1) i = match fstF p f i with
    | some k => some k
    | none => if p (i + f) = true then some (i + f) else none
  | 0, i => by simp only [fstF, Nat.add_zero]
  | f + 1, i => by
    rw [fstF]
    by_cases e : p i = true
    · rw [if_pos e]
      simp only [fstF, if_pos e]
    · rw [if_neg e, fstF_app f (i + 1)]
      conv => rhs; simp only [fstF, if_neg e]
      rw [show i + 1 + f = i + (f + 1) by omega]
theorem fstF_some {p : Nat → Bool} : ∀ {f i k : Nat}, fstF p f i = some k → i ≤ k ∧ k < i + f ∧ p k = true ∧ ∀ j, i ≤ j → j < k → p j = false
  | 0, i, k, h => by cases h
  | f + 1, i, k, h => by
    simp only [fstF] at h
    split at h
    · rename_i e
      cases h
      exact ⟨Nat.le_refl _, by omega, e, fun j h1 h2 => by omega⟩
    · rename_i e
      obtain ⟨a1, a2, a3, a4⟩ := fstF_some h
      refine ⟨by omega, by omega, a3, fun j h1 h2 => ?_⟩
      by_cases ej : j = i
      · subst ej; simpa using e
      · exact a4 j (by omega) h2
theorem fstF_none {p : Nat → Bool} : ∀ {f i : Nat}, fstF p f i = none → ∀ j, i ≤ j → j < i + f → p j = false
  | 0, i, _, j, h1, h2 => by omega
  | f + 1, i, h, j, h1, h2 => by
    simp only [fstF] at h
    split at h
    · cases h
    · rename_i e
      by_cases ej : j = i
      · subst ej; simpa using e
      · exact fstF_none h j (by omega) (by omega)
theorem topF_fst {hv p : Nat → Bool} {u : Nat → Nat} : ∀ (j f fd : Nat), j + 1 ≤ f → (∀ i, i ≤ j → hv (u i) = p i ∧ 0 < u i) → (∀ i, i < j → u (i + 1) / 2 = u i) → u 0 / 2 = 0 → topF hv f (u j) fd = match fstF p (j + 1) 0 with
    | some k => u k
    | none => fd
  | 0, f, fd, hf, h1, _, h0 => by
    obtain ⟨fv, rfl⟩ : ∃ fv, f = fv + 1 := ⟨f - 1, by omega⟩
    rw [topF_go (h1 0 (Nat.le_refl _)).2, h0, topF_0, (h1 0 (Nat.le_refl _)).1]
    simp only [fstF]
    by_cases e : p 0 = true
    · rw [if_pos e, if_pos e]
    · rw [if_neg e, if_neg e]
  | j + 1, f, fd, hf, h1, h2, h0 => by
    obtain ⟨fv, rfl⟩ : ∃ fv, f = fv + 1 := ⟨f - 1, by omega⟩
    rw [topF_go (h1 (j + 1) (Nat.le_refl _)).2, h2 j (by omega), topF_fst (p := p) j fv _ (by omega) (fun i hi => h1 i (by omega)) (fun i hi => h2 i (by omega)) h0, fstF_app (j + 1) 0, (h1 (j + 1) (Nat.le_refl _)).1]
    cases fstF p (j + 1) 0 with
    | some k => rfl
    | none =>
      simp only [Nat.zero_add]
      by_cases e : p (j + 1) = true
      · rw [if_pos e, if_pos e]
      · rw [if_neg e, if_neg e]
theorem leafX_ok {n : Nat} {c f cd : Nat → Nat} {cc : Nat} : ∀ (X : Tr) (F : List Fr) (fu : Nat), RT n c f cd (plug F X) → (∀ a ∈ ino X, cd a ≠ cc) → ht X < fu → leafX (fun p => lastF (fun i => decide (f i = p)) n) (fun p k => decide (od5 (dep p) cc < od5 (dep p) (c k))) fu (hpl F 1) = some (hpl (F ++ fpG od5 cd cc X F.length) 1)
  | .leaf u, F, fu, h, _, hf => by
    obtain ⟨fv, rfl⟩ : ∃ fv, fu = fv + 1 := ⟨fu - 1, by omega⟩
    rw [leafX_none]
    · simp [fpG]
    · refine lastF_none.mpr (fun i hi => decide_eq_false (fun e => ?_))
      have hp := hpl_pos F (p := 1) (by omega)
      have h1 := RT_mem h hi (by omega)
      have h2 := hole_code h1 (by show bel (f i) _ = true; rw [e]; exact bel_self hp)
      simp [plc] at h2
  | .branch q l r, F, fu, h, hn, hf => by
    obtain ⟨fv, rfl⟩ : ∃ fv, fu = fv + 1 := ⟨fu - 1, by omega⟩
    have hp := hpl_pos F (p := 1) (by omega)
    have hdp : dep (hpl F 1) = F.length := by rw [hpl_dep F (by omega), dep_one]; omega
    have hq := hn q (by simp [ino])
    obtain ⟨k, hk⟩ : ∃ k, lastF (fun i => decide (f i = hpl F 1)) n = some k := by
      cases e : lastF (fun i => decide (f i = hpl F 1)) n with
      | some k => exact ⟨k, rfl⟩
      | none =>
        obtain ⟨i, h1, h2, h3⟩ := rwl_mem.mp (h.mem_iff.mpr hole_root)
        obtain ⟨e1, e2⟩ := Prod.mk.inj h3
        have h4 := lastF_none.mp e i h1
        rw [decide_eq_false_iff_not] at h4
        exact absurd e2.symm h4
    obtain ⟨hkn, hkp⟩ := lastF_lt hk
    simp only [decide_eq_true_eq] at hkp
    have hck : c k = cd q := root_code hp (hole_code (RT_mem h hkn (by omega)) (by show bel (f k) _ = true; rw [hkp]; exact bel_self hp)) hkp
    rw [leafX_some (p := hpl F 1) (k := k) hk, hck, hdp]
    simp only [ht] at hf
    simp only [fpG, if_neg hq]
    by_cases e : od5 F.length cc < od5 F.length (cd q)
    · rw [if_pos e, if_pos (decide_eq_true e)]
      have h2 : RT n c f cd (plug (F ++ [(q, true, r)]) l) := by rw [plug_one]; exact h
      have := leafX_ok l (F ++ [(q, true, r)]) fv h2 (fun a ha => hn a (by simp [ino, ha])) (by omega)
      rw [hpl_one] at this
      simp only [if_true] at this
      rw [this]
      simp
    · rw [if_neg e, if_neg (by simp [e])]
      have h2 : RT n c f cd (plug (F ++ [(q, false, l)]) r) := by rw [plug_one]; exact h
      have := leafX_ok r (F ++ [(q, false, l)]) fv h2 (fun a ha => hn a (by simp [ino, ha])) (by omega)
      rw [hpl_one] at this
      simp only [Bool.false_eq_true, if_false] at this
      rw [this]
      simp
