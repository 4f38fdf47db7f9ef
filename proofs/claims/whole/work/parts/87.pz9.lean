/-! the way of a code: frames at any order -/
def fpG (od : Nat → Nat → Nat) (cd : Nat → Nat) (c : Nat) : Tr → Nat → List Fr
  | .leaf _, _ => []
  | .branch q l r, d => if cd q = c then [] else if od d c < od d (cd q) then (q, true, r) :: fpG od cd c l (d + 1) else (q, false, l) :: fpG od cd c r (d + 1)
theorem fpG_1 (cd : Nat → Nat) (c : Nat) : ∀ (A : Tr) (d : Nat), fpG od1 cd c A d = fpF cd c A
  | .leaf _, _ => rfl
  | .branch q l r, d => by
    simp only [fpG, fpF, fpG_1 cd c l, fpG_1 cd c r, od1]
/-- the frames go the way of the code -/
def FOL (od : Nat → Nat → Nat) (cd : Nat → Nat) (c : Nat) : List Fr → Nat → Prop
  | [], _ => True
  | f :: F, d => (f.2.1 = true ↔ od d c < od d (cd f.1)) ∧ FOL od cd c F (d + 1)
theorem fpG_FOL {od : Nat → Nat → Nat} {cd : Nat → Nat} {c : Nat} : ∀ (A : Tr) (d : Nat), FOL od cd c (fpG od cd c A d) d
  | .leaf _, _ => trivial
  | .branch q l r, d => by
    simp only [fpG]
    split
    · trivial
    · split
      · rename_i h
        exact ⟨by simp [h], fpG_FOL l (d + 1)⟩
      · rename_i h
        exact ⟨by simp [h], fpG_FOL r (d + 1)⟩
theorem FOL_cd {od : Nat → Nat → Nat} {cd cd' : Nat → Nat} {c : Nat} : ∀ {F : List Fr} {d : Nat}, FOL od cd c F d → (∀ a ∈ fad F, cd' a = cd a) → FOL od cd' c F d
  | [], _, _, _ => trivial
  | f :: F, d, h, hc => ⟨by rw [hc f.1 (by simp [fad])]; exact h.1, FOL_cd h.2 (fun a ha => hc a (by simp [fad, ha]))⟩
theorem insA_plug {od : Nat → Nat → Nat} {cd : Nat → Nat} {c v : Nat} : ∀ (A : Tr) (d : Nat), (∀ a ∈ ino A, cd a ≠ c) → insA od cd c v A d = plug (fpG od cd c A d) (.branch v (.leaf ()) (.leaf ())) ∧ plug (fpG od cd c A d) (.leaf ()) = A
  | .leaf _, _, _ => ⟨rfl, rfl⟩
  | .branch q l r, d, hn => by
    have hq := hn q (by simp [ino])
    simp only [insA, fpG, if_neg hq]
    by_cases h : od d c < od d (cd q)
    · rw [if_pos h, if_pos h]
      obtain ⟨h1, h2⟩ := insA_plug (od := od) (v := v) l (d + 1) (fun a ha => hn a (by simp [ino, ha]))
      simp only [plug, mkf, if_true]
      rw [h1, h2]; exact ⟨rfl, rfl⟩
    · rw [if_neg h, if_neg h]
      obtain ⟨h1, h2⟩ := insA_plug (od := od) (v := v) r (d + 1) (fun a ha => hn a (by simp [ino, ha]))
      simp only [plug, mkf, Bool.false_eq_true, if_false]
      rw [h1, h2]; exact ⟨rfl, rfl⟩
theorem fpG_spath {od : Nat → Nat → Nat} {cd : Nat → Nat} {c : Nat} : ∀ (A : Tr) (d : Nat), (∀ a ∈ ino A, cd a ≠ c) → (spath od cd c A d).length = (fpG od cd c A d).length
  | .leaf _, _, _ => rfl
  | .branch q l r, d, hn => by
    have hq := hn q (by simp [ino])
    simp only [spath, fpG, if_neg hq, List.length_cons]
    by_cases h : od d c < od d (cd q)
    · rw [if_pos h, if_pos h, List.length_cons, fpG_spath l (d + 1) (fun a ha => hn a (by simp [ino, ha]))]
    · rw [if_neg h, if_neg h, List.length_cons, fpG_spath r (d + 1) (fun a ha => hn a (by simp [ino, ha]))]
theorem subp_plug {od : Nat → Nat → Nat} {cd : Nat → Nat} {c : Nat} {X : Tr} : ∀ {F : List Fr} {d j : Nat}, FOL od cd c F d → j ≤ F.length → subp od cd c (plug F X) d j = plug (F.drop j) X
  | F, d, 0, _, _ => by simp [subp]
  | [], d, j + 1, _, h => by simp at h
  | (q, b, s) :: F, d, j + 1, h, hj => by
    have ih := subp_plug (X := X) (d := d + 1) h.2 (j := j) (by simpa using hj)
    have h1 := h.1
    simp only [] at h1
    cases b with
    | true =>
      show subp od cd c (.branch q (plug F X) s) d (j + 1) = _
      simp only [subp]
      rw [if_pos (h1.mp rfl), ih]; rfl
    | false =>
      show subp od cd c (.branch q s (plug F X)) d (j + 1) = _
      simp only [subp]
      rw [if_neg (fun z => by have := h1.mpr z; cases this), ih]; rfl
theorem updp_plug {od : Nat → Nat → Nat} {cd : Nat → Nat} {c : Nat} {X new : Tr} : ∀ {F : List Fr} {d j : Nat}, FOL od cd c F d → j ≤ F.length → updp od cd c new (plug F X) d j = plug (F.take j) new
  | F, d, 0, _, _ => by simp [updp, plug]
  | [], d, j + 1, _, h => by simp at h
  | (q, b, s) :: F, d, j + 1, h, hj => by
    have ih := updp_plug (X := X) (new := new) (d := d + 1) h.2 (j := j) (by simpa using hj)
    have h1 := h.1
    simp only [] at h1
    cases b with
    | true =>
      show updp od cd c new (.branch q (plug F X) s) d (j + 1) = _
      simp only [updp]
      rw [if_pos (h1.mp rfl), ih]; rfl
    | false =>
      show updp od cd c new (.branch q s (plug F X)) d (j + 1) = _
      simp only [updp]
      rw [if_neg (fun z => by have := h1.mpr z; cases this), ih]; rfl
theorem hpl_dep : ∀ (F : List Fr) {p : Nat}, 0 < p → dep (hpl F p) = dep p + F.length
  | [], _, _ => rfl
  | f :: F, p, hp => by
    simp only [hpl, List.length_cons]
    rw [hpl_dep F (by omega), dep_2 hp (by split <;> omega)]
    omega
theorem plug_td (F : List Fr) (X : Tr) (j : Nat) : plug F X = plug (F.take j) (plug (F.drop j) X) := by rw [← plug_app, List.take_append_drop]
theorem hpl_half {F : List Fr} {j : Nat} (hj : j < F.length) : hpl (F.take (j + 1)) 1 / 2 = hpl (F.take j) 1 := by
  obtain ⟨f, hf⟩ : ∃ f, F[j]? = some f := ⟨_, List.getElem?_eq_getElem hj⟩
  rw [List.take_add_one, hf]
  simp only [Option.toList_some]
  rw [hpl_one]
  split <;> omega
/-! laying out rows that rise -/
theorem layA_shift (s : Nat) : ∀ (f b low n at_ : Nat), layA f (b + s) (low + s) n at_ = layA f b low n at_
  | 0, _, _, _, _ => rfl
  | f + 1, b, low, n, at_ => by
    by_cases h : b = low + n / 2
    · rw [layA_eq (f := f) h, layA_eq (by omega)]
    · by_cases h2 : b < low + n / 2
      · rw [layA_lt (f := f) h2, layA_lt (by omega), layA_shift s f]
      · rw [layA_gt (f := f) h (by omega), layA_gt (by omega) (by omega), show low + s + n / 2 + 1 = (low + n / 2 + 1) + s by omega, layA_shift s f]
theorem msr_rise {cd : Nat → Nat} {d : Nat} {lst : List Nat} (h : (lst.map cd).Pairwise (fun a b => a < b)) : msr od1 cd d lst = lst := by
  rw [List.pairwise_map] at h
  refine (msr_eq (List.Perm.refl _) (h.imp (fun z => Nat.le_of_lt z)) (fun u hu v hv e => ?_)).symm
  have e2 : cd u = cd v := e
  obtain ⟨i, hi⟩ := List.getElem?_of_mem hu
  obtain ⟨j, hj⟩ := List.getElem?_of_mem hv
  obtain ⟨hi1, hi2⟩ := List.getElem?_eq_some_iff.mp hi
  obtain ⟨hj1, hj2⟩ := List.getElem?_eq_some_iff.mp hj
  rcases Nat.lt_trichotomy i j with h1 | h1 | h1
  · have := List.pairwise_iff_getElem.mp h i j hi1 hj1 h1
    rw [hi2, hj2] at this; omega
  · subst h1; rw [← hi2, ← hj2]
  · have := List.pairwise_iff_getElem.mp h j i hj1 hi1 h1
    rw [hi2, hj2] at this; omega
theorem range_split {n h : Nat} (hh : h < n) : List.range n = List.range h ++ h :: (List.range (n - h - 1)).map (fun t => t + (h + 1)) := by
  refine List.ext_getElem? (fun i => ?_)
  by_cases h1 : i < n
  · rw [List.getElem?_range h1]
    by_cases h2 : i < h
    · rw [List.getElem?_append_left (by simpa using h2), List.getElem?_range h2]
    · rw [List.getElem?_append_right (by simpa using h2), List.length_range]
      by_cases h3 : i = h
      · rw [h3, Nat.sub_self]; rfl
      · rw [show i - h = (i - h - 1) + 1 by omega, List.getElem?_cons_succ, List.getElem?_map, List.getElem?_range (by omega)]
        simp only [Option.map_some]
        congr 1; omega
  · rw [List.getElem?_eq_none (by simpa using h1), List.getElem?_eq_none (by simp; omega)]
theorem plc_kdl {cd : Nat → Nat} : ∀ (f d : Nat) (lst : List Nat) (p : Nat), lst.length < 2 ^ f → (lst.map cd).Pairwise (fun a b => a < b) → plc cd (kdl od1 cd f d lst) p = (List.range lst.length).map (fun t => (cd (lst.getD t 0), layA f t 0 lst.length p))
  | 0, d, lst, p, h, _ => by
    have : lst = [] := by cases lst with | nil => rfl | cons a l => simp at h
    subst this; rfl
  | f + 1, d, lst, p, h, hs => by
    simp only [kdl]
    by_cases h0 : lst = []
    · rw [if_pos h0, h0]; rfl
    · rw [if_neg h0]
      have hl : 0 < lst.length := by cases lst with | nil => exact absurd rfl h0 | cons a l => simp
      obtain ⟨m, em⟩ : ∃ m, m = lst.length / 2 := ⟨_, rfl⟩
      rw [msr_rise hs, ← em]
      have hm : m < lst.length := by omega
      have e1 : (lst.take m).length = m := by rw [List.length_take]; omega
      have e2 : (lst.drop (m + 1)).length = lst.length - m - 1 := by rw [List.length_drop]; omega
      have s1 : ((lst.take m).map cd).Pairwise (fun a b => a < b) := hs.sublist (List.Sublist.map _ (List.take_sublist _ _))
      have s2 : ((lst.drop (m + 1)).map cd).Pairwise (fun a b => a < b) := hs.sublist (List.Sublist.map _ (List.drop_sublist _ _))
      simp only [plc]
      rw [plc_kdl f (d + 1) (lst.take m) (2 * p) (by rw [e1, em]; exact half_lt h) s1, plc_kdl f (d + 1) (lst.drop (m + 1)) (2 * p + 1) (by rw [e2]; have := half_lt2 h hl; omega) s2, e1, e2, range_split hm]
      simp only [List.map_append, List.map_cons, List.map_map]
      congr 1
      · refine List.map_congr_left (fun t ht => ?_)
        have ht2 := List.mem_range.mp ht
        rw [layA_lt (f := f) (b := t) (low := 0) (by omega), ← em]
        congr 2
        rw [List.getD_eq_getElem?_getD, List.getD_eq_getElem?_getD, List.getElem?_take, if_pos ht2]
      · congr 1
        · rw [layA_eq (f := f) (b := m) (low := 0) (by omega)]
        · refine List.map_congr_left (fun t ht => ?_)
          have ht2 := List.mem_range.mp ht
          simp only [Function.comp]
          rw [layA_gt (f := f) (b := t + (m + 1)) (low := 0) (by omega) (by omega), ← em, show 0 + m + 1 = 0 + (m + 1) by omega, layA_shift]
          congr 2
          rw [List.getD_eq_getElem?_getD, List.getD_eq_getElem?_getD, List.getElem?_drop, Nat.add_comm (m + 1)]
theorem kdl_low {od : Nat → Nat → Nat} {cd : Nat → Nat} : ∀ (k f d : Nat) (lst : List Nat), lst.length < 2 ^ k → ht (kdl od cd f d lst) ≤ k
  | k, 0, d, lst, _ => by simp [kdl, ht]
  | 0, f + 1, d, lst, h => by
    have : lst = [] := by cases lst with | nil => rfl | cons a l => simp at h
    simp [kdl, this, ht]
  | k + 1, f + 1, d, lst, h => by
    simp only [kdl]
    split
    · simp [ht]
    · rename_i h0
      have hl : 0 < lst.length := by cases lst with | nil => exact absurd rfl h0 | cons a l => simp
      have e1 := kdl_low (od := od) (cd := cd) k f (d + 1) ((msr od cd d lst).take (lst.length / 2)) (by rw [List.length_take, msr_len]; have := half_lt h; omega)
      have e2 := kdl_low (od := od) (cd := cd) k f (d + 1) ((msr od cd d lst).drop (lst.length / 2 + 1)) (by rw [List.length_drop, msr_len]; exact half_lt2 h hl)
      simp only [ht]; omega
