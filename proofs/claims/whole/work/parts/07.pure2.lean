theorem sorted_ins {w : Nat → Nat} {s1 s2 : List Nat} {x : Nat} (h : (s1 ++ s2).Pairwise (fun u v => w u ≤ w v)) (h2 : ∀ y ∈ s2, w x < w y) (h1 : ∀ y, s1.getLast? = some y → w y ≤ w x) : (s1 ++ x :: s2).Pairwise (fun u v => w u ≤ w v) := by
  rw [List.pairwise_append] at h ⊢
  obtain ⟨ha, hb, hc⟩ := h
  have hle : ∀ y ∈ s1, w y ≤ w x := by
    intro y hy
    rcases List.eq_nil_or_concat s1 with rfl | ⟨s0, z, rfl⟩
    · cases hy
    · have hz : w z ≤ w x := h1 z (by simp)
      rw [List.concat_eq_append, List.pairwise_append] at ha
      simp only [List.concat_eq_append, List.mem_append, List.mem_singleton] at hy
      rcases hy with hy | rfl
      · exact Nat.le_trans (ha.2.2 y hy z (by simp)) hz
      · exact hz
  refine ⟨ha, List.pairwise_cons.mpr ⟨fun y hy => Nat.le_of_lt (h2 y hy), hb⟩, ?_⟩
  intro u hu v hv
  rcases List.mem_cons.mp hv with rfl | hv
  · exact hle u hu
  · exact hc u hu v hv
def msr (od : Nat → Nat → Nat) (cd : Nat → Nat) (d : Nat) (lst : List Nat) : List Nat := lst.mergeSort (fun u v => decide (od d (cd u) ≤ od d (cd v)))
theorem msr_perm (od : Nat → Nat → Nat) (cd : Nat → Nat) (d : Nat) (lst : List Nat) : (msr od cd d lst).Perm lst := List.mergeSort_perm _ _
theorem msr_len (od : Nat → Nat → Nat) (cd : Nat → Nat) (d : Nat) (lst : List Nat) : (msr od cd d lst).length = lst.length := (msr_perm od cd d lst).length_eq
theorem msr_eq {od : Nat → Nat → Nat} {cd : Nat → Nat} {d : Nat} {lst l2 : List Nat} (hp : l2.Perm lst) (hs : l2.Pairwise (fun u v => od d (cd u) ≤ od d (cd v))) (hi : ∀ u ∈ lst, ∀ v ∈ lst, od d (cd u) = od d (cd v) → u = v) : l2 = msr od cd d lst := by
  have hs2 : (msr od cd d lst).Pairwise (fun u v => od d (cd u) ≤ od d (cd v)) := by
    have := List.pairwise_mergeSort (le := fun u v => decide (od d (cd u) ≤ od d (cd v))) (fun a b c h1 h2 => by simp at *; omega) (fun a b => by simp; omega) lst
    exact this.imp (fun h => by simpa using h)
  refine List.Perm.eq_of_pairwise (le := fun u v => od d (cd u) ≤ od d (cd v)) ?_ hs hs2 (hp.trans (msr_perm od cd d lst).symm)
  intro u v hu hv h1 h2
  exact hi u (hp.mem_iff.mp hu) v ((msr_perm od cd d lst).mem_iff.mp hv) (Nat.le_antisymm h1 h2)
def kdl (od : Nat → Nat → Nat) (cd : Nat → Nat) : Nat → Nat → List Nat → Tr
  | 0, _, _ => .leaf ()
  | f + 1, d, lst => if lst = [] then .leaf () else
      .branch ((msr od cd d lst).getD (lst.length / 2) 0) (kdl od cd f (d + 1) ((msr od cd d lst).take (lst.length / 2))) (kdl od cd f (d + 1) ((msr od cd d lst).drop (lst.length / 2 + 1)))
theorem half_lt {n f : Nat} (h : n < 2 ^ (f + 1)) : n / 2 < 2 ^ f := by rw [Nat.pow_succ] at h; omega
theorem half_lt2 {n f : Nat} (h : n < 2 ^ (f + 1)) (h0 : 0 < n) : n - (n / 2 + 1) < 2 ^ f := by rw [Nat.pow_succ] at h; omega
theorem split_mid (s : List Nat) (h : Nat) (hh : h < s.length) : s = s.take h ++ s.getD h 0 :: s.drop (h + 1) := by
  rw [List.getD_eq_getElem?_getD, List.getElem?_eq_getElem hh]
  simp
theorem kdl_mem {od : Nat → Nat → Nat} {cd : Nat → Nat} : ∀ (f d : Nat) (lst : List Nat), lst.length < 2 ^ f → ∀ q, q ∈ ino (kdl od cd f d lst) ↔ q ∈ lst
  | 0, d, lst, h, q => by
    have : lst = [] := by cases lst with | nil => rfl | cons a l => simp at h
    simp [kdl, ino, this]
  | f + 1, d, lst, h, q => by
    simp only [kdl]
    split
    · rename_i h0; simp [ino, h0]
    · rename_i h0
      have hl : 0 < lst.length := by cases lst with | nil => exact absurd rfl h0 | cons a l => simp
      have hs := split_mid (msr od cd d lst) (lst.length / 2) (by rw [msr_len]; omega)
      have e1 := kdl_mem (od := od) (cd := cd) f (d + 1) ((msr od cd d lst).take (lst.length / 2)) (by rw [List.length_take, msr_len]; have := half_lt h; omega) q
      have e2 := kdl_mem (od := od) (cd := cd) f (d + 1) ((msr od cd d lst).drop (lst.length / 2 + 1)) (by rw [List.length_drop, msr_len]; exact half_lt2 h hl) q
      simp only [ino, List.mem_append, List.mem_cons, e1, e2]
      rw [← (msr_perm od cd d lst).mem_iff, hs]
      simp only [List.mem_append, List.mem_cons]
      rw [← hs]
theorem kdl_sz {od : Nat → Nat → Nat} {cd : Nat → Nat} : ∀ (f d : Nat) (lst : List Nat), lst.length < 2 ^ f → sz (kdl od cd f d lst) = lst.length
  | 0, d, lst, h => by
    have : lst = [] := by cases lst with | nil => rfl | cons a l => simp at h
    simp [kdl, sz, this]
  | f + 1, d, lst, h => by
    simp only [kdl]
    split
    · rename_i h0; simp [sz, h0]
    · rename_i h0
      have hl : 0 < lst.length := by cases lst with | nil => exact absurd rfl h0 | cons a l => simp
      have e1 := kdl_sz (od := od) (cd := cd) f (d + 1) ((msr od cd d lst).take (lst.length / 2)) (by rw [List.length_take, msr_len]; have := half_lt h; omega)
      have e2 := kdl_sz (od := od) (cd := cd) f (d + 1) ((msr od cd d lst).drop (lst.length / 2 + 1)) (by rw [List.length_drop, msr_len]; exact half_lt2 h hl)
      simp only [sz, e1, e2, List.length_take, List.length_drop, msr_len]
      omega
theorem kdl_ht {od : Nat → Nat → Nat} {cd : Nat → Nat} : ∀ (f d : Nat) (lst : List Nat), ht (kdl od cd f d lst) ≤ f
  | 0, d, lst => Nat.le_refl _
  | f + 1, d, lst => by
    simp only [kdl]
    split
    · simp [ht]
    · have e1 := kdl_ht (od := od) (cd := cd) f (d + 1) ((msr od cd d lst).take (lst.length / 2))
      have e2 := kdl_ht (od := od) (cd := cd) f (d + 1) ((msr od cd d lst).drop (lst.length / 2 + 1))
      simp only [ht]; omega
theorem LZ.row {K N : Nat → Nat} {Q : Nat → Nat → Option Nat} {t kd pq pn rw rn cap : Nat} (h : LZ K N Q t kd pq pn rw rn cap) (g : Nat → Option Nat) : LZ K N (x_up Q rn g) t kd pq pn rw rn cap := by
  obtain ⟨hk, hkd, h0, h1, hp, hrw, hpr, hpn⟩ := h
  have h23 := hrw.2.2.1
  have n1 : t ≠ rn := fun e => by rw [← e, hk] at h23; omega
  have n2 : pq ≠ rn := fun e => by have := hp.1; rw [e, h23] at this; omega
  have n3 : rw ≠ rn := fun e => by have := hrw.1; rw [e, h23] at this; omega
  exact ⟨hk, hkd, by rw [x_up_n _ _ n1]; exact h0, by rw [x_up_n _ _ n1]; exact h1, ⟨hp.1, by rw [x_up_n _ _ n2]; exact hp.2.1, hp.2.2⟩, ⟨hrw.1, by rw [x_up_n _ _ n3]; exact hrw.2.1, hrw.2.2⟩, hpr, hpn⟩
/-- the fixed parts stand where the cells that are no nodes and no row stand -/
theorem LZ.congr {K N : Nat → Nat} {Q Q' : Nat → Nat → Option Nat} {t kd pq pn rw rn cap : Nat} (h : LZ K N Q t kd pq pn rw rn cap) (hq : ∀ a, K a ≠ 3 → K a ≠ 23 → Q' a 0 = Q a 0 ∧ Q' a 1 = Q a 1) : LZ K N Q' t kd pq pn rw rn cap := by
  obtain ⟨hk, hkd, h0, h1, hp, hrw, hpr, hpn⟩ := h
  have ht := hq t (by omega) (by omega)
  have h2 := hq pq (by rw [hp.1]; omega) (by rw [hp.1]; omega)
  have h3 := hq rw (by rw [hrw.1]; omega) (by rw [hrw.1]; omega)
  exact ⟨hk, hkd, by rw [ht.1]; exact h0, by rw [ht.2]; exact h1, ⟨hp.1, by rw [h2.1]; exact hp.2.1, hp.2.2⟩, ⟨hrw.1, by rw [h3.1]; exact hrw.2.1, hrw.2.2⟩, hpr, hpn⟩
