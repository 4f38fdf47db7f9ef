theorem sorted_ins {w : Nat → Nat} {s1 s2 : List Nat} {x : Nat} (h : (s1 ++ s2).Pairwise (fun u v => w u ≤ w v)) (h2 : ∀ y ∈ s2, w x < w y) (h1 : ∀ y, s1.getLast? = some y → w y ≤ w x) : (s1 ++ x :: s2).Pairwise (fun u v => w u ≤ w v) := by
  rw [List.pairwise_append] at h ⊢
  obtain ⟨ha, hb, hc⟩ := h
  have hle : ∀ y ∈ s1, w y ≤ w x := by
    intro y hy
    rcases List.eq_nil_or_concat s1 with rfl | ⟨s0, z, rfl⟩
    · cases hy
    · have hz : w z ≤ w x := h1 z (by simp)
      rw [List.concat_eq_append, List.pairwise_append] at ha
      simp only [List.concat_eq_append, List.mem_append, List.mem_singleton] at hy
      rcases hy with hy | rfl
      · exact Nat.le_trans (ha.2.2 y hy z (by simp)) hz
      · exact hz
  refine ⟨ha, List.pairwise_cons.mpr ⟨fun y hy => Nat.le_of_lt (h2 y hy), hb⟩, ?_⟩
  intro u hu v hv
  rcases List.mem_cons.mp hv with rfl | hv
  · exact hle u hu
  · exact hc u hu v hv
def msr (od : Nat → Nat → Nat) (cd : Nat → Nat) (d : Nat) (lst : List Nat) : List Nat := lst.mergeSort (fun u v => decide (od d (cd u) ≤ od d (cd v)))
theorem msr_perm (od : Nat → Nat → Nat) (cd : Nat → Nat) (d : Nat) (lst : List Nat) : (msr od cd d lst).Perm lst := List.mergeSort_perm _ _
theorem msr_len (od : Nat → Nat → Nat) (cd : Nat → Nat) (d : Nat) (lst : List Nat) : (msr od cd d lst).length = lst.length := (msr_perm od cd d lst).length_eq
theorem msr_eq {od : Nat → Nat → Nat} {cd : Nat → Nat} {d : Nat} {lst l2 : List Nat} (hp : l2.Perm lst) (hs : l2.Pairwise (fun u v => od d (cd u) ≤ od d (cd v))) (hi : ∀ u ∈ lst, ∀ v ∈ lst, od d (cd u) = od d (cd v) → u = v) : l2 = msr od cd d lst := by
  have hs2 : (msr od cd d lst).Pairwise (fun u v => od d (cd u) ≤ od d (cd v)) := by
    have := List.pairwise_mergeSort (le := fun u v => decide (od d (cd u) ≤ od d (cd v))) (fun a b c h1 h2 => by simp at *; omega) (fun a b => by simp; omega) lst
    exact this.imp (fun h => by simpa using h)
  refine List.Perm.eq_of_pairwise (le := fun u v => od d (cd u) ≤ od d (cd v)) ?_ hs hs2 (hp.trans (msr_perm od cd d lst).symm)
  intro u v hu hv h1 h2
  exact hi u (hp.mem_iff.mp hu) v ((msr_perm od cd d lst).mem_iff.mp hv) (Nat.le_antisymm h1 h2)
def kdl (od : Nat → Nat → Nat) (cd : Nat → Nat) : Nat → Nat → List Nat → Tr
  | 0, _, _ => .leaf ()
  | f + 1, d, lst => if lst = [] then .leaf () else
      .branch ((msr od cd d lst).getD (lst.length / 2) 0) (kdl od cd f (d + 1) ((msr od cd d lst).take (lst.length / 2))) (kdl od cd f (d + 1) ((msr od cd d lst).drop (lst.length / 2 + 1)))
theorem half_lt {n f : Nat} (h : n < 2 ^ (f + 1)) : n / 2 < 2 ^ f := by rw [Nat.pow_succ] at h; omega
theorem half_lt2 {n f : Nat} (h : n < 2 ^ (f + 1)) (h0 : 0 < n) : n - (n / 2 + 1) < 2 ^ f := by rw [Nat.pow_succ] at h; omega
theorem split_mid (s : List Nat) (h : Nat) (hh : h < s.length) : s = s.take h ++ s.getD h 0 :: s.drop (h + 1) := by
  rw [List.getD_eq_getElem?_getD, List.getElem?_eq_getElem hh]
  simp
theorem kdl_mem {od : Nat → Nat → Nat} {cd : Nat → Nat} : ∀ (f d : Nat) (lst : List Nat), lst.length < 2 ^ f → ∀ q, q ∈ ino (kdl od cd f d lst) ↔ q ∈ lst
  | 0, d, lst, h, q => by
    have : lst = [] := by cases lst with | nil => rfl | cons a l => simp at h
    simp [kdl, ino, this]
  | f + 1, d, lst, h, q => by
    simp only [kdl]
    split
    · rename_i h0; simp [ino, h0]
    · rename_i h0
      have hl : 0 < lst.length := by cases lst with | nil => exact absurd rfl h0 | cons a l => simp
      have hs := split_mid (msr od cd d lst) (lst.length / 2) (by rw [msr_len]; omega)
      have e1 := kdl_mem (od := od) (cd := cd) f (d + 1) ((msr od cd d lst).take (lst.length / 2)) (by rw [List.length_take, msr_len]; have := half_lt h; omega) q
      have e2 := kdl_mem (od := od) (cd := cd) f (d + 1) ((msr od cd d lst).drop (lst.length / 2 + 1)) (by rw [List.length_drop, msr_len]; exact half_lt2 h hl) q
      simp only [ino, List.mem_append, List.mem_cons, e1, e2]
      rw [← (msr_perm od cd d lst).mem_iff, hs]
      simp only [List.mem_append, List.mem_cons]
      rw [← hs]
theorem kdl_sz {od : Nat → Nat → Nat} {cd : Nat → Nat} : ∀ (f d : Nat) (lst : List Nat), lst.length < 2 ^ f → sz (kdl od cd f d lst) = lst.length
  | 0, d, lst, h => by
    have : lst = [] := by cases lst with | nil => rfl | cons a l => simp at h
    simp [kdl, sz, this]
  | f + 1, d, lst, h => by
    simp only [kdl]
    split
    · rename_i h0; simp [sz, h0]
    · rename_i h0
      have hl : 0 < lst.length := by cases lst with | nil => exact absurd rfl h0 | cons a l => simp
      have e1 := kdl_sz (od := od) (cd := cd) f (d + 1) ((msr od cd d lst).take (lst.length / 2)) (by rw [List.length_take, msr_len]; have := half_lt h; omega)
      have e2 := kdl_sz (od := od) (cd := cd) f (d + 1) ((msr od cd d lst).drop (lst.length / 2 + 1)) (by rw [List.length_drop, msr_len]; exact half_lt2 h hl)
      simp only [sz, e1, e2, List.length_take, List.length_drop, msr_len]
      omega
theorem kdl_ht {od : Nat → Nat → Nat} {cd : Nat → Nat} : ∀ (f d : Nat) (lst : List Nat), ht (kdl od cd f d lst) ≤ f
  | 0, d, lst => Nat.le_refl _
  | f + 1, d, lst => by
    simp only [kdl]
    split
    · simp [ht]
    · have e1 := kdl_ht (od := od) (cd := cd) f (d + 1) ((msr od cd d lst).take (lst.length / 2))
      have e2 := kdl_ht (od := od) (cd := cd) f (d + 1) ((msr od cd d lst).drop (lst.length / 2 + 1))
      simp only [ht]; omega
theorem LZ.row {K N : Nat → Nat} {Q : Nat → Nat → Option Nat} {t kd pq pn rw rn cap : Nat} (h : LZ K N Q t kd pq pn rw rn cap) (g : Nat → Option Nat) : LZ K N (x_up Q rn g) t kd pq pn rw rn cap := by
  obtain ⟨hk, hkd, h0, h1, hp, hrw, hpr, hpn⟩ := h
  have h23 := hrw.2.2.1
  have n1 : t ≠ rn := fun e => by rw [← e, hk] at h23; omega
  have n2 : pq ≠ rn := fun e => by have := hp.1; rw [e, h23] at this; omega
  have n3 : rw ≠ rn := fun e => by have := hrw.1; rw [e, h23] at this; omega
  exact ⟨hk, hkd, by rw [x_up_n _ _ n1]; exact h0, by rw [x_up_n _ _ n1]; exact h1, ⟨hp.1, by rw [x_up_n _ _ n2]; exact hp.2.1, hp.2.2⟩, ⟨hrw.1, by rw [x_up_n _ _ n3]; exact hrw.2.1, hrw.2.2⟩, hpr, hpn⟩
/-- the fixed parts stand where the cells that are no nodes and no row stand -/
theorem LZ.congr {K N : Nat → Nat} {Q Q' : Nat → Nat → Option Nat} {t kd pq pn rw rn cap : Nat} (h : LZ K N Q t kd pq pn rw rn cap) (hq : ∀ a, K a ≠ 3 → K a ≠ 23 → Q' a 0 = Q a 0 ∧ Q' a 1 = Q a 1) : LZ K N Q' t kd pq pn rw rn cap := by
  obtain ⟨hk, hkd, h0, h1, hp, hrw, hpr, hpn⟩ := h
  have ht := hq t (by omega) (by omega)
  have h2 := hq pq (by rw [hp.1]; omega) (by rw [hp.1]; omega)
  have h3 := hq rw (by rw [hrw.1]; omega) (by rw [hrw.1]; omega)
  exact ⟨hk, hkd, by rw [ht.1]; exact h0, by rw [ht.2]; exact h1, ⟨hp.1, by rw [h2.1]; exact hp.2.1, hp.2.2⟩, ⟨hrw.1, by rw [h3.1]; exact hrw.2.1, hrw.2.2⟩, hpr, hpn⟩
/-- what laying out leaves: the tree of the row's part, and all else -/
def LAYP (K : Nat → Nat) (I I1 : Nat → Nat → Int32) (Q Q1 : Nat → Nat → Option Nat) (rn a : Nat) (lst : List Nat) (A : Tr) (r : Option Nat) : Prop :=
  TP K Q1 A r ∧ WT I1 A ∧ (∀ q, q ∉ lst → q ≠ rn → Q1 q = Q q) ∧ (∀ q j, q ≠ rn → j ≠ 3 → j ≠ 4 → Q1 q j = Q q j) ∧ (∀ q, q ∉ lst → I1 q = I q) ∧ (∀ q j, j ≠ 2 → I1 q j = I q j) ∧ (∀ i, (i < a ∨ a + lst.length ≤ i) → Q1 rn i = Q rn i)
theorem LAYP.nil {K : Nat → Nat} {I : Nat → Nat → Int32} {Q : Nat → Nat → Option Nat} {rn a : Nat} : LAYP K I I Q Q rn a [] (.leaf ()) none := ⟨rfl, trivial, fun _ _ _ => rfl, fun _ _ _ _ _ => rfl, fun _ _ => rfl, fun _ _ _ => rfl, fun _ _ => rfl⟩
theorem LAYP.node {K : Nat → Nat} {I I1 I2 : Nat → Nat → Int32} {Q Qs Q1 Q3 : Nat → Nat → Option Nat} {rn a m : Nat} {lst L R : List Nat} {g : Nat → Option Nat} {TL TR : Tr} {r1 r2 : Option Nat}
    (eQs : Qs = x_up Q rn g) (hg : ∀ i, (i < a ∨ a + lst.length ≤ i) → g i = Q rn i) (hperm : (L ++ m :: R).Perm lst) (hnd : lst.Nodup) (hK : ∀ q ∈ lst, K q = 3) (hrn : K rn = 23)
    (hl : LAYP K I I1 Qs Q1 rn a L TL r1) (hr : LAYP K I1 I2 (x_u2 Q1 m 3 r1) Q3 rn (a + L.length + 1) R TR r2) (hTL : ∀ q, q ∈ ino TL ↔ q ∈ L) (hTR : ∀ q, q ∈ ino TR ↔ q ∈ R) (hsL : sz TL = L.length) (hsR : sz TR = R.length) :
    LAYP K I (x_u2 I2 m 2 (nI lst.length)) Q (x_u2 Q3 m 4 r2) rn a lst (.branch m TL TR) (some m) := by
  have hnd2 : (L ++ m :: R).Nodup := hperm.nodup_iff.mpr hnd
  have hlen : L.length + R.length + 1 = lst.length := by rw [← hperm.length_eq]; simp; omega
  rw [List.nodup_append] at hnd2
  obtain ⟨n1, n2, n3⟩ := hnd2
  rw [List.nodup_cons] at n2
  have hmem : ∀ q, q ∈ lst ↔ q ∈ L ∨ q = m ∨ q ∈ R := fun q => by rw [← hperm.mem_iff]; simp
  have hmrn : m ≠ rn := nodes_ne (hK m ((hmem m).mpr (Or.inr (Or.inl rfl)))) hrn (by omega)
  have hne : ∀ q ∈ lst, q ≠ rn := fun q hq => nodes_ne (hK q hq) hrn (by omega)
  have hLm : ∀ q ∈ L, q ≠ m := fun q hq => n3 q hq m (by simp)
  have hLR : ∀ q ∈ L, q ∉ R := fun q hq hqR => n3 q hq q (by simp [hqR]) rfl
  have hRm : ∀ q ∈ R, q ≠ m := fun q hq e => n2.1 (e ▸ hq)
  obtain ⟨a1, a2, a3, a4, a5, a6, a7⟩ := hl
  obtain ⟨b1, b2, b3, b4, b5, b6, b7⟩ := hr
  have q4 : ∀ q, q ≠ m → x_u2 Q3 m 4 r2 q = Q3 q := fun q h => x_u2_a _ _ h
  have i3 : ∀ q, q ≠ m → x_u2 I2 m 2 (nI lst.length) q = I2 q := fun q h => x_u2_a _ _ h
  refine ⟨⟨rfl, hK m ((hmem m).mpr (Or.inr (Or.inl rfl))), ?_, ?_⟩, ⟨?_, ?_, ?_⟩, ?_, ?_, ?_, ?_, ?_⟩
  · rw [x_u2_j _ _ (by omega), b3 m n2.1 hmrn, x_u2_s]
    refine a1.congr (fun q hq => ?_)
    have hL := (hTL q).mp hq
    have h1 := hne q ((hmem q).mpr (Or.inl hL))
    have h2 : x_u2 Q3 m 4 r2 q = Q1 q := by rw [q4 q (hLm q hL), b3 q (hLR q hL) h1, x_u2_a _ _ (hLm q hL)]
    rw [h2]; exact ⟨rfl, rfl, rfl⟩
  · rw [x_u2_s]
    refine b1.congr (fun q hq => ?_)
    have hR := (hTR q).mp hq
    rw [q4 q (hRm q hR)]; exact ⟨rfl, rfl, rfl⟩
  · rw [x_u2_s, hsL, hsR, hlen]
  · refine a2.congr (fun q hq => ?_)
    have hL := (hTL q).mp hq
    rw [i3 q (hLm q hL), b5 q (hLR q hL)]
  · refine b2.congr (fun q hq => ?_)
    rw [i3 q (hRm q ((hTR q).mp hq))]
  · intro q hq h1
    rw [hmem] at hq
    have hm : q ≠ m := fun e => hq (Or.inr (Or.inl e))
    rw [q4 q hm, b3 q (fun h => hq (Or.inr (Or.inr h))) h1, x_u2_a _ _ hm, a3 q (fun h => hq (Or.inl h)) h1, eQs, x_up_n _ _ h1]
  · intro q j h1 h3 h4
    rw [x_u2_j _ _ h4, b4 q j h1 h3 h4, x_u2_j _ _ h3, a4 q j h1 h3 h4, eQs, x_up_n _ _ h1]
  · intro q hq
    rw [hmem] at hq
    have hm : q ≠ m := fun e => hq (Or.inr (Or.inl e))
    rw [i3 q hm, b5 q (fun h => hq (Or.inr (Or.inr h))), a5 q (fun h => hq (Or.inl h))]
  · intro q j hj
    rw [x_u2_j _ _ hj, b6 q j hj, a6 q j hj]
  · intro i hi
    have hm : rn ≠ m := fun e => hmrn e.symm
    rw [x_u2_a _ _ hm, b7 i (by omega), x_u2_a _ _ hm, a7 i (by omega), eQs, x_up_s]
    exact hg i hi
