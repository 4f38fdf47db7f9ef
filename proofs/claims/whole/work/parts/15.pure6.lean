theorem apd_nodup {dd : Bool} {I : Nat → Nat → Int32} {A : Tr} (h : (ino A).Nodup) : (apd dd I A).Nodup := h.sublist List.filter_sublist
theorem apd_le {dd : Bool} {I : Nat → Nat → Int32} {A : Tr} : (apd dd I A).length ≤ sz A := by rw [← ino_len]; exact List.length_filter_le _ _
theorem insA_nodup {od : Nat → Nat → Nat} {cd : Nat → Nat} {c v : Nat} : ∀ (t : Tr) (d : Nat), (ino t).Nodup → v ∉ ino t → (ino (insA od cd c v t d)).Nodup
  | .leaf _, d, _, _ => by simp [insA, ino]
  | .branch q l r, d, hn, hv => by
    simp only [ino] at hn hv
    rw [List.nodup_append] at hn
    obtain ⟨nl, nr, nd⟩ := hn
    rw [List.nodup_cons] at nr
    simp only [List.mem_append, List.mem_cons, not_or] at hv
    simp only [insA]
    split
    · simp only [ino]
      rw [List.nodup_append]
      refine ⟨insA_nodup l (d + 1) nl hv.1, List.nodup_cons.mpr nr, fun a ha b hb e => ?_⟩
      rcases (insA_mem l (d + 1) a).mp ha with h | h
      · subst h; subst e
        simp only [List.mem_cons] at hb
        exact hb.elim hv.2.1 hv.2.2
      · exact nd a h b hb e
    · simp only [ino]
      rw [List.nodup_append]
      refine ⟨nl, List.nodup_cons.mpr ⟨fun h => ?_, insA_nodup r (d + 1) nr.2 hv.2.2⟩, fun a ha b hb e => ?_⟩
      · rcases (insA_mem r (d + 1) q).mp h with h | h
        · exact hv.2.1 h.symm
        · exact nr.1 h
      · simp only [List.mem_cons] at hb
        rcases hb with hb | hb
        · exact nd a ha b (by simp [hb]) e
        · rcases (insA_mem r (d + 1) b).mp hb with h | h
          · subst h; subst e; exact hv.1 ha
          · exact nd a ha b (by simp [h]) e
/-- every place of the tree is found by its own code -/
def BSF (od : Nat → Nat → Nat) (cd : Nat → Nat) : Tr → Nat → Prop
  | .leaf _, _ => True
  | .branch q l r, d => (∀ a ∈ ino l, od d (cd a) < od d (cd q)) ∧ (∀ a ∈ ino r, od d (cd q) < od d (cd a)) ∧ BSF od cd l (d + 1) ∧ BSF od cd r (d + 1)
theorem LTI.ins {cv : Nat → Int32} {B : Nat} {K N K1 : Nat → Nat} {I I1 : Nat → Nat → Int32} {Q Q1 : Nat → Nat → Option Nat} {t kd pq pn rw rn cap : Nat} {od : Nat → Nat → Nat} {cd : Nat → Nat} {c v : Nat} {A : Tr}
    (h : LTI cv B K N I Q t kd pq pn rw rn cap cd A) (hcap : sz A + 1 ≤ cap) (hc : c < B) (hnew : ∀ a ∈ ino A, cd a ≠ c) (hv : K v = 0) (hK1 : K1 = x_up K v 3) (hT : TP K1 Q1 (insA od cd c v A 0) (Q1 t 2)) (hW : WT I1 (insA od cd c v A 0)) (hv0 : I1 v 0 = cv c)
    (hI : ∀ q j, q ≠ v → q ≠ pq → j ≠ 2 → I1 q j = I q j) (hQ : ∀ q, q ∉ ino A → q ≠ v → q ≠ pn → q ≠ t → Q1 q = Q q) (hQt : ∀ j, j ≠ 2 → Q1 t j = Q t j) :
    LTI cv B K1 N I1 Q1 t kd pq pn rw rn cap (x_up cd v c) (insA od cd c v A 0) := by
  obtain ⟨hz, hT0, hW0, hn, hN, hinj, hsz, hc256⟩ := h
  have hvA : v ∉ ino A := fun hm => by have := (hN v hm).1; omega
  have hne := hz.ne
  have k1 : ∀ q, K q ≠ 0 → K1 q = K q := fun q hq => by rw [hK1, x_up_n _ _ (fun e => hq (by rw [e]; exact hv))]
  have hvv : ∀ q, K q ≠ 0 → q ≠ v := fun q hq e => hq (by rw [e]; exact hv)
  have hz' := hz
  obtain ⟨hk, hkd, h0, h1, ⟨p1, p2, p3, p4⟩, ⟨r1, r2, r3, r4⟩, hpr, hpn⟩ := hz'
  have nA : ∀ q, K q ≠ 3 → q ∉ ino A := fun q hq hm => hq (hN q hm).1
  have cdv : ∀ a ∈ ino A, x_up cd v c a = cd a := fun a ha => x_up_n _ _ (fun e => hvA (e ▸ ha))
  refine ⟨⟨(k1 t (by omega)).trans hk, hkd, by rw [hQt 0 (by omega)]; exact h0, by rw [hQt 1 (by omega)]; exact h1, ⟨(k1 pq (by omega)).trans p1, ?_, (k1 pn (by omega)).trans p3, p4⟩, ⟨(k1 rw (by omega)).trans r1, ?_, (k1 rn (by omega)).trans r3, r4⟩, hpr, hpn⟩, hT, hW, insA_nodup A 0 hn hvA, ?_, ?_, by rw [insA_sz]; exact hcap, hc256⟩
  · rw [hQ pq (nA pq (by omega)) (hvv pq (by omega)) hne.2.2.2.2.1 hne.1.symm]; exact p2
  · rw [hQ rw (nA rw (by omega)) (hvv rw (by omega)) hne.2.2.2.2.2.2.2.1 hne.2.2.1.symm]; exact r2
  · intro q hq
    rcases (insA_mem A 0 q).mp hq with e | hqA
    · subst e
      exact ⟨by rw [hK1, x_up_s], by rw [x_up_s]; exact hv0, by rw [x_up_s]; exact hc⟩
    · have h9 := hN q hqA
      rw [cdv q hqA]
      exact ⟨(k1 q (by omega)).trans h9.1, by rw [hI q 0 (hvv q (by omega)) (hz.nn h9.1).2.1 (by omega)]; exact h9.2.1, h9.2.2⟩
  · intro u hu w hw e
    rcases (insA_mem A 0 u).mp hu with e1 | e1 <;> rcases (insA_mem A 0 w).mp hw with e2 | e2
    · rw [e1, e2]
    · subst e1; rw [x_up_s, cdv w e2] at e; exact absurd e.symm (hnew w e2)
    · subst e2; rw [x_up_s, cdv u e1] at e; exact absurd e (hnew u e1)
    · rw [cdv u e1, cdv w e2] at e; exact hinj u e1 w e2 e
/-- the whole tree laid out of some of its nodes -/
theorem LTI.drop {cv : Nat → Int32} {B : Nat} {K N : Nat → Nat} {I I1 I3 : Nat → Nat → Int32} {Q Q2 Q3 Q4 : Nat → Nat → Option Nat} {t kd pq pn rw rn cap : Nat} {cd : Nat → Nat} {A new : Tr} {lst : List Nat} {g : Nat → Option Nat} {r : Option Nat}
    (h : LTI cv B K N I Q t kd pq pn rw rn cap cd A) (hsub : ∀ a ∈ lst, a ∈ ino A) (hp : (ino new).Perm lst) (hnd : lst.Nodup) (hlen0 : lst.length ≤ sz A) (hl : LAYP K I1 I3 Q2 Q3 rn 0 lst new r) (eQ2 : Q2 = x_up Q rn g) (hI1 : ∀ q, q ≠ t → q ≠ rw → I1 q = I q) (eQ4 : Q4 = x_u2 Q3 t 2 r) :
    LTI cv B K N I3 Q4 t kd pq pn rw rn cap cd new := by
  obtain ⟨hz, hT, hW, hn, hN, hinj, hsz, hcap⟩ := h
  obtain ⟨a1, a2, a3, a4, a5, a6, a7⟩ := hl
  have hmem : ∀ q, q ∈ ino new ↔ q ∈ lst := fun q => hp.mem_iff
  have hne := hz.ne
  have hlen : sz new ≤ sz A := by
    rw [← ino_len new, hp.length_eq]; exact hlen0
  refine ⟨?_, ?_, ?_, hp.nodup_iff.mpr hnd, ?_, ?_, by omega, hcap⟩
  · refine hz.congr (fun a h3 h23 => ?_)
    have harn : a ≠ rn := fun e => h23 (by rw [e]; exact hz.2.2.2.2.2.1.2.2.1)
    have hs : a ∉ lst := fun hm => h3 (hN a (hsub a hm)).1
    have e0 : ∀ j, j ≠ 2 → Q4 a j = Q a j := fun j hj => by rw [eQ4, x_u2_j _ _ hj, a3 a hs harn, eQ2, x_up_n _ _ harn]
    exact ⟨e0 0 (by omega), e0 1 (by omega)⟩
  · rw [eQ4, x_u2_s]
    refine a1.congr (fun a ha => ?_)
    have hat : a ≠ t := (hz.nn (hN a (hsub a ((hmem a).mp ha))).1).1
    rw [x_u2_a _ _ hat]; exact ⟨rfl, rfl, rfl⟩
  · exact a2
  · intro q hq
    have hqA := hsub q ((hmem q).mp hq)
    have h9 := hN q hqA
    have h8 := hz.nn h9.1
    exact ⟨h9.1, by rw [a6 q 0 (by omega), hI1 q h8.1 h8.2.2.2.1]; exact h9.2.1, h9.2.2⟩
  · exact fun u hu v hv => hinj u (hsub u ((hmem u).mp hu)) v (hsub v ((hmem v).mp hv))
def ltr : Tr → Tr
  | .leaf _ => .leaf ()
  | .branch _ l _ => l
def rtr : Tr → Tr
  | .leaf _ => .leaf ()
  | .branch _ _ r => r
def rdep1 (cd : Nat → Nat) (c : Nat) (A : Tr) (ld : Nat) : Option Nat := if ld ≤ bnd (sz A) then none else scw (fun j => sz (subp od1 cd c A 0 j)) ld (ld + 1)
def rdep5 (cd : Nat → Nat) (c : Nat) (A : Tr) (ld : Nat) : Option Nat := fstF (fun j => decide (2 * sz (subp od5 cd c A 0 j) < 3 * max (sz (ltr (subp od5 cd c A 0 j))) (sz (rtr (subp od5 cd c A 0 j))))) ld 0
def rebt (od : Nat → Nat → Nat) (cd : Nat → Nat) (c : Nat) (A : Tr) (o : Option Nat) : Tr := match o with
  | none => A
  | some k => updp od cd c (kdl od cd 8 k (ino (subp od cd c A 0 k))) A 0 k
def rebw (od : Nat → Nat → Nat) (cd : Nat → Nat) (c : Nat) (A : Tr) (o : Option Nat) : Nat := match o with
  | none => 0
  | some k => sz (subp od cd c A 0 k)
theorem scw_lt {w : Nat → Nat} {ld : Nat} : ∀ (f k : Nat), scw w ld f = some k → k < f
  | 0, k, h => by cases h
  | f + 1, k, h => by
    simp only [scw] at h
    split at h
    · cases h; omega
    · have := scw_lt f k h; omega
theorem fstF_lt {p : Nat → Bool} : ∀ (f i k : Nat), fstF p f i = some k → k < i + f
  | 0, i, k, h => by cases h
  | f + 1, i, k, h => by
    simp only [fstF] at h
    split at h
    · cases h; omega
    · have := fstF_lt f (i + 1) k h; omega
theorem rdep1_lt {cd : Nat → Nat} {c : Nat} {A : Tr} {ld k : Nat} (h : rdep1 cd c A ld = some k) : k < ld + 1 := by
  unfold rdep1 at h
  split at h
  · cases h
  · exact scw_lt _ _ h
theorem rdep5_lt {cd : Nat → Nat} {c : Nat} {A : Tr} {ld k : Nat} (h : rdep5 cd c A ld = some k) : k < ld + 1 := by
  have := fstF_lt _ _ _ h; omega
theorem oI_none {o : Option Nat} (h : oI o = -1) (hb : ∀ k, o = some k → k < 1000) : o = none := by
  cases o with
  | none => rfl
  | some k =>
    have h1 : (nI k).toInt = (-1 : Int32).toInt := by rw [show nI k = -1 from h]
    rw [nI_toInt (by have := hb k rfl; omega)] at h1
    have h2 : (-1 : Int32).toInt = -1 := by decide
    omega
theorem oI_some {o : Option Nat} (h : ¬ oI o = -1) : ∃ k, o = some k := by
  cases o with
  | none => exact absurd rfl h
  | some k => exact ⟨k, rfl⟩
theorem LTI.congr {cv : Nat → Int32} {B : Nat} {K N : Nat → Nat} {I I1 : Nat → Nat → Int32} {Q Q1 : Nat → Nat → Option Nat} {t kd pq pn rw rn cap : Nat} {cd : Nat → Nat} {A : Tr} (h : LTI cv B K N I Q t kd pq pn rw rn cap cd A)
    (hI : ∀ q ∈ ino A, I1 q 0 = I q 0 ∧ I1 q 2 = I q 2) (hQ : ∀ q, q ≠ pn → q ≠ rn → Q1 q = Q q) : LTI cv B K N I1 Q1 t kd pq pn rw rn cap cd A := by
  obtain ⟨hz, hT, hW, hn, hN, hinj, hsz, hc⟩ := h
  have hne := hz.ne
  refine ⟨hz.congr (fun a h3 h23 => ?_), ?_, hW.congr (fun a ha => (hI a ha).2), hn, fun q hq => ?_, hinj, hsz, hc⟩
  · rw [hQ a (fun e => h23 (by rw [e]; exact hz.2.2.2.2.1.2.2.1)) (fun e => h23 (by rw [e]; exact hz.2.2.2.2.2.1.2.2.1))]
    exact ⟨rfl, rfl⟩
  · rw [hQ t hne.2.1 hne.2.2.2.1]
    refine hT.congr (fun a ha => ?_)
    have h8 := hz.nn (hN a ha).1
    rw [hQ a h8.2.2.1 h8.2.2.2.2]; exact ⟨rfl, rfl, rfl⟩
  · have h9 := hN q hq
    exact ⟨h9.1, by rw [(hI q hq).1]; exact h9.2.1, h9.2.2⟩
theorem sfind_none_ne {od : Nat → Nat → Nat} {cd : Nat → Nat} {c : Nat} : ∀ (t : Tr) (d : Nat), BSF od cd t d → sfind od cd c t d = none → ∀ a ∈ ino t, cd a ≠ c
  | .leaf _, _, _, _, a, ha => by simp [ino] at ha
  | .branch q l r, d, hb, hs, a, ha => by
    obtain ⟨h1, h2, h3, h4⟩ := hb
    simp only [sfind] at hs
    split at hs
    · cases hs
    · rename_i hq
      simp only [ino, List.mem_append, List.mem_cons] at ha
      split at hs
      · rename_i hc
        rcases ha with ha | rfl | ha
        · exact sfind_none_ne l (d + 1) h3 hs a ha
        · exact hq
        · intro e; have := h2 a ha; rw [e] at this; omega
      · rename_i hc
        rcases ha with ha | rfl | ha
        · intro e; have := h1 a ha; rw [e] at this; omega
        · exact hq
        · exact sfind_none_ne r (d + 1) h4 hs a ha
