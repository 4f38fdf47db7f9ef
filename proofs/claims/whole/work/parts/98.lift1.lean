theorem subp_le {od : Nat → Nat → Nat} {cd : Nat → Nat} {c : Nat} : ∀ (t : Tr) (d k : Nat), sz (subp od cd c t d k) ≤ sz t
  | t, d, 0 => by cases t <;> simp [subp]
  | .leaf u, d, k + 1 => by simp [subp]
  | .branch q l r, d, k + 1 => by
    simp only [subp, sz]
    split
    · have := subp_le (od := od) (cd := cd) (c := c) l (d + 1) k; omega
    · have := subp_le (od := od) (cd := cd) (c := c) r (d + 1) k; omega
theorem rebt_perm {od : Nat → Nat → Nat} {cd : Nat → Nat} {c : Nat} {A : Tr} {o : Option Nat} (h : sz A < 256) : (ino (rebt od cd c A o)).Perm (ino A) := by
  cases o with
  | none => exact List.Perm.refl _
  | some k =>
    refine updp_perm A 0 k (kdl_perm 8 k _ ?_)
    have := subp_le (od := od) (cd := cd) (c := c) A 0 k
    rw [ino_len]; omega
/-- the scapegoat tree and the model's rows -/
def KK1 (ow : xO) (S : xS) (t n : Nat) (c : Nat → Nat) (al : Nat → Bool) (sp : Nat → Nat) : Prop := ∃ (cd : Nat → Nat) (A : Tr) (pq pn rw rn : Nat), CL cv1 1999 2 200 1 ow S t cd A pq pn rw rn ∧ SI n c sp cd A ∧ (∀ i, i < n → ∀ a ∈ ino A, cd a = c i → alv S.2.2.1 a = al i) ∧ S.2.2.1 t 3 = nI (cn al n)
theorem KK1.agree {d : Nat} {ow ow1 : xO} {S S1 : xS} {t n : Nat} {c : Nat → Nat} {al : Nat → Bool} {sp : Nat → Nat} (h : KK1 ow S t n c al sp) (hf : FRO d ow ow1 S S1) (hd : 1 ≠ d) : KK1 ow1 S1 t n c al sp ∧ S1.2.2.1 t = S.2.2.1 t := by
  obtain ⟨cd, A, pq, pn, rw_, rn, h1, h2, h3, h4⟩ := h
  have hnz := h1.nz
  have hag : ∀ q, q = t ∨ q ∈ ino A → S1.2.2.1 q = S.2.2.1 q := fun q hq => (hf.ag hd (hnz q (by rcases hq with h | h <;> simp [h])) (h1.2 q (by rcases hq with h | h <;> simp [h]))).2.2.2.2.2.1
  refine ⟨⟨cd, A, pq, pn, rw_, rn, h1.agree hf hd, h2, fun i hi a ha e => ?_, by rw [hag t (by simp)]; exact h4⟩, hag t (by simp)⟩
  rw [← h3 i hi a ha e]
  simp only [alv]
  rw [hag a (by simp [ha])]
theorem FRL.fro {c : Nat} {ow : xO} {K N : Nat → Nat} {I I1 : Nat → Nat → Int32} {Q Q1 : Nat → Nat → Option Nat} {J : Nat → Nat → Int64} {t pq pn rw rn : Nat} {as : List Nat} (h : FRL K t pq pn rw rn as I I1 Q Q1) (ho : ∀ q, q = t ∨ q = pq ∨ q = pn ∨ q = rw ∨ q = rn ∨ q ∈ as → ow q = c) : FRO c ow ow (K, N, I, Q, J) (K, N, I1, Q1, J) := FRO.of rfl fun q hq => ⟨rfl, rfl, rfl, fun hc => h q hq (fun z => hc (ho q (by simp [z]))) (fun z => hc (ho q (by simp [z]))) (fun z => hc (ho q (by simp [z]))) (fun z => hc (ho q (by simp [z]))) (fun z => hc (ho q (by simp [z]))) (fun z => hc (ho q (by simp [z])))⟩
theorem FRL.fron {c v : Nat} {ow : xO} {K N K1 : Nat → Nat} {I I1 : Nat → Nat → Int32} {Q Q1 : Nat → Nat → Option Nat} {J : Nat → Nat → Int64} {t pq pn rw rn x : Nat} {as : List Nat} (h : FRL K t pq pn rw rn as I I1 Q Q1) (ho : ∀ q, q = t ∨ q = pq ∨ q = pn ∨ q = rw ∨ q = rn ∨ q ∈ as → ow q = c) (hv : K v = 0) (hK : K1 = x_up K v x) : FRO c ow (x_up ow v c) (K, N, I, Q, J) (K1, N, I1, Q1, J) := FRO.of rfl fun q hq => by
  have hqv : q ≠ v := fun e => hq (by rw [e]; exact hv)
  exact ⟨x_up_n _ _ hqv, by rw [hK]; exact x_up_n _ _ hqv, rfl, fun hc => h q hq (fun z => hc (ho q (by simp [z]))) (fun z => hc (ho q (by simp [z]))) (fun z => hc (ho q (by simp [z]))) (fun z => hc (ho q (by simp [z]))) (fun z => hc (ho q (by simp [z]))) (fun z => hc (ho q (by simp [z])))⟩
theorem SI_inj {n : Nat} {c sp cd : Nat → Nat} {A : Tr} (h : SI n c sp cd A) : ∀ i j, i < n → j < n → c i = c j → i = j := fun i j hi hj e => UP_inj h.2.2.2.1 hi hj e
theorem SI_has {n : Nat} {c sp cd : Nat → Nat} {A : Tr} (h : SI n c sp cd A) {k : Nat} (hk : k < n) : ∃ q0 ∈ ino A, cd q0 = c k ∧ sfind od1 cd (c k) A 0 = some q0 := by
  obtain ⟨q0, h1, h2⟩ := (RT_pos h.1 (SI_inj h) hk).mp (h.2.2.2.2.1 k hk)
  exact ⟨q0, h1, h2, sfind_of (SRT_BSF h.2.1) h1 h2⟩
theorem SI_ht {n : Nat} {c sp cd : Nat → Nat} {A : Tr} (h : SI n c sp cd A) (hn : n ≤ 201) : ht A ≤ 14 := by
  have h1 := SI_sz h
  have h2 := bnd_201 (sz A) (by omega)
  have h3 := h.2.2.2.2.2
  omega
set_option maxHeartbeats 4000000 in
theorem k1_enterD (l : Launch) (G : xG) {K N : Nat → Nat} {I : Nat → Nat → Int32} {Q : Nat → Nat → Option Nat} {J : Nat → Nat → Int64} {t n k : Nat} {c sp : Nat → Nat} {al : Nat → Bool} {ow : xO} (h : KK1 ow (K, N, I, Q, J) t n c al sp) (hn : n ≤ 200) (hk : k < n) (hcb : c k < 1999) (hal : al k = false) : XM l yX2_enter cX2_enter 4 none rm_X2_enterF_1 G Rv [.ref t, .int (cv1 (c k))] (K, N, I, Q, J) (fun _ S1 => ∃ ow1, FRO 1 ow ow1 (K, N, I, Q, J) S1 ∧ KK1 ow1 S1 t n c (x_up al k true) sp ∧ S1.2.2.1 t 4 = I t 4 ∧ S1.2.2.1 t 5 = I t 5) := by
  obtain ⟨cd, A, pq, pn, rw_, rn, hC, hS, hA, h3⟩ := h
  have hsz := SI_sz hS
  have hht := SI_ht hS (by omega)
  have hu := SI_inj hS
  have hcap := hC.1.2.2.2.2.2.2.1
  obtain ⟨q0, hq0, hq1, hf⟩ := SI_has hS hk
  refine XM.mono (c_X2_enterF_1 l G t pq pn rw_ rn 200 (c k) q0 (cn al n) A cd hC.1 (by omega) hcb hf h3) (fun r S1 hp => ?_)
  obtain ⟨I1, Q1, rfl, hL1, hfr, hal1, d3, d4, d5⟩ := hp
  refine ⟨ow, hfr.fro hC.2, ⟨cd, A, pq, pn, rw_, rn, ⟨hL1, hC.2⟩, hS, fun i hi a ha e => ?_, by rw [cn_set hk hal]; exact d3⟩, d4, d5⟩
  have h9 := (hal1 a ha).2
  show alv I1 a = _
  by_cases ea : a = q0
  · have : i = k := hu i k hi hk (by rw [← e, ea, hq1])
    subst this
    rw [if_pos ea] at h9
    simp only [alv, h9, x_up_s]
    decide
  · have hik : i ≠ k := fun z => ea (hC.1.2.2.2.2.2.1 a ha q0 hq0 (by rw [e, z, hq1]))
    rw [if_neg ea] at h9
    rw [x_up_n _ _ hik, ← hA i hi a ha e]
    simp only [alv, h9]
/-- the new leaf's place in the model -/
def hpl1 (n : Nat) (c sp : Nat → Nat) (cc : Nat) : Nat := (leafW (fun p => lastF (fun i => decide (sp i = p)) n) (fun j => decide (cc < c j)) 28 1).getD 0
theorem SI_new {n : Nat} {c sp cd : Nat → Nat} {A : Tr} (h : SI n c sp cd A) {cc : Nat} (hnew : ∀ i, i < n → c i ≠ cc) : ∀ a ∈ ino A, cd a ≠ cc := fun a ha e => by
  obtain ⟨k, k1, k2, k3, -⟩ := RT_row h.1 ha
  exact hnew k k1 (by rw [k3, e])
set_option maxHeartbeats 4000000 in
theorem k1_enterN (l : Launch) (G : xG) {K N : Nat → Nat} {I : Nat → Nat → Int32} {Q : Nat → Nat → Option Nat} {J : Nat → Nat → Int64} {t n cc : Nat} {c sp : Nat → Nat} {al : Nat → Bool} {ow : xO} (h : KK1 ow (K, N, I, Q, J) t n c al sp) (hn : n ≤ 200) (hn2 : n < 200) (hcb : cc < 1999) (hnew : ∀ i, i < n → c i ≠ cc) : XM l yX2_enter cX2_enter 4 none rm_X2_enterN_1 G Rv [.ref t, .int (cv1 cc)] (K, N, I, Q, J) (fun _ S1 => ∃ ow1, FRO 1 ow ow1 (K, N, I, Q, J) S1 ∧ KK1 ow1 S1 t (n + 1) (ins c (insP (fun k => decide (cc < c k)) n) cc) (ins al (insP (fun k => decide (cc < c k)) n) true) (grS (n + 1) (ins sp (insP (fun k => decide (cc < c k)) n) (hpl1 n c sp cc)) (insP (fun k => decide (cc < c k)) n)) ∧ S1.2.2.1 t 4 = I t 4 + nI (grW (n + 1) (ins sp (insP (fun k => decide (cc < c k)) n) (hpl1 n c sp cc)) (insP (fun k => decide (cc < c k)) n)) ∧ S1.2.2.1 t 5 = I t 5) := by
  obtain ⟨cd, A, pq, pn, rw_, rn, hC, hS, hA, h3⟩ := h
  have hsz := SI_sz hS
  have hht := SI_ht hS (by omega)
  have hu := SI_inj hS
  have hcap := hC.1.2.2.2.2.2.2.1
  have hcode := SI_new hS hnew
  refine XM.mono (c_X2_enterN_1 l G t pq pn rw_ rn 200 cc (cn al n) A cd hC.1 (by omega) hcb (sfind_no hcode) hcode (by omega) h3) (fun r S1 hp => ?_)
  obtain ⟨v, K1, I1, Q1, rfl, fv, eK1, hL1, hfr, hal1, hv1, d3, d4, d5⟩ := hp
  have hnA := hC.1.2.2.2.2.1
  have hvA : v ∉ ino A := fun hm => by have := (hnA v hm).1; simp only [] at this; omega
  obtain ⟨e1, e2, e3, e4, e5⟩ := SI_add hS hn hvA hcode
  have ep : hpl1 n c sp cc = hpl (fpF cd cc A) 1 := by unfold hpl1; rw [e1]; rfl
  rw [← ep] at e4 e5
  have hle := insP_le (fun k => decide (cc < c k)) n
  obtain ⟨p1, p2⟩ := insP_ok hS.2.2.2.1 hnew
  have hmem : ∀ a, a ∈ ino (rebt od1 (x_up cd v cc) cc (insA od1 cd cc v A 0) (rdep1 (x_up cd v cc) cc (insA od1 cd cc v A 0) (spath od1 cd cc A 0).length)) ↔ a = v ∨ a ∈ ino A := fun a => by
    rw [(rebt_perm (by rw [insA_sz]; omega)).mem_iff, insA_mem]
  have vne : ∀ q, K q ≠ 0 → q ≠ v := fun q hq e => hq (by rw [e]; exact fv)
  have hnz := hC.nz
  refine ⟨x_up ow v 1, hfr.fron hC.2 fv eK1, ⟨x_up cd v cc, _, pq, pn, rw_, rn, ⟨hL1, fun q hq => ?_⟩, e4, fun i hi a ha e => ?_, by rw [cn_ins hle, if_pos rfl]; exact d3⟩, by rw [← e5] at d4; exact d4, d5⟩
  · by_cases ev : q = v
    · rw [ev, x_up_s]
    · rw [x_up_n _ _ ev]
      refine hC.2 q ?_
      rw [hmem] at hq
      rcases hq with h | h | h | h | h | h | h
      · exact Or.inl h
      · exact Or.inr (Or.inl h)
      · exact Or.inr (Or.inr (Or.inl h))
      · exact Or.inr (Or.inr (Or.inr (Or.inl h)))
      · exact Or.inr (Or.inr (Or.inr (Or.inr (Or.inl h))))
      · exact absurd h ev
      · exact Or.inr (Or.inr (Or.inr (Or.inr (Or.inr h))))
  · show alv I1 a = _
    have hup1 := e4.2.2.2.1
    rcases (hmem a).mp ha with ea | ea
    · subst ea
      rw [x_up_s] at e
      have : i = (insP (fun k => decide (cc < c k)) n) := UP_inj hup1 hi (by omega) (by rw [← e, ins_at])
      rw [this, ins_at]
      simp only [alv, hv1]
      decide
    · have ev : a ≠ v := fun z => hvA (z ▸ ea)
      rw [x_up_n _ _ ev] at e
      have h9 := (hal1 a ea).2
      have h8 : alv I1 a = alv I a := by simp only [alv, h9]
      rw [h8]
      unfold ins at e ⊢
      by_cases c1 : i < (insP (fun k => decide (cc < c k)) n)
      · rw [if_pos c1] at e ⊢
        exact hA i (by omega) a ea e
      · rw [if_neg c1] at e ⊢
        by_cases c2 : i = (insP (fun k => decide (cc < c k)) n)
        · rw [if_pos c2] at e
          exact absurd e (hcode a ea)
        · rw [if_neg c2] at e ⊢
          exact hA (i - 1) (by omega) a ea e
set_option maxHeartbeats 4000000 in
theorem k1_retireK (l : Launch) (G : xG) {K N : Nat → Nat} {I : Nat → Nat → Int32} {Q : Nat → Nat → Option Nat} {J : Nat → Nat → Int64} {t n k : Nat} {c sp : Nat → Nat} {al : Nat → Bool} {ow : xO} (h : KK1 ow (K, N, I, Q, J) t n c al sp) (hn : n ≤ 200) (hk : k < n) (hcb : c k < 1999) (hal : al k = true) (hcond : n - (cn (x_up al k false) n) ≤ (cn (x_up al k false) n)) : XM l yX2_retire cX2_retire 3 none rm_X2_retire_1 G Rv [.ref t, .int (cv1 (c k))] (K, N, I, Q, J) (fun _ S1 => ∃ ow1, FRO 1 ow ow1 (K, N, I, Q, J) S1 ∧ KK1 ow1 S1 t n c (x_up al k false) sp ∧ S1.2.2.1 t 4 = I t 4 ∧ S1.2.2.1 t 5 = I t 5) := by
  obtain ⟨cd, A, pq, pn, rw_, rn, hC, hS, hA, h3⟩ := h
  have hsz := SI_sz hS
  have hht := SI_ht hS (by omega)
  have hu := SI_inj hS
  have hcap := hC.1.2.2.2.2.2.2.1
  obtain ⟨q0, hq0, hq1, hf⟩ := SI_has hS hk
  have hcl := cn_clr (n := n) hk hal
  have hcle := cn_le al n
  have hf2 : ∀ i, i < n → ∀ a ∈ ino A, cd a = c i → (a = q0 ↔ i = k) := fun i hi a ha e => ⟨fun ea => hu i k hi hk (by rw [← e, ea, hq1]), fun ei => hC.1.2.2.2.2.2.1 a ha q0 hq0 (by rw [e, ei, hq1])⟩
  refine XM.mono (c_X2_retire_1 l G t pq pn rw_ rn 200 (c k) q0 (cn (x_up al k false) n) A cd hC.1 (by omega) hcb hf (by rw [hA k hk q0 hq0 hq1]; exact hal) (by rw [hcl]; exact h3) (by omega)) (fun r S1 hp => ?_)
  obtain ⟨I1, Q1, rfl, hL1, hfr, hal1, d3, d4, d5⟩ := hp
  have hA1 : ∀ i, i < n → ∀ a ∈ ino A, cd a = c i → alv I1 a = (x_up al k false) i := fun i hi a ha e => by
    have h9 := (hal1 a ha).2
    by_cases ei : i = k
    · rw [if_pos ((hf2 i hi a ha e).mpr ei)] at h9
      rw [ei, x_up_s]
      simp only [alv, h9]
      decide
    · rw [if_neg (fun z => ei ((hf2 i hi a ha e).mp z))] at h9
      rw [x_up_n _ _ ei, ← hA i hi a ha e]
      simp only [alv, h9]
  rw [if_neg (by omega)] at hL1 d5
  exact ⟨ow, hfr.fro hC.2, ⟨cd, A, pq, pn, rw_, rn, ⟨hL1, hC.2⟩, hS, hA1, d3⟩, d4, d5⟩
set_option maxHeartbeats 4000000 in
theorem k1_retireD (l : Launch) (G : xG) {K N : Nat → Nat} {I : Nat → Nat → Int32} {Q : Nat → Nat → Option Nat} {J : Nat → Nat → Int64} {t n k : Nat} {c sp : Nat → Nat} {al : Nat → Bool} {ow : xO} (h : KK1 ow (K, N, I, Q, J) t n c al sp) (hn : n ≤ 200) (hk : k < n) (hcb : c k < 1999) (hal : al k = true) (hcond : (cn (x_up al k false) n) < n - (cn (x_up al k false) n)) : XM l yX2_retire cX2_retire 3 none rm_X2_retire_1 G Rv [.ref t, .int (cv1 (c k))] (K, N, I, Q, J) (fun _ S1 => ∃ ow1, FRO 1 ow ow1 (K, N, I, Q, J) S1 ∧ KK1 ow1 S1 t (cn (x_up al k false) n) (fun j => c (selF (x_up al k false) n j)) (fun _ => true) (fun j => layA 8 j 0 (cn (x_up al k false) n) 1) ∧ S1.2.2.1 t 4 = I t 4 ∧ S1.2.2.1 t 5 = I t 5 + nI 1) := by
  obtain ⟨cd, A, pq, pn, rw_, rn, hC, hS, hA, h3⟩ := h
  have hsz := SI_sz hS
  have hht := SI_ht hS (by omega)
  have hu := SI_inj hS
  have hcap := hC.1.2.2.2.2.2.2.1
  obtain ⟨q0, hq0, hq1, hf⟩ := SI_has hS hk
  have hcl := cn_clr (n := n) hk hal
  have hcle := cn_le al n
  have hf2 : ∀ i, i < n → ∀ a ∈ ino A, cd a = c i → (a = q0 ↔ i = k) := fun i hi a ha e => ⟨fun ea => hu i k hi hk (by rw [← e, ea, hq1]), fun ei => hC.1.2.2.2.2.2.1 a ha q0 hq0 (by rw [e, ei, hq1])⟩
  refine XM.mono (c_X2_retire_1 l G t pq pn rw_ rn 200 (c k) q0 (cn (x_up al k false) n) A cd hC.1 (by omega) hcb hf (by rw [hA k hk q0 hq0 hq1]; exact hal) (by rw [hcl]; exact h3) (by omega)) (fun r S1 hp => ?_)
  obtain ⟨I1, Q1, rfl, hL1, hfr, hal1, d3, d4, d5⟩ := hp
  have hA1 : ∀ i, i < n → ∀ a ∈ ino A, cd a = c i → alv I1 a = (x_up al k false) i := fun i hi a ha e => by
    have h9 := (hal1 a ha).2
    by_cases ei : i = k
    · rw [if_pos ((hf2 i hi a ha e).mpr ei)] at h9
      rw [ei, x_up_s]
      simp only [alv, h9]
      decide
    · rw [if_neg (fun z => ei ((hf2 i hi a ha e).mp z))] at h9
      rw [x_up_n _ _ ei, ← hA i hi a ha e]
      simp only [alv, h9]
  rw [if_pos (by omega)] at hL1 d5
  have eap : apd false I1 A = (ino A).filter (alv I1) := by unfold apd; simp
  rw [eap] at hL1
  obtain ⟨e1, e2⟩ := SI_drop (p := alv I1) hS (by omega) hA1
  have hmem : ∀ a, a ∈ ino (kdl od1 cd 8 0 ((ino A).filter (alv I1))) ↔ a ∈ (ino A).filter (alv I1) := fun a => (kdl_perm 8 0 _ (by
    have := List.length_filter_le (alv I1) (ino A)
    rw [ino_len] at this; omega)).mem_iff
  refine ⟨ow, hfr.fro hC.2, ⟨cd, _, pq, pn, rw_, rn, ⟨hL1, fun q hq => hC.2 q ?_⟩, e2, fun i hi a ha e => ?_, by rw [cn_true]; exact d3⟩, d4, d5⟩
  · rcases hq with h | h | h | h | h | h
    · exact Or.inl h
    · exact Or.inr (Or.inl h)
    · exact Or.inr (Or.inr (Or.inl h))
    · exact Or.inr (Or.inr (Or.inr (Or.inl h)))
    · exact Or.inr (Or.inr (Or.inr (Or.inr (Or.inl h))))
    · exact Or.inr (Or.inr (Or.inr (Or.inr (Or.inr (List.mem_filter.mp ((hmem q).mp h)).1))))
  · exact (List.mem_filter.mp ((hmem a).mp ha)).2
theorem KK1.path {ow : xO} {K N : Nat → Nat} {I : Nat → Nat → Int32} {Q : Nat → Nat → Option Nat} {J : Nat → Nat → Int64} {t n : Nat} {c sp cd : Nat → Nat} {al : Nat → Bool} {A : Tr} {pq pn rw_ rn : Nat} (hC : CL cv1 1999 2 200 1 ow (K, N, I, Q, J) t cd A pq pn rw_ rn) (hS : SI n c sp cd A) (hA : ∀ i, i < n → ∀ a ∈ ino A, cd a = c i → alv I a = al i) (h3 : I t 3 = nI (cn al n)) (v : Int32) (g : Nat → Option Nat) :
    FRO 1 ow ow (K, N, I, Q, J) (K, N, x_u2 I pq 1 v, x_up Q pn g, J) ∧ KK1 ow (K, N, x_u2 I pq 1 v, x_up Q pn g, J) t n c al sp ∧ (∀ j, x_u2 I pq 1 v t j = I t j) ∧ (∀ q ∈ ino A, x_u2 I pq 1 v q = I q) := by
  have hz := hC.1.1
  have hne := hz.ne
  have hN := hC.1.2.2.2.2.1
  have hi : ∀ q ∈ ino A, x_u2 I pq 1 v q = I q := fun q hq => x_u2_a _ _ (hz.nn (hN q hq).1).2.1
  have ht : ∀ j, x_u2 I pq 1 v t j = I t j := fun j => by rw [x_u2_a _ _ hne.1]
  refine ⟨FRO.of rfl fun q hq => ⟨rfl, rfl, rfl, fun hc => ⟨x_u2_a _ _ (fun e => hc (hC.2 q (by simp [e]))), x_up_n _ _ (fun e => hc (hC.2 q (by simp [e])))⟩⟩, ⟨cd, A, pq, pn, rw_, rn, ⟨hC.1.congr (fun q hq => ⟨congrFun (hi q hq) 0, congrFun (hi q hq) 2⟩) (fun q h1 _ => x_up_n _ _ h1), hC.2⟩, hS, fun i hi2 a ha e => ?_, by show x_u2 I pq 1 v t 3 = _; rw [ht]; exact h3⟩, ht, hi⟩
  show alv (x_u2 I pq 1 v) a = _
  rw [← hA i hi2 a ha e]
  simp only [alv]
  rw [hi a ha]
theorem WT_plug {I : Nat → Nat → Int32} : ∀ {F : List Fr} {q : Nat} {l r : Tr}, WT I (plug F (.branch q l r)) → I q 2 = nI (sz (.branch q l r : Tr))
  | [], q, l, r, h => h.1
  | (q', b, s) :: F, q, l, r, h => by
    cases b with
    | true => exact WT_plug (F := F) h.2.1
    | false => exact WT_plug (F := F) h.2.2
set_option maxHeartbeats 4000000 in
theorem k1_depthY (l : Launch) (G : xG) {K N : Nat → Nat} {I : Nat → Nat → Int32} {Q : Nat → Nat → Option Nat} {J : Nat → Nat → Int64} {t n k : Nat} {c sp : Nat → Nat} {al : Nat → Bool} {ow : xO} (h : KK1 ow (K, N, I, Q, J) t n c al sp) (hn : n ≤ 200) (hk : k < n) (hcb : c k < 1999) : XM l yX2_depthOf cX2_depthOf 2 (some .int) rm_X2_depthOf_1 G Ri [.ref t, .int (cv1 (c k))] (K, N, I, Q, J) (fun r S1 => r = nI (dep (sp k)) ∧ FRO 1 ow ow (K, N, I, Q, J) S1 ∧ KK1 ow S1 t n c al sp ∧ (∀ j, S1.2.2.1 t j = I t j)) := by
  obtain ⟨cd, A, pq, pn, rw_, rn, hC, hS, hA, h3⟩ := h
  have hsz := SI_sz hS
  have hht := SI_ht hS (by omega)
  have hu := SI_inj hS
  have hcap := hC.1.2.2.2.2.2.2.1
  obtain ⟨q0, hq0, hq1, hf⟩ := SI_has hS hk
  refine XM.mono (c_X2_depthOf_1 l G t pq pn rw_ rn 200 (c k) A cd hC.1.1 hC.1.2.1 hC.1.2.2.2.2.1 (by omega) hcb) (fun r S1 hp => ?_)
  obtain ⟨hr, g, rfl, -⟩ := hp
  obtain ⟨p1, p2, p3, -⟩ := KK1.path hC hS hA h3 (nI (spath od1 cd (c k) A 0).length) g
  obtain ⟨F, l_, r_, f1, f2, -⟩ := RT_found hS.1 hu hf hk rfl
  refine ⟨?_, p1, p2, p3⟩
  rw [hr, hf, f2]
  simp only [Option.isSome_some, if_true]
  rw [pk_sub (by omega), Nat.add_sub_cancel]
set_option maxHeartbeats 4000000 in
theorem k1_depthN (l : Launch) (G : xG) {K N : Nat → Nat} {I : Nat → Nat → Int32} {Q : Nat → Nat → Option Nat} {J : Nat → Nat → Int64} {t n : Nat} {x : Int32} {c sp : Nat → Nat} {al : Nat → Bool} {ow : xO} (h : KK1 ow (K, N, I, Q, J) t n c al sp) (hn : n ≤ 200) (hno : ∀ i, i < n → ¬ cv1 (c i) = x) : XM l yX2_depthOf cX2_depthOf 2 (some .int) rm_X2_depthOfO G Ri [.ref t, .int x] (K, N, I, Q, J) (fun r S1 => r = (-1) ∧ FRO 1 ow ow (K, N, I, Q, J) S1 ∧ KK1 ow S1 t n c al sp ∧ (∀ j, S1.2.2.1 t j = I t j)) := by
  obtain ⟨cd, A, pq, pn, rw_, rn, hC, hS, hA, h3⟩ := h
  have hsz := SI_sz hS
  have hht := SI_ht hS (by omega)
  have hu := SI_inj hS
  have hcap := hC.1.2.2.2.2.2.2.1
  have hnx : ∀ a ∈ ino A, ¬ I a 0 = x := fun a ha e => by
    obtain ⟨k, k1, k2, k3, -⟩ := RT_row hS.1 ha
    exact hno k k1 (by rw [k3, ← e]; exact ((hC.1.2.2.2.2.1 a ha).2.1).symm)
  refine XM.mono (c_X2_depthOfO l G t pq pn rw_ rn 200 x A hC.1.1 hC.1.2.1 hnx (by omega)) (fun r S1 hp => ?_)
  obtain ⟨hr, n1, g, rfl⟩ := hp
  obtain ⟨p1, p2, p3, -⟩ := KK1.path hC hS hA h3 (nI n1) g
  exact ⟨hr, p1, p2, p3⟩
set_option maxHeartbeats 4000000 in
theorem k1_findY (l : Launch) (G : xG) {K N : Nat → Nat} {I : Nat → Nat → Int32} {Q : Nat → Nat → Option Nat} {J : Nat → Nat → Int64} {t n k : Nat} {c sp : Nat → Nat} {al : Nat → Bool} {ow : xO} (h : KK1 ow (K, N, I, Q, J) t n c al sp) (hn : n ≤ 200) (hk : k < n) (hcb : c k < 1999) : XM l yX2_find cX2_find 4 (some (.object "ScapegoatSpur$Node")) rm_X2_find_1 G Rq [.ref t, .int (cv1 (c k))] (K, N, I, Q, J) (fun r S1 => (∃ q0, r = some q0 ∧ S1.1 q0 = 3 ∧ S1.2.2.1 q0 2 = nI (cnW n sp (sp k))) ∧ FRO 1 ow ow (K, N, I, Q, J) S1 ∧ KK1 ow S1 t n c al sp ∧ (∀ j, S1.2.2.1 t j = I t j)) := by
  obtain ⟨cd, A, pq, pn, rw_, rn, hC, hS, hA, h3⟩ := h
  have hsz := SI_sz hS
  have hht := SI_ht hS (by omega)
  have hu := SI_inj hS
  have hcap := hC.1.2.2.2.2.2.2.1
  obtain ⟨q0, hq0, hq1, hf⟩ := SI_has hS hk
  refine XM.mono (c_X2_find_1 l G t pq pn rw_ rn 200 (c k) A cd hC.1.1 hC.1.2.1 hC.1.2.2.2.2.1 (by omega) hcb) (fun r S1 hp => ?_)
  obtain ⟨hr, g, rfl, -⟩ := hp
  obtain ⟨p1, p2, p3, p4⟩ := KK1.path hC hS hA h3 (nI (spath od1 cd (c k) A 0).length) g
  obtain ⟨F, l_, r_, f1, f2, f3, -⟩ := RT_found hS.1 hu hf hk rfl
  refine ⟨⟨q0, by rw [hr, hf], (hC.1.2.2.2.2.1 q0 hq0).1, ?_⟩, p1, p2, p3⟩
  show x_u2 I pq 1 _ q0 2 = _
  rw [p4 q0 hq0, f3]
  have hW := hC.1.2.2.1
  rw [f1] at hW
  exact WT_plug hW
set_option maxHeartbeats 4000000 in
theorem k1_findN (l : Launch) (G : xG) {K N : Nat → Nat} {I : Nat → Nat → Int32} {Q : Nat → Nat → Option Nat} {J : Nat → Nat → Int64} {t n : Nat} {x : Int32} {c sp : Nat → Nat} {al : Nat → Bool} {ow : xO} (h : KK1 ow (K, N, I, Q, J) t n c al sp) (hn : n ≤ 200) (hno : ∀ i, i < n → ¬ cv1 (c i) = x) : XM l yX2_find cX2_find 4 (some (.object "ScapegoatSpur$Node")) rm_X2_findO G Rq [.ref t, .int x] (K, N, I, Q, J) (fun r S1 => r = none ∧ FRO 1 ow ow (K, N, I, Q, J) S1 ∧ KK1 ow S1 t n c al sp ∧ (∀ j, S1.2.2.1 t j = I t j)) := by
  obtain ⟨cd, A, pq, pn, rw_, rn, hC, hS, hA, h3⟩ := h
  have hsz := SI_sz hS
  have hht := SI_ht hS (by omega)
  have hu := SI_inj hS
  have hcap := hC.1.2.2.2.2.2.2.1
  have hnx : ∀ a ∈ ino A, ¬ I a 0 = x := fun a ha e => by
    obtain ⟨k, k1, k2, k3, -⟩ := RT_row hS.1 ha
    exact hno k k1 (by rw [k3, ← e]; exact ((hC.1.2.2.2.2.1 a ha).2.1).symm)
  refine XM.mono (c_X2_findO l G t pq pn rw_ rn 200 x A hC.1.1 hC.1.2.1 hnx (by omega)) (fun r S1 hp => ?_)
  obtain ⟨hr, n1, g, rfl⟩ := hp
  obtain ⟨p1, p2, p3, -⟩ := KK1.path hC hS hA h3 (nI n1) g
  exact ⟨hr, p1, p2, p3⟩
