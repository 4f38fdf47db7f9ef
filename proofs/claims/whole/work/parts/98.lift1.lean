theorem subp_le {od : Nat → Nat → Nat} {cd : Nat → Nat} {c : Nat} : ∀ (t : Tr) (d k : Nat), sz (subp od cd c t d k) ≤ sz t
  | t, d, 0 => by cases t <;> simp [subp]
  | .leaf u, d, k + 1 => by simp [subp]
  | .branch q l r, d, k + 1 => by
    simp only [subp, sz]
    split
    · have := subp_le (od := od) (cd := cd) (c := c) l (d + 1) k; omega
    · have := subp_le (od := od) (cd := cd) (c := c) r (d + 1) k; omega
theorem rebt_perm {od : Nat → Nat → Nat} {cd : Nat → Nat} {c : Nat} {A : Tr} {o : Option Nat} (h : sz A < 256) : (ino (rebt od cd c A o)).Perm (ino A) := by
  cases o with
  | none => exact List.Perm.refl _
  | some k =>
    refine updp_perm A 0 k (kdl_perm 8 k _ ?_)
    have := subp_le (od := od) (cd := cd) (c := c) A 0 k
    rw [ino_len]; omega
/-- the scapegoat tree and the model's rows -/
def KK1 (ow : xO) (S : xS) (t n : Nat) (c : Nat → Nat) (al : Nat → Bool) (sp : Nat → Nat) : Prop := ∃ (cd : Nat → Nat) (A : Tr) (pq pn rw rn : Nat), CL cv1 1999 2 200 1 ow S t cd A pq pn rw rn ∧ SI n c sp cd A ∧ (∀ i, i < n → ∀ a ∈ ino A, cd a = c i → alv S.2.2.1 a = al i) ∧ S.2.2.1 t 3 = nI (cn al n)
theorem KK1.agree {d : Nat} {ow ow1 : xO} {S S1 : xS} {t n : Nat} {c : Nat → Nat} {al : Nat → Bool} {sp : Nat → Nat} (h : KK1 ow S t n c al sp) (hf : FRO d ow ow1 S S1) (hd : 1 ≠ d) : KK1 ow1 S1 t n c al sp ∧ S1.2.2.1 t = S.2.2.1 t := by
  obtain ⟨cd, A, pq, pn, rw_, rn, h1, h2, h3, h4⟩ := h
  have hnz := h1.nz
  have hag : ∀ q, q = t ∨ q ∈ ino A → S1.2.2.1 q = S.2.2.1 q := fun q hq => (hf.ag hd (hnz q (by rcases hq with h | h <;> simp [h])) (h1.2 q (by rcases hq with h | h <;> simp [h]))).2.2.2.2.2.1
  refine ⟨⟨cd, A, pq, pn, rw_, rn, h1.agree hf hd, h2, fun i hi a ha e => ?_, by rw [hag t (by simp)]; exact h4⟩, hag t (by simp)⟩
  rw [← h3 i hi a ha e]
  simp only [alv]
  rw [hag a (by simp [ha])]
theorem FRL.fro {c : Nat} {ow : xO} {K N : Nat → Nat} {I I1 : Nat → Nat → Int32} {Q Q1 : Nat → Nat → Option Nat} {J : Nat → Nat → Int64} {t pq pn rw rn : Nat} {as : List Nat} (h : FRL K t pq pn rw rn as I I1 Q Q1) (ho : ∀ q, q = t ∨ q = pq ∨ q = pn ∨ q = rw ∨ q = rn ∨ q ∈ as → ow q = c) : FRO c ow ow (K, N, I, Q, J) (K, N, I1, Q1, J) := fun q hq => ⟨rfl, rfl, rfl, fun hc => h q hq (fun z => hc (ho q (by simp [z]))) (fun z => hc (ho q (by simp [z]))) (fun z => hc (ho q (by simp [z]))) (fun z => hc (ho q (by simp [z]))) (fun z => hc (ho q (by simp [z]))) (fun z => hc (ho q (by simp [z])))⟩
theorem FRL.fron {c v : Nat} {ow : xO} {K N K1 : Nat → Nat} {I I1 : Nat → Nat → Int32} {Q Q1 : Nat → Nat → Option Nat} {J : Nat → Nat → Int64} {t pq pn rw rn x : Nat} {as : List Nat} (h : FRL K t pq pn rw rn as I I1 Q Q1) (ho : ∀ q, q = t ∨ q = pq ∨ q = pn ∨ q = rw ∨ q = rn ∨ q ∈ as → ow q = c) (hv : K v = 0) (hK : K1 = x_up K v x) : FRO c ow (x_up ow v c) (K, N, I, Q, J) (K1, N, I1, Q1, J) := fun q hq => by
  have hqv : q ≠ v := fun e => hq (by rw [e]; exact hv)
  exact ⟨x_up_n _ _ hqv, by rw [hK]; exact x_up_n _ _ hqv, rfl, fun hc => h q hq (fun z => hc (ho q (by simp [z]))) (fun z => hc (ho q (by simp [z]))) (fun z => hc (ho q (by simp [z]))) (fun z => hc (ho q (by simp [z]))) (fun z => hc (ho q (by simp [z]))) (fun z => hc (ho q (by simp [z])))⟩
theorem SI_inj {n : Nat} {c sp cd : Nat → Nat} {A : Tr} (h : SI n c sp cd A) : ∀ i j, i < n → j < n → c i = c j → i = j := fun i j hi hj e => UP_inj h.2.2.2.1 hi hj e
theorem SI_has {n : Nat} {c sp cd : Nat → Nat} {A : Tr} (h : SI n c sp cd A) {k : Nat} (hk : k < n) : ∃ q0 ∈ ino A, cd q0 = c k ∧ sfind od1 cd (c k) A 0 = some q0 := by
  obtain ⟨q0, h1, h2⟩ := (RT_pos h.1 (SI_inj h) hk).mp (h.2.2.2.2.1 k hk)
  exact ⟨q0, h1, h2, sfind_of (SRT_BSF h.2.1) h1 h2⟩
theorem SI_ht {n : Nat} {c sp cd : Nat → Nat} {A : Tr} (h : SI n c sp cd A) (hn : n ≤ 201) : ht A ≤ 14 := by
  have h1 := SI_sz h
  have h2 := bnd_201 (sz A) (by omega)
  have h3 := h.2.2.2.2.2
  omega
set_option maxHeartbeats 4000000 in
theorem k1_enterD (l : Launch) (G : xG) {K N : Nat → Nat} {I : Nat → Nat → Int32} {Q : Nat → Nat → Option Nat} {J : Nat → Nat → Int64} {t n k : Nat} {c sp : Nat → Nat} {al : Nat → Bool} {ow : xO} (h : KK1 ow (K, N, I, Q, J) t n c al sp) (hn : n ≤ 200) (hk : k < n) (hcb : c k < 1999) (hal : al k = false) : XM l yX2_enter cX2_enter 4 none rm_X2_enterF_1 G Rv [.ref t, .int (cv1 (c k))] (K, N, I, Q, J) (fun _ S1 => ∃ ow1, FRO 1 ow ow1 (K, N, I, Q, J) S1 ∧ KK1 ow1 S1 t n c (x_up al k true) sp ∧ S1.2.2.1 t 4 = I t 4 ∧ S1.2.2.1 t 5 = I t 5) := by
  obtain ⟨cd, A, pq, pn, rw_, rn, hC, hS, hA, h3⟩ := h
  have hsz := SI_sz hS
  have hht := SI_ht hS (by omega)
  have hu := SI_inj hS
  have hcap := hC.1.2.2.2.2.2.2.1
  obtain ⟨q0, hq0, hq1, hf⟩ := SI_has hS hk
  refine XM.mono (c_X2_enterF_1 l G t pq pn rw_ rn 200 (c k) q0 (cn al n) A cd hC.1 (by omega) hcb hf h3) (fun r S1 hp => ?_)
  obtain ⟨I1, Q1, rfl, hL1, hfr, hal1, d3, d4, d5⟩ := hp
  refine ⟨ow, hfr.fro hC.2, ⟨cd, A, pq, pn, rw_, rn, ⟨hL1, hC.2⟩, hS, fun i hi a ha e => ?_, by rw [cn_set hk hal]; exact d3⟩, d4, d5⟩
  have h9 := (hal1 a ha).2
  show alv I1 a = _
  by_cases ea : a = q0
  · have : i = k := hu i k hi hk (by rw [← e, ea, hq1])
    subst this
    rw [if_pos ea] at h9
    simp only [alv, h9, x_up_s]
    decide
  · have hik : i ≠ k := fun z => ea (hC.1.2.2.2.2.2.1 a ha q0 hq0 (by rw [e, z, hq1]))
    rw [if_neg ea] at h9
    rw [x_up_n _ _ hik, ← hA i hi a ha e]
    simp only [alv, h9]
/-- the new leaf's place in the model -/
def hpl1 (n : Nat) (c sp : Nat → Nat) (cc : Nat) : Nat := (leafW (fun p => lastF (fun i => decide (sp i = p)) n) (fun j => decide (cc < c j)) 28 1).getD 0
theorem SI_new {n : Nat} {c sp cd : Nat → Nat} {A : Tr} (h : SI n c sp cd A) {cc : Nat} (hnew : ∀ i, i < n → c i ≠ cc) : ∀ a ∈ ino A, cd a ≠ cc := fun a ha e => by
  obtain ⟨k, k1, k2, k3, -⟩ := RT_row h.1 ha
  exact hnew k k1 (by rw [k3, e])
set_option maxHeartbeats 4000000 in
theorem k1_enterN (l : Launch) (G : xG) {K N : Nat → Nat} {I : Nat → Nat → Int32} {Q : Nat → Nat → Option Nat} {J : Nat → Nat → Int64} {t n cc : Nat} {c sp : Nat → Nat} {al : Nat → Bool} {ow : xO} (h : KK1 ow (K, N, I, Q, J) t n c al sp) (hn : n ≤ 200) (hn2 : n < 200) (hcb : cc < 1999) (hnew : ∀ i, i < n → c i ≠ cc) : XM l yX2_enter cX2_enter 4 none rm_X2_enterN_1 G Rv [.ref t, .int (cv1 cc)] (K, N, I, Q, J) (fun _ S1 => ∃ ow1, FRO 1 ow ow1 (K, N, I, Q, J) S1 ∧ KK1 ow1 S1 t (n + 1) (ins c (insP (fun k => decide (cc < c k)) n) cc) (ins al (insP (fun k => decide (cc < c k)) n) true) (grS (n + 1) (ins sp (insP (fun k => decide (cc < c k)) n) (hpl1 n c sp cc)) (insP (fun k => decide (cc < c k)) n)) ∧ S1.2.2.1 t 4 = I t 4 + nI (grW (n + 1) (ins sp (insP (fun k => decide (cc < c k)) n) (hpl1 n c sp cc)) (insP (fun k => decide (cc < c k)) n)) ∧ S1.2.2.1 t 5 = I t 5) := by
  obtain ⟨cd, A, pq, pn, rw_, rn, hC, hS, hA, h3⟩ := h
  have hsz := SI_sz hS
  have hht := SI_ht hS (by omega)
  have hu := SI_inj hS
  have hcap := hC.1.2.2.2.2.2.2.1
  have hcode := SI_new hS hnew
  refine XM.mono (c_X2_enterN_1 l G t pq pn rw_ rn 200 cc (cn al n) A cd hC.1 (by omega) hcb (sfind_no hcode) hcode (by omega) h3) (fun r S1 hp => ?_)
  obtain ⟨v, K1, I1, Q1, rfl, fv, eK1, hL1, hfr, hal1, hv1, d3, d4, d5⟩ := hp
  have hnA := hC.1.2.2.2.2.1
  have hvA : v ∉ ino A := fun hm => by have := (hnA v hm).1; simp only [] at this; omega
  obtain ⟨e1, e2, e3, e4, e5⟩ := SI_add hS hn hvA hcode
  have ep : hpl1 n c sp cc = hpl (fpF cd cc A) 1 := by unfold hpl1; rw [e1]; rfl
  rw [← ep] at e4 e5
  have hle := insP_le (fun k => decide (cc < c k)) n
  obtain ⟨p1, p2⟩ := insP_ok hS.2.2.2.1 hnew
  have hmem : ∀ a, a ∈ ino (rebt od1 (x_up cd v cc) cc (insA od1 cd cc v A 0) (rdep1 (x_up cd v cc) cc (insA od1 cd cc v A 0) (spath od1 cd cc A 0).length)) ↔ a = v ∨ a ∈ ino A := fun a => by
    rw [(rebt_perm (by rw [insA_sz]; omega)).mem_iff, insA_mem]
  have vne : ∀ q, K q ≠ 0 → q ≠ v := fun q hq e => hq (by rw [e]; exact fv)
  have hnz := hC.nz
  refine ⟨x_up ow v 1, hfr.fron hC.2 fv eK1, ⟨x_up cd v cc, _, pq, pn, rw_, rn, ⟨hL1, fun q hq => ?_⟩, e4, fun i hi a ha e => ?_, by rw [cn_ins hle, if_pos rfl]; exact d3⟩, by rw [← e5] at d4; exact d4, d5⟩
  · by_cases ev : q = v
    · rw [ev, x_up_s]
    · rw [x_up_n _ _ ev]
      refine hC.2 q ?_
      rw [hmem] at hq
      rcases hq with h | h | h | h | h | h | h
      · exact Or.inl h
      · exact Or.inr (Or.inl h)
      · exact Or.inr (Or.inr (Or.inl h))
      · exact Or.inr (Or.inr (Or.inr (Or.inl h)))
      · exact Or.inr (Or.inr (Or.inr (Or.inr (Or.inl h))))
      · exact absurd h ev
      · exact Or.inr (Or.inr (Or.inr (Or.inr (Or.inr h))))
  · show alv I1 a = _
    have hup1 := e4.2.2.2.1
    rcases (hmem a).mp ha with ea | ea
    · subst ea
      rw [x_up_s] at e
      have : i = (insP (fun k => decide (cc < c k)) n) := UP_inj hup1 hi (by omega) (by rw [← e, ins_at])
      rw [this, ins_at]
      simp only [alv, hv1]
      decide
    · have ev : a ≠ v := fun z => hvA (z ▸ ea)
      rw [x_up_n _ _ ev] at e
      have h9 := (hal1 a ea).2
      have h8 : alv I1 a = alv I a := by simp only [alv, h9]
      rw [h8]
      unfold ins at e ⊢
      by_cases c1 : i < (insP (fun k => decide (cc < c k)) n)
      · rw [if_pos c1] at e ⊢
        exact hA i (by omega) a ea e
      · rw [if_neg c1] at e ⊢
        by_cases c2 : i = (insP (fun k => decide (cc < c k)) n)
        · rw [if_pos c2] at e
          exact absurd e (hcode a ea)
        · rw [if_neg c2] at e ⊢
          exact hA (i - 1) (by omega) a ea e
