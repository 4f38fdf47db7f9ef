/-- the tree of points and the model's rows -/
def KK5 (ow : xO) (S : xS) (t n : Nat) (pc : Nat → Nat) (pa : Nat → Bool) (ps : Nat → Nat) : Prop := ∃ (cd : Nat → Nat) (A : Tr) (pq pn rw rn : Nat), CL cv5 10000 5 120 5 ow S t cd A pq pn rw rn ∧ PI n pc ps cd A ∧ (∀ i, i < n → ∀ a ∈ ino A, cd a = pc i → alv S.2.2.1 a = pa i) ∧ S.2.2.1 t 3 = nI (cn pa n)
theorem KK5.agree {d : Nat} {ow ow1 : xO} {S S1 : xS} {t n : Nat} {pc : Nat → Nat} {pa : Nat → Bool} {ps : Nat → Nat} (h : KK5 ow S t n pc pa ps) (hf : FRO d ow ow1 S S1) (hd : 5 ≠ d) : KK5 ow1 S1 t n pc pa ps ∧ S1.2.2.1 t = S.2.2.1 t := by
  obtain ⟨cd, A, pq, pn, rw_, rn, h1, h2, h3, h4⟩ := h
  have hnz := h1.nz
  have hag : ∀ q, q = t ∨ q ∈ ino A → S1.2.2.1 q = S.2.2.1 q := fun q hq => (hf.ag hd (hnz q (by rcases hq with h | h <;> simp [h])) (h1.2 q (by rcases hq with h | h <;> simp [h]))).2.2.2.2.2.1
  refine ⟨⟨cd, A, pq, pn, rw_, rn, h1.agree hf hd, h2, fun i hi a ha e => ?_, by rw [hag t (by simp)]; exact h4⟩, hag t (by simp)⟩
  rw [← h3 i hi a ha e]
  simp only [alv]
  rw [hag a (by simp [ha])]
theorem PI_inj {n : Nat} {pc ps cd : Nat → Nat} {A : Tr} (h : PI n pc ps cd A) : ∀ i j, i < n → j < n → pc i = pc j → i = j := h.2.2.2.1
theorem PI_has {n : Nat} {pc ps cd : Nat → Nat} {A : Tr} (h : PI n pc ps cd A) {k : Nat} (hk : k < n) : ∃ q0 ∈ ino A, cd q0 = pc k ∧ sfind od5 cd (pc k) A 0 = some q0 := by
  obtain ⟨q0, h1, h2⟩ := (RT_pos h.1 (PI_inj h) hk).mp (h.2.2.2.2.1 k hk)
  exact ⟨q0, h1, h2, sfind_of h.2.1 h1 h2⟩
theorem PI_new {n : Nat} {pc ps cd : Nat → Nat} {A : Tr} (h : PI n pc ps cd A) {cc : Nat} (hnew : ∀ i, i < n → pc i ≠ cc) : ∀ a ∈ ino A, cd a ≠ cc := fun a ha e => by
  obtain ⟨k, k1, k2, k3, -⟩ := RT_row h.1 ha
  exact hnew k k1 (by rw [k3, e])
def hplX (n : Nat) (pc ps : Nat → Nat) (cc : Nat) : Nat := (leafX (fun p => lastF (fun i => decide (ps i = p)) n) (fun p k => decide (od5 (dep p) cc < od5 (dep p) (pc k))) 28 1).getD 0
def FDm (n : Nat) (ps : Nat → Nat) (pl : Nat) : Nat := topF (hvF (n + 1) (x_up ps n pl)) 26 (pl / 2) 0
def PXm (n : Nat) (pc ps : Nat → Nat) (cc pl : Nat) (OP : Nat → Nat → Bool) (PS : Nat → Nat → Nat) : Prop := 0 < FDm n ps pl → (∀ i, i < n + 1 → OP 0 i = bel (x_up ps n pl i) (FDm n ps pl)) ∧ (∀ i, i < n + 1 → PS 0 i = if OP 0 i = true then FDm n ps pl else x_up ps n pl i) ∧ LOR (n + 1) (x_up pc n cc) OP PS 8
theorem KK5.leaf {ow : xO} {S : xS} {t n cc : Nat} {pc : Nat → Nat} {pa : Nat → Bool} {ps : Nat → Nat} (h : KK5 ow S t n pc pa ps) (hn : n ≤ 120) (hcc : cc < 10000) (hnew : ∀ i, i < n → pc i ≠ cc) : leafX (fun p => lastF (fun i => decide (ps i = p)) n) (fun p k => decide (od5 (dep p) cc < od5 (dep p) (pc k))) 28 1 = some (hplX n pc ps cc) ∧ 0 < hplX n pc ps cc ∧ hplX n pc ps cc < 2 ^ 20 := by
  obtain ⟨cd, A, pq, pn, rw_, rn, h1, h2, h3, h4⟩ := h
  obtain ⟨v, hv⟩ := xfresh (ino A)
  obtain ⟨a1, a2, a3, -⟩ := PI_add h2 hn hcc hv (PI_new h2 hnew)
  have e : hplX n pc ps cc = hpl (fpG od5 cd cc A 0) 1 := by unfold hplX; rw [a1]; rfl
  rw [e]
  exact ⟨a1, a2, a3⟩
theorem KK1.leaf {ow : xO} {S : xS} {t n cc : Nat} {c sp : Nat → Nat} {al : Nat → Bool} (h : KK1 ow S t n c al sp) (hn : n ≤ 200) (hnew : ∀ i, i < n → c i ≠ cc) : leafW (fun p => lastF (fun i => decide (sp i = p)) n) (fun j => decide (cc < c j)) 28 1 = some (hpl1 n c sp cc) ∧ 0 < hpl1 n c sp cc ∧ hpl1 n c sp cc < 2 ^ 20 := by
  obtain ⟨cd, A, pq, pn, rw_, rn, h1, h2, h3, h4⟩ := h
  obtain ⟨v, hv⟩ := xfresh (ino A)
  obtain ⟨a1, a2, a3, -⟩ := SI_add h2 hn hv (SI_new h2 hnew)
  have e : hpl1 n c sp cc = hpl (fpF cd cc A) 1 := by unfold hpl1; rw [a1]; rfl
  rw [e]
  exact ⟨a1, a2, a3⟩
set_option maxHeartbeats 4000000 in
theorem k5_enterD (l : Launch) (G : xG) {K N : Nat → Nat} {I : Nat → Nat → Int32} {Q : Nat → Nat → Option Nat} {J : Nat → Nat → Int64} {t n k : Nat} {pc ps : Nat → Nat} {pa : Nat → Bool} {ow : xO} (h : KK5 ow (K, N, I, Q, J) t n pc pa ps) (hk : k < n) (hal : pa k = false) : XM l yX2_enter cX2_enter 4 none rm_X2_enterF_5 G Rv [.ref t, .int (cv5 (pc k))] (K, N, I, Q, J) (fun _ S1 => ∃ ow1, FRO 5 ow ow1 (K, N, I, Q, J) S1 ∧ KK5 ow1 S1 t n pc (x_up pa k true) ps ∧ S1.2.2.1 t 4 = I t 4) := by
  obtain ⟨cd, A, pq, pn, rw_, rn, hC, hS, hA, h3⟩ := h
  have hsz := PI_sz hS
  have hcap : sz A ≤ 120 := hC.1.2.2.2.2.2.2.1
  have hht := PI_ht hS (by omega)
  have hu := PI_inj hS
  obtain ⟨q0, hq0, hq1, hf⟩ := PI_has hS hk
  refine XM.mono (c_X2_enterF_5 l G t pq pn rw_ rn 120 (pc k) q0 (cn pa n) A cd hC.1 (by omega) (hS.2.2.2.2.2.2 k hk) hf h3) (fun r S1 hp => ?_)
  obtain ⟨I1, Q1, rfl, hL1, hfr, hal1, d3, d4, d5⟩ := hp
  refine ⟨ow, hfr.fro hC.2, ⟨cd, A, pq, pn, rw_, rn, ⟨hL1, hC.2⟩, hS, fun i hi a ha e => ?_, by rw [cn_set hk hal]; exact d3⟩, d4⟩
  have h9 := (hal1 a ha).2
  show alv I1 a = _
  by_cases ea : a = q0
  · have : i = k := hu i k hi hk (by rw [← e, ea, hq1])
    subst this
    rw [if_pos ea] at h9
    simp only [alv, h9, x_up_s]
    decide
  · have hik : i ≠ k := fun z => ea (hC.1.2.2.2.2.2.1 a ha q0 hq0 (by rw [e, z, hq1]))
    rw [if_neg ea] at h9
    rw [x_up_n _ _ hik, ← hA i hi a ha e]
    simp only [alv, h9]
set_option maxHeartbeats 4000000 in
theorem k5_enterN (l : Launch) (G : xG) {K N : Nat → Nat} {I : Nat → Nat → Int32} {Q : Nat → Nat → Option Nat} {J : Nat → Nat → Int64} {t n cc : Nat} {pc ps : Nat → Nat} {pa : Nat → Bool} {ow : xO} (h : KK5 ow (K, N, I, Q, J) t n pc pa ps) (hn2 : n < 120) (hcc : cc < 10000) (hnew : ∀ i, i < n → pc i ≠ cc) : XM l yX2_enter cX2_enter 4 none rm_X2_enterN_5 G Rv [.ref t, .int (cv5 cc)] (K, N, I, Q, J) (fun _ S1 => ∃ ow1 OP PS, FRO 5 ow ow1 (K, N, I, Q, J) S1 ∧ PXm n pc ps cc (hplX n pc ps cc) OP PS ∧ KK5 ow1 S1 t (n + 1) (x_up pc n cc) (x_up pa n true) (fun i => if 0 < FDm n ps (hplX n pc ps cc) then PS 8 i else x_up ps n (hplX n pc ps cc) i) ∧ S1.2.2.1 t 4 = I t 4 + nI (if 0 < FDm n ps (hplX n pc ps cc) then cnW (n + 1) (x_up ps n (hplX n pc ps cc)) (FDm n ps (hplX n pc ps cc)) else 0)) := by
  obtain ⟨cd, A, pq, pn, rw_, rn, hC, hS, hA, h3⟩ := h
  have hsz := PI_sz hS
  have hcap : sz A ≤ 120 := hC.1.2.2.2.2.2.2.1
  have hht := PI_ht hS (by omega)
  have hu := PI_inj hS
  have hcode := PI_new hS hnew
  refine XM.mono (c_X2_enterN_5 l G t pq pn rw_ rn 120 cc (cn pa n) A cd hC.1 (by omega) hcc (sfind_no hcode) hcode (by omega) h3) (fun r S1 hp => ?_)
  obtain ⟨v, K1, I1, Q1, rfl, fv, eK1, hL1, hfr, hal1, hv1, d3, d4, d5⟩ := hp
  have hnA := hC.1.2.2.2.2.1
  have hvA : v ∉ ino A := fun hm => by have := (hnA v hm).1; simp only [] at this; omega
  obtain ⟨e1, e2, e3, OP, PS, e4, e5, e6⟩ := PI_add hS (by omega) hcc hvA hcode
  have ep : hplX n pc ps cc = hpl (fpG od5 cd cc A 0) 1 := by unfold hplX; rw [e1]; rfl
  rw [← ep] at e4 e5 e6
  have hmem : ∀ a, a ∈ ino (rebt od5 (x_up cd v cc) cc (insA od5 cd cc v A 0) (rdep5 (x_up cd v cc) cc (insA od5 cd cc v A 0) (spath od5 cd cc A 0).length)) ↔ a = v ∨ a ∈ ino A := fun a => by
    rw [(rebt_perm (by rw [insA_sz]; omega)).mem_iff, insA_mem]
  have vne : ∀ q, K q ≠ 0 → q ≠ v := fun q hq e => hq (by rw [e]; exact fv)
  refine ⟨x_up ow v 5, OP, PS, hfr.fron hC.2 fv eK1, e4, ⟨x_up cd v cc, _, pq, pn, rw_, rn, ⟨hL1, fun q hq => ?_⟩, e5, fun i hi a ha e => ?_, ?_⟩, d4.trans (by rw [← e6]; rfl)⟩
  · by_cases ev : q = v
    · rw [ev, x_up_s]
    · rw [x_up_n _ _ ev]
      refine hC.2 q ?_
      rw [hmem] at hq
      rcases hq with h | h | h | h | h | h | h
      · exact Or.inl h
      · exact Or.inr (Or.inl h)
      · exact Or.inr (Or.inr (Or.inl h))
      · exact Or.inr (Or.inr (Or.inr (Or.inl h)))
      · exact Or.inr (Or.inr (Or.inr (Or.inr (Or.inl h))))
      · exact absurd h ev
      · exact Or.inr (Or.inr (Or.inr (Or.inr (Or.inr h))))
  · show alv I1 a = _
    rcases (hmem a).mp ha with ea | ea
    · subst ea
      rw [x_up_s] at e
      have : i = n := PI_inj e5 i n hi (by omega) (by rw [← e, x_up_s])
      rw [this, x_up_s]
      simp only [alv, hv1]
      decide
    · have ev : a ≠ v := fun z => hvA (z ▸ ea)
      rw [x_up_n _ _ ev] at e
      have h9 := (hal1 a ea).2
      have h8 : alv I1 a = alv I a := by simp only [alv, h9]
      by_cases ei : i = n
      · rw [ei, x_up_s] at e
        exact absurd e (hcode a ea)
      · rw [x_up_n _ _ ei] at e ⊢
        rw [h8]
        exact hA i (by omega) a ea e
  · show I1 t 3 = _
    rw [show cn (x_up pa n true) (n + 1) = cn pa n + 1 by
      simp only [cn]
      rw [x_up_s, cn_congr (q := pa) (fun i hi => x_up_n _ _ (by omega))]; simp]
    exact d3
set_option maxHeartbeats 4000000 in
theorem k5_retireK (l : Launch) (G : xG) {K N : Nat → Nat} {I : Nat → Nat → Int32} {Q : Nat → Nat → Option Nat} {J : Nat → Nat → Int64} {t n k : Nat} {pc ps : Nat → Nat} {pa : Nat → Bool} {ow : xO} (h : KK5 ow (K, N, I, Q, J) t n pc pa ps) (hk : k < n) (hal : pa k = true) (hcond : n - (cn (x_up pa k false) n) ≤ (cn (x_up pa k false) n)) : XM l yX2_retire cX2_retire 3 none rm_X2_retire_5 G Rv [.ref t, .int (cv5 (pc k))] (K, N, I, Q, J) (fun _ S1 => ∃ ow1, FRO 5 ow ow1 (K, N, I, Q, J) S1 ∧ KK5 ow1 S1 t n pc (x_up pa k false) ps ∧ S1.2.2.1 t 4 = I t 4) := by
  obtain ⟨cd, A, pq, pn, rw_, rn, hC, hS, hA, h3⟩ := h
  have hsz := PI_sz hS
  have hcap : sz A ≤ 120 := hC.1.2.2.2.2.2.2.1
  have hht := PI_ht hS (by omega)
  have hu := PI_inj hS
  obtain ⟨q0, hq0, hq1, hf⟩ := PI_has hS hk
  have hcl := cn_clr (n := n) hk hal
  have hcle := cn_le pa n
  have hf2 : ∀ i, i < n → ∀ a ∈ ino A, cd a = pc i → (a = q0 ↔ i = k) := fun i hi a ha e => ⟨fun ea => hu i k hi hk (by rw [← e, ea, hq1]), fun ei => hC.1.2.2.2.2.2.1 a ha q0 hq0 (by rw [e, ei, hq1])⟩
  refine XM.mono (c_X2_retire_5 l G t pq pn rw_ rn 120 (pc k) q0 (cn (x_up pa k false) n) A cd hC.1 (by omega) (hS.2.2.2.2.2.2 k hk) hf (by rw [hA k hk q0 hq0 hq1]; exact hal) (by rw [hcl]; exact h3) (by omega)) (fun r S1 hp => ?_)
  obtain ⟨I1, Q1, rfl, hL1, hfr, hal1, d3, d4, d5⟩ := hp
  have hA1 : ∀ i, i < n → ∀ a ∈ ino A, cd a = pc i → alv I1 a = (x_up pa k false) i := fun i hi a ha e => by
    have h9 := (hal1 a ha).2
    by_cases ei : i = k
    · rw [if_pos ((hf2 i hi a ha e).mpr ei)] at h9
      rw [ei, x_up_s]
      simp only [alv, h9]
      decide
    · rw [if_neg (fun z => ei ((hf2 i hi a ha e).mp z))] at h9
      rw [x_up_n _ _ ei, ← hA i hi a ha e]
      simp only [alv, h9]
  rw [if_neg (by omega)] at hL1 d5
  exact ⟨ow, hfr.fro hC.2, ⟨cd, A, pq, pn, rw_, rn, ⟨hL1, hC.2⟩, hS, hA1, d3⟩, d4⟩
set_option maxHeartbeats 4000000 in
theorem k5_retireD (l : Launch) (G : xG) {K N : Nat → Nat} {I : Nat → Nat → Int32} {Q : Nat → Nat → Option Nat} {J : Nat → Nat → Int64} {t n k : Nat} {pc ps : Nat → Nat} {pa : Nat → Bool} {ow : xO} (h : KK5 ow (K, N, I, Q, J) t n pc pa ps) (hk : k < n) (hal : pa k = true) (hcond : (cn (x_up pa k false) n) < n - (cn (x_up pa k false) n)) : XM l yX2_retire cX2_retire 3 none rm_X2_retire_5 G Rv [.ref t, .int (cv5 (pc k))] (K, N, I, Q, J) (fun _ S1 => ∃ ow1 OP PS, FRO 5 ow ow1 (K, N, I, Q, J) S1 ∧ ((∀ i, i < (cn (x_up pa k false) n) → OP 0 i = true) ∧ (∀ i, i < (cn (x_up pa k false) n) → PS 0 i = 1) ∧ LOR (cn (x_up pa k false) n) (fun j => pc (selF (x_up pa k false) n j)) OP PS 8) ∧ KK5 ow1 S1 t (cn (x_up pa k false) n) (fun j => pc (selF (x_up pa k false) n j)) (fun _ => true) (PS 8) ∧ S1.2.2.1 t 4 = I t 4) := by
  obtain ⟨cd, A, pq, pn, rw_, rn, hC, hS, hA, h3⟩ := h
  have hsz := PI_sz hS
  have hcap : sz A ≤ 120 := hC.1.2.2.2.2.2.2.1
  have hht := PI_ht hS (by omega)
  have hu := PI_inj hS
  obtain ⟨q0, hq0, hq1, hf⟩ := PI_has hS hk
  have hcl := cn_clr (n := n) hk hal
  have hcle := cn_le pa n
  have hf2 : ∀ i, i < n → ∀ a ∈ ino A, cd a = pc i → (a = q0 ↔ i = k) := fun i hi a ha e => ⟨fun ea => hu i k hi hk (by rw [← e, ea, hq1]), fun ei => hC.1.2.2.2.2.2.1 a ha q0 hq0 (by rw [e, ei, hq1])⟩
  refine XM.mono (c_X2_retire_5 l G t pq pn rw_ rn 120 (pc k) q0 (cn (x_up pa k false) n) A cd hC.1 (by omega) (hS.2.2.2.2.2.2 k hk) hf (by rw [hA k hk q0 hq0 hq1]; exact hal) (by rw [hcl]; exact h3) (by omega)) (fun r S1 hp => ?_)
  obtain ⟨I1, Q1, rfl, hL1, hfr, hal1, d3, d4, d5⟩ := hp
  have hA1 : ∀ i, i < n → ∀ a ∈ ino A, cd a = pc i → alv I1 a = (x_up pa k false) i := fun i hi a ha e => by
    have h9 := (hal1 a ha).2
    by_cases ei : i = k
    · rw [if_pos ((hf2 i hi a ha e).mpr ei)] at h9
      rw [ei, x_up_s]
      simp only [alv, h9]
      decide
    · rw [if_neg (fun z => ei ((hf2 i hi a ha e).mp z))] at h9
      rw [x_up_n _ _ ei, ← hA i hi a ha e]
      simp only [alv, h9]
  rw [if_pos (by omega)] at hL1 d5
  have eap : apd false I1 A = (ino A).filter (alv I1) := by unfold apd; simp
  rw [eap] at hL1
  obtain ⟨e1, OP, PS, f1, f2, f3, e2⟩ := PI_drop (p := alv I1) hS (by omega) hA1
  have hmem : ∀ a, a ∈ ino (kdl od5 cd 8 0 ((ino A).filter (alv I1))) ↔ a ∈ (ino A).filter (alv I1) := fun a => (kdl_perm 8 0 _ (by
    have := List.length_filter_le (alv I1) (ino A)
    rw [ino_len] at this; omega)).mem_iff
  refine ⟨ow, OP, PS, hfr.fro hC.2, ⟨f1, f2, f3⟩, ⟨cd, _, pq, pn, rw_, rn, ⟨hL1, fun q hq => hC.2 q ?_⟩, e2, fun i hi a ha e => ?_, by rw [cn_true]; exact d3⟩, d4⟩
  · rcases hq with h | h | h | h | h | h
    · exact Or.inl h
    · exact Or.inr (Or.inl h)
    · exact Or.inr (Or.inr (Or.inl h))
    · exact Or.inr (Or.inr (Or.inr (Or.inl h)))
    · exact Or.inr (Or.inr (Or.inr (Or.inr (Or.inl h))))
    · exact Or.inr (Or.inr (Or.inr (Or.inr (Or.inr (List.mem_filter.mp ((hmem q).mp h)).1))))
  · exact (List.mem_filter.mp ((hmem a).mp ha)).2
theorem KK5.path {ow : xO} {K N : Nat → Nat} {I : Nat → Nat → Int32} {Q : Nat → Nat → Option Nat} {J : Nat → Nat → Int64} {t n : Nat} {pc ps cd : Nat → Nat} {pa : Nat → Bool} {A : Tr} {pq pn rw_ rn r1 r2 : Nat} (hC : CL cv5 10000 5 120 5 ow (K, N, I, Q, J) t cd A pq pn rw_ rn) (hS : PI n pc ps cd A) (hA : ∀ i, i < n → ∀ a ∈ ino A, cd a = pc i → alv I a = pa i) (h3 : I t 3 = nI (cn pa n)) (hr1 : r1 = pq ∨ r1 = rw_) (hr2 : r2 = pn ∨ r2 = rn) (v : Int32) (g : Nat → Option Nat) :
    FRO 5 ow ow (K, N, I, Q, J) (K, N, x_u2 I r1 1 v, x_up Q r2 g, J) ∧ KK5 ow (K, N, x_u2 I r1 1 v, x_up Q r2 g, J) t n pc pa ps ∧ (∀ j, x_u2 I r1 1 v t j = I t j) := by
  have hz := hC.1.1
  have hne := hz.ne
  have hN := hC.1.2.2.2.2.1
  have hi : ∀ q ∈ ino A, x_u2 I r1 1 v q = I q := fun q hq => x_u2_a _ _ (by
    have h9 := hz.nn (hN q hq).1
    rcases hr1 with e | e
    · rw [e]; exact h9.2.1
    · rw [e]; exact h9.2.2.2.1)
  have htr : t ≠ r1 := by
    rcases hr1 with e | e
    · rw [e]; exact hne.1
    · rw [e]; exact hne.2.2.1
  have ht : ∀ j, x_u2 I r1 1 v t j = I t j := fun j => by rw [x_u2_a _ _ htr]
  have o1 : ow r1 = 5 := hC.2 r1 (by rcases hr1 with e | e <;> simp [e])
  have o2 : ow r2 = 5 := hC.2 r2 (by rcases hr2 with e | e <;> simp [e])
  refine ⟨FRO.of rfl fun q hq => ⟨rfl, rfl, rfl, fun hc => ⟨x_u2_a _ _ (fun e => hc (by rw [e]; exact o1)), x_up_n _ _ (fun e => hc (by rw [e]; exact o2))⟩⟩, ⟨cd, A, pq, pn, rw_, rn, ⟨hC.1.congr (fun q hq => ⟨congrFun (hi q hq) 0, congrFun (hi q hq) 2⟩) (fun q h1 h2 => x_up_n _ _ (by rcases hr2 with e | e <;> rw [e] <;> assumption)), hC.2⟩, hS, fun i hi2 a ha e => ?_, by show x_u2 I r1 1 v t 3 = _; rw [ht]; exact h3⟩, ht⟩
  show alv (x_u2 I r1 1 v) a = _
  rw [← hA i hi2 a ha e]
  simp only [alv]
  rw [hi a ha]
set_option maxHeartbeats 4000000 in
theorem k5_depthY (l : Launch) (G : xG) {K N : Nat → Nat} {I : Nat → Nat → Int32} {Q : Nat → Nat → Option Nat} {J : Nat → Nat → Int64} {t n k : Nat} {pc ps : Nat → Nat} {pa : Nat → Bool} {ow : xO} (h : KK5 ow (K, N, I, Q, J) t n pc pa ps) (hk : k < n) : XM l yX2_depthOf cX2_depthOf 2 (some .int) rm_X2_depthOf_5 G Ri [.ref t, .int (cv5 (pc k))] (K, N, I, Q, J) (fun r S1 => r = nI (dep (ps k)) ∧ FRO 5 ow ow (K, N, I, Q, J) S1 ∧ KK5 ow S1 t n pc pa ps ∧ (∀ j, S1.2.2.1 t j = I t j)) := by
  obtain ⟨cd, A, pq, pn, rw_, rn, hC, hS, hA, h3⟩ := h
  have hsz := PI_sz hS
  have hcap : sz A ≤ 120 := hC.1.2.2.2.2.2.2.1
  have hht := PI_ht hS (by omega)
  have hu := PI_inj hS
  obtain ⟨q0, hq0, hq1, hf⟩ := PI_has hS hk
  refine XM.mono (c_X2_depthOf_5 l G t pq pn rw_ rn 120 (pc k) A cd hC.1.1 hC.1.2.1 hC.1.2.2.2.2.1 (by omega) (hS.2.2.2.2.2.2 k hk)) (fun r S1 hp => ?_)
  obtain ⟨hr, g, rfl, -⟩ := hp
  obtain ⟨p1, p2, p3⟩ := KK5.path (r1 := pq) (r2 := pn) hC hS hA h3 (Or.inl rfl) (Or.inl rfl) (nI (spath od5 cd (pc k) A 0).length) g
  obtain ⟨F, l_, r_, f1, f2, -⟩ := RT_found hS.1 hu hf hk rfl
  refine ⟨?_, p1, p2, p3⟩
  rw [hr, hf, f2]
  simp only [Option.isSome_some, if_true]
  rw [pk_sub (by omega), Nat.add_sub_cancel]
set_option maxHeartbeats 4000000 in
theorem k5_depthN (l : Launch) (G : xG) {K N : Nat → Nat} {I : Nat → Nat → Int32} {Q : Nat → Nat → Option Nat} {J : Nat → Nat → Int64} {t n cc : Nat} {pc ps : Nat → Nat} {pa : Nat → Bool} {ow : xO} (h : KK5 ow (K, N, I, Q, J) t n pc pa ps) (hcc : cc < 10000) (hnew : ∀ i, i < n → pc i ≠ cc) : XM l yX2_depthOf cX2_depthOf 2 (some .int) rm_X2_depthOf_5 G Ri [.ref t, .int (cv5 cc)] (K, N, I, Q, J) (fun r S1 => r = (-1) ∧ FRO 5 ow ow (K, N, I, Q, J) S1 ∧ KK5 ow S1 t n pc pa ps ∧ (∀ j, S1.2.2.1 t j = I t j)) := by
  obtain ⟨cd, A, pq, pn, rw_, rn, hC, hS, hA, h3⟩ := h
  have hsz := PI_sz hS
  have hcap : sz A ≤ 120 := hC.1.2.2.2.2.2.2.1
  have hht := PI_ht hS (by omega)
  have hu := PI_inj hS
  refine XM.mono (c_X2_depthOf_5 l G t pq pn rw_ rn 120 cc A cd hC.1.1 hC.1.2.1 hC.1.2.2.2.2.1 (by omega) hcc) (fun r S1 hp => ?_)
  obtain ⟨hr, g, rfl, -⟩ := hp
  obtain ⟨p1, p2, p3⟩ := KK5.path (r1 := pq) (r2 := pn) hC hS hA h3 (Or.inl rfl) (Or.inl rfl) (nI (spath od5 cd cc A 0).length) g
  refine ⟨?_, p1, p2, p3⟩
  rw [hr, sfind_no (PI_new hS hnew)]
  rfl
set_option maxHeartbeats 4000000 in
theorem k5_holdsY (l : Launch) (G : xG) {K N : Nat → Nat} {I : Nat → Nat → Int32} {Q : Nat → Nat → Option Nat} {J : Nat → Nat → Int64} {t n k : Nat} {pc ps : Nat → Nat} {pa : Nat → Bool} {ow : xO} (h : KK5 ow (K, N, I, Q, J) t n pc pa ps) (hk : k < n) : XM l yX2_holds cX2_holds 3 (some .boolean) rm_X2_holds_5 G Rz [.ref t, .int (cv5 (pc k))] (K, N, I, Q, J) (fun r S1 => r = pa k ∧ FRO 5 ow ow (K, N, I, Q, J) S1 ∧ KK5 ow S1 t n pc pa ps ∧ (∀ j, S1.2.2.1 t j = I t j)) := by
  obtain ⟨cd, A, pq, pn, rw_, rn, hC, hS, hA, h3⟩ := h
  have hsz := PI_sz hS
  have hcap : sz A ≤ 120 := hC.1.2.2.2.2.2.2.1
  have hht := PI_ht hS (by omega)
  have hu := PI_inj hS
  obtain ⟨q0, hq0, hq1, hf⟩ := PI_has hS hk
  refine XM.mono (c_X2_holds_5 l G t pq pn rw_ rn 120 (pc k) A cd hC.1.1 hC.1.2.1 hC.1.2.2.2.2.1 (by omega) (hS.2.2.2.2.2.2 k hk)) (fun r S1 hp => ?_)
  obtain ⟨hr, g, rfl, -⟩ := hp
  obtain ⟨p1, p2, p3⟩ := KK5.path (r1 := pq) (r2 := pn) hC hS hA h3 (Or.inl rfl) (Or.inl rfl) (nI (spath od5 cd (pc k) A 0).length) g
  obtain ⟨F, l_, r_, f1, f2, -⟩ := RT_found hS.1 hu hf hk rfl
  refine ⟨?_, p1, p2, p3⟩
  rw [hr, hf]
  exact hA k hk q0 hq0 hq1
set_option maxHeartbeats 4000000 in
theorem k5_holdsN (l : Launch) (G : xG) {K N : Nat → Nat} {I : Nat → Nat → Int32} {Q : Nat → Nat → Option Nat} {J : Nat → Nat → Int64} {t n cc : Nat} {pc ps : Nat → Nat} {pa : Nat → Bool} {ow : xO} (h : KK5 ow (K, N, I, Q, J) t n pc pa ps) (hcc : cc < 10000) (hnew : ∀ i, i < n → pc i ≠ cc) : XM l yX2_holds cX2_holds 3 (some .boolean) rm_X2_holds_5 G Rz [.ref t, .int (cv5 cc)] (K, N, I, Q, J) (fun r S1 => r = false ∧ FRO 5 ow ow (K, N, I, Q, J) S1 ∧ KK5 ow S1 t n pc pa ps ∧ (∀ j, S1.2.2.1 t j = I t j)) := by
  obtain ⟨cd, A, pq, pn, rw_, rn, hC, hS, hA, h3⟩ := h
  have hsz := PI_sz hS
  have hcap : sz A ≤ 120 := hC.1.2.2.2.2.2.2.1
  have hht := PI_ht hS (by omega)
  have hu := PI_inj hS
  refine XM.mono (c_X2_holds_5 l G t pq pn rw_ rn 120 cc A cd hC.1.1 hC.1.2.1 hC.1.2.2.2.2.1 (by omega) hcc) (fun r S1 hp => ?_)
  obtain ⟨hr, g, rfl, -⟩ := hp
  obtain ⟨p1, p2, p3⟩ := KK5.path (r1 := pq) (r2 := pn) hC hS hA h3 (Or.inl rfl) (Or.inl rfl) (nI (spath od5 cd cc A 0).length) g
  refine ⟨?_, p1, p2, p3⟩
  rw [hr, sfind_no (PI_new hS hnew)]
  rfl
set_option maxHeartbeats 4000000 in
theorem k5_box (l : Launch) (G : xG) {K N : Nat → Nat} {I : Nat → Nat → Int32} {Q : Nat → Nat → Option Nat} {J : Nat → Nat → Int64} {t n a b c d : Nat} {pc ps : Nat → Nat} {pa : Nat → Bool} {ow : xO} (h : KK5 ow (K, N, I, Q, J) t n pc pa ps) (ha : a < 1000) (hb : b < 1000) (hc : c < 1000) (hd : d < 1000) : XM l yX5_livingInBox cX5_livingInBox 9 (some .int) rm_X5_livingInBox G Ri [.ref t, .int (nI a), .int (nI b), .int (nI c), .int (nI d)] (K, N, I, Q, J) (fun r S1 => r = nI (cn (fun i => pa i && decide (a ≤ pc i / 100) && decide (pc i / 100 ≤ c) && decide (b ≤ pc i % 100) && decide (pc i % 100 ≤ d)) n) ∧ FRO 5 ow ow (K, N, I, Q, J) S1 ∧ KK5 ow S1 t n pc pa ps ∧ (∀ j, S1.2.2.1 t j = I t j)) := by
  obtain ⟨cd, A, pq, pn, rw_, rn, hC, hS, hA, h3⟩ := h
  have hsz := PI_sz hS
  have hcap : sz A ≤ 120 := hC.1.2.2.2.2.2.2.1
  have hht := PI_ht hS (by omega)
  have hu := PI_inj hS
  have hfl : (apd false I A).length ≤ 120 := by
    have := apd_le (dd := false) (I := I) (A := A)
    omega
  have eap : apd false I A = (ino A).filter (alv I) := by unfold apd; simp
  refine XM.mono (c_X5_livingInBox l G t pq pn rw_ rn 120 A cd a b c d hC.1.1 hC.1.2.1 hC.1.2.2.2.2.1 (by omega) hfl ha hb hc hd) (fun r S1 hp => ?_)
  obtain ⟨hr, g, rfl⟩ := hp
  obtain ⟨p1, p2, p3⟩ := KK5.path (r1 := rw_) (r2 := rn) hC hS hA h3 (Or.inr rfl) (Or.inr rfl) (nI (apd false I A).length) g
  refine ⟨?_, p1, p2, p3⟩
  rw [hr, eap, ccnt_countP, List.countP_filter]
  congr 1
  refine RT_count hS.1 hS.2.2.2.2.1 hu (fun i hi q hq e => ?_)
  rw [hA i hi q hq e, e]
  simp only [boxF]
  cases pa i <;> simp [Bool.and_assoc]
set_option maxHeartbeats 4000000 in
theorem k5_near (l : Launch) (G : xG) {K N : Nat → Nat} {I : Nat → Nat → Int32} {Q : Nat → Nat → Option Nat} {J : Nat → Nat → Int64} {t n x y : Nat} {pc ps : Nat → Nat} {pa : Nat → Bool} {ow : xO} (h : KK5 ow (K, N, I, Q, J) t n pc pa ps) (hx : x < 100) (hy : y < 100) : XM l yX5_livingNearestTo cX5_livingNearestTo 9 (some .int) rm_X5_livingNearestTo G Ri [.ref t, .int (nI x), .int (nI y)] (K, N, I, Q, J) (fun r S1 => ((cn pa n = 0 ∧ r = (-1)) ∨ (0 < cn pa n ∧ r = nI (nrM pc pa x y n).1)) ∧ FRO 5 ow ow (K, N, I, Q, J) S1 ∧ KK5 ow S1 t n pc pa ps ∧ (∀ j, S1.2.2.1 t j = I t j)) := by
  obtain ⟨cd, A, pq, pn, rw_, rn, hC, hS, hA, h3⟩ := h
  have hsz := PI_sz hS
  have hcap : sz A ≤ 120 := hC.1.2.2.2.2.2.2.1
  have hht := PI_ht hS (by omega)
  have hu := PI_inj hS
  have hfl : (apd false I A).length ≤ 120 := by
    have := apd_le (dd := false) (I := I) (A := A)
    omega
  have eap : apd false I A = (ino A).filter (alv I) := by unfold apd; simp
  refine XM.mono (c_X5_livingNearestTo l G t pq pn rw_ rn 120 A cd x y hC.1.1 hC.1.2.1 hC.1.2.2.2.2.1 (by omega) hfl hx hy) (fun r S1 hp => ?_)
  obtain ⟨hr, g, rfl⟩ := hp
  obtain ⟨p1, p2, p3⟩ := KK5.path (r1 := rw_) (r2 := rn) hC hS hA h3 (Or.inr rfl) (Or.inr rfl) (nI (apd false I A).length) g
  refine ⟨?_, p1, p2, p3⟩
  rw [eap] at hr
  rcases PI_near (p := alv I) (pa := pa) hS hx hy hA with ⟨n1, n2⟩ | ⟨n1, n2⟩
  · left; refine ⟨n1, ?_⟩; rw [hr, n2]; rfl
  · right; refine ⟨n1, ?_⟩; rw [hr, n2]; rfl
