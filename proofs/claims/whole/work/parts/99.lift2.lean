/-- the turning tree and the model's rows -/
def KK7 (ow : xO) (S : xS) (t n : Nat) (c tu : Nat → Nat) : Prop := ∃ (cd : Nat → Nat) (A : Tr) (pq pn : Nat), C7 ow S t cd A pq pn ∧ TI n c tu cd A
theorem KK7.agree {d : Nat} {ow ow1 : xO} {S S1 : xS} {t n : Nat} {c tu : Nat → Nat} (h : KK7 ow S t n c tu) (hf : FRO d ow ow1 S S1) (hd : 7 ≠ d) : KK7 ow1 S1 t n c tu ∧ S1.2.2.1 t = S.2.2.1 t := by
  obtain ⟨cd, A, pq, pn, h1, h2⟩ := h
  exact ⟨⟨cd, A, pq, pn, h1.agree hf hd, h2⟩, (hf.ag hd (h1.nz t (by simp)) (h1.2.2.2.2.2 t (by simp))).2.2.2.2.2.1⟩
theorem KK7.kc {ow : xO} {S : xS} {t n : Nat} {c tu : Nat → Nat} (h : KK7 ow S t n c tu) : S.1 t = 7 := by
  obtain ⟨cd, A, pq, pn, h1, h2⟩ := h
  exact h1.1.1
theorem TI_sz {n : Nat} {c tu cd : Nat → Nat} {A : Tr} (h : TI n c tu cd A) : sz A = cn (fun i => decide (0 < tu i)) n := by
  have h1 := h.1.length_eq
  rw [plc_len] at h1
  unfold rwl at h1
  rw [List.length_map, ← List.countP_eq_length_filter, ← cn_countP] at h1
  exact h1.symm
theorem TI_inj {n : Nat} {c tu cd : Nat → Nat} {A : Tr} (h : TI n c tu cd A) : ∀ i j, i < n → j < n → c i = c j → i = j := fun i j hi hj e => UP_inj h.2.2.2.2.2 hi hj e
theorem xfresh (l : List Nat) : ∃ v, v ∉ l := by
  refine ⟨l.foldr (fun a b => max a b) 0 + 1, fun h => ?_⟩
  have : ∀ a ∈ l, a ≤ l.foldr (fun a b => max a b) 0 := by
    clear h
    induction l with
    | nil => intro a ha; cases ha
    | cons b l ih =>
      intro a ha
      simp only [List.foldr_cons]
      rcases List.mem_cons.mp ha with rfl | ha
      · omega
      · have := ih a ha; omega
  have := this _ h
  omega
/-- the new leaf's place in the model's turning tree -/
def hplT (n : Nat) (c tu : Nat → Nat) (k : Nat) : Nat := (leafW (fun p => lastF (fun i => decide (tu i = p)) n) (fun j => decide (c k < c j)) 28 1).getD 0
theorem KK7.leaf {ow : xO} {S : xS} {t n : Nat} {c tu : Nat → Nat} {k : Nat} (h : KK7 ow S t n c tu) (hk : k < n) (h0 : tu k = 0) (hcl : cn (fun i => decide (0 < tu i)) n < 100) : leafW (fun p => lastF (fun i => decide (tu i = p)) n) (fun j => decide (c k < c j)) 28 1 = some (hplT n c tu k) ∧ hplT n c tu k < 2 ^ 20 ∧ balOK n 26 (x_up tu k (hplT n c tu k)) (hplT n c tu k / 2) := by
  obtain ⟨cd, A, pq, pn, h1, h2⟩ := h
  obtain ⟨v, hv⟩ := xfresh (ino A)
  obtain ⟨a1, a2, a3, a4, -⟩ := TI_add h2 hk h0 (by rw [TI_sz h2]; exact hcl) hv
  have e : hplT n c tu k = hpl (fpF cd (c k) A) 1 := by unfold hplT; rw [a2]; rfl
  rw [e]
  exact ⟨a2, a3, a4⟩
set_option maxHeartbeats 4000000 in
theorem k7_insert (l : Launch) (G : xG) {K N : Nat → Nat} {I : Nat → Nat → Int32} {Q : Nat → Nat → Option Nat} {J : Nat → Nat → Int64} {t n k : Nat} {c tu : Nat → Nat} {ow : xO} (h : KK7 ow (K, N, I, Q, J) t n c tu) (hk : k < n) (hcb : c k < 1999) (h0 : tu k = 0) (hcl : cn (fun i => decide (0 < tu i)) n < 100) : XM l yX7_insert cX7_insert 4 none rm_X7_insertN G Rv [.ref t, .int (cv1 (c k))] (K, N, I, Q, J) (fun _ S1 => ∃ ow1, FRO 7 ow ow1 (K, N, I, Q, J) S1 ∧ KK7 ow1 S1 t n c (balsM n 26 (x_up tu k (hplT n c tu k)) (hplT n c tu k / 2)).1 ∧ S1.2.2.1 t 2 = I t 2 + nI (balsM n 26 (x_up tu k (hplT n c tu k)) (hplT n c tu k / 2)).2) := by
  obtain ⟨cd, A, pq, pn, hC, hT⟩ := h
  have hz : TZ K N Q t pq pn := hC.1
  have hTP : TP K Q A (Q t 1) := hC.2.1
  have hWT : WT I A := hC.2.2.1
  have hnA := hC.2.2.2.1
  have hND : ND cv1 1999 K I cd (ino A) := hC.2.2.2.2.1
  have hO := hC.2.2.2.2.2
  have hnz : ∀ q, q = t ∨ q = pq ∨ q = pn ∨ q ∈ ino A → K q ≠ 0 := hC.nz
  have hht := wb_ht hT.2.2.1 (by have := hT.2.2.2.1; omega)
  have hu := TI_inj hT
  have hsz := hT.2.2.2.1
  have hcode : ∀ a ∈ ino A, cd a ≠ c k := fun a ha e => by
    have := (RT_pos hT.1 hu hk).mpr ⟨a, ha, e⟩; omega
  refine XM.mono (c_X7_insertN l G t pq pn (c k) A cd hz hTP hWT hnA hND (by omega) (by omega) hcb (sfind_no hcode)) (fun r S1 hp => ?_)
  obtain ⟨v, K1, I1, Q1, rfl, fv, eK1, b1, b2, b3, b4, b5, b6, b7, b8⟩ := hp
  have vne : ∀ q, K q ≠ 0 → q ≠ v := fun q hq e => hq (by rw [e]; exact fv)
  have hvA : v ∉ ino A := fun hm => vne v (hnz v (by simp [hm])) rfl
  obtain ⟨a1, a2, a3, a4, a5, a6, a7⟩ := TI_add hT hk h0 (by rw [TI_sz hT]; exact hcl) hvA
  have e : hplT n c tu k = hpl (fpF cd (c k) A) 1 := by unfold hplT; rw [a2]; rfl
  rw [e]
  have hpA := fp_plug cd (c k) A
  rw [a7] at hpA
  have hmem : ∀ a, a ∈ ino (balF (fpF cd (c k) A) (.branch v (.leaf ()) (.leaf ()) : Tr)) → a = v ∨ a ∈ ino A := fun a ha => by
    rcases List.mem_append.mp ((balF_ino _ _).mem_iff.mp ha) with h1 | h1
    · right; rw [← hpA]; exact (plug_ino _ _).mem_iff.mpr (List.mem_append_left _ h1)
    · left; simpa [ino] using h1
  have k1 : ∀ q, K q ≠ 0 → K1 q = K q := fun q hq => by rw [eK1, x_up_n _ _ (vne q hq)]
  have nA : ∀ q, K q ≠ 3 → q ∉ ino A := fun q hq hm => hq (hND q hm).1
  obtain ⟨hk7, hq0, p1, p2, p3, p4⟩ := id hz
  have hpq : pq ≠ pn ∧ pq ≠ t ∧ t ≠ pn := ⟨fun e => by rw [e] at p1; omega, fun e => by rw [e] at p1; omega, fun e => by rw [e] at hk7; omega⟩
  refine ⟨x_up ow v 7, FRO.of rfl fun q hq => ⟨x_up_n _ _ (vne q hq), k1 q hq, rfl, fun hc => ?_⟩, ⟨x_up cd v (c k), _, pq, pn, ⟨⟨(k1 t (by omega)).trans hk7, b7.trans hq0, (k1 pq (by omega)).trans p1, ?_, (k1 pn (by omega)).trans p3, p4⟩, b1, b2, a6.2.2.2.2.1, fun a ha => ?_, fun q hq => ?_⟩, a6⟩, by rw [← a5] at b8; exact b8⟩
  · have n1 : q ∉ ino A := fun hm => hc (hO q (by simp [hm]))
    have n2 : q ≠ pq := fun e => hc (hO q (by simp [e]))
    have n3 : q ≠ pn := fun e => hc (hO q (by simp [e]))
    have n4 : q ≠ t := fun e => hc (hO q (by simp [e]))
    exact ⟨b4 q n1 (vne q hq) n2 n4, b6 q n1 (vne q hq) n3 n4⟩
  · exact (congrFun (b6 pq (nA pq (by omega)) (vne pq (by omega)) hpq.1 hpq.2.1) 0).trans p2
  · rcases hmem a ha with ea | ea
    · subst ea
      show K1 a = 3 ∧ I1 a 0 = cv1 (x_up cd a (c k) a) ∧ x_up cd a (c k) a < 1999
      rw [x_up_s]
      exact ⟨by rw [eK1, x_up_s], b3, hcb⟩
    · have ev : a ≠ v := fun z => hvA (z ▸ ea)
      show K1 a = 3 ∧ I1 a 0 = cv1 (x_up cd v (c k) a) ∧ x_up cd v (c k) a < 1999
      rw [x_up_n _ _ ev, b5 a 0 ea (by omega), k1 a (by rw [(hND a ea).1]; omega)]
      exact hND a ea
  · by_cases ev : q = v
    · rw [ev, x_up_s]
    · rw [x_up_n _ _ ev]
      refine hO q ?_
      rcases hq with h | h | h | h
      · exact Or.inl h
      · exact Or.inr (Or.inl h)
      · exact Or.inr (Or.inr (Or.inl h))
      · exact Or.inr (Or.inr (Or.inr ((hmem q h).resolve_left ev)))
theorem KK7.del {ow : xO} {S : xS} {t n : Nat} {c tu : Nat → Nat} {k : Nat} (h : KK7 ow S t n c tu) (hk : k < n) (hp : 0 < tu k) : balOK n 26 (mvuM n (levM n tu k).1 (levM n tu k).2) ((levM n tu k).2 / 2) ∧ (∀ i, i < n → (0 < (balsM n 26 (mvuM n (levM n tu k).1 (levM n tu k).2) ((levM n tu k).2 / 2)).1 i ↔ i ≠ k ∧ 0 < tu i)) := by
  obtain ⟨cd, A, pq, pn, h1, h2⟩ := h
  obtain ⟨q0, l, r, hh, a1, a2, a3, a4, a5, a6, a7, a8, a9, a10, a11⟩ := TI_del h2 hk hp
  exact ⟨a6, a11⟩
set_option maxHeartbeats 4000000 in
theorem k7_delete (l : Launch) (G : xG) {K N : Nat → Nat} {I : Nat → Nat → Int32} {Q : Nat → Nat → Option Nat} {J : Nat → Nat → Int64} {t n k : Nat} {c tu : Nat → Nat} {ow : xO} (h : KK7 ow (K, N, I, Q, J) t n c tu) (hk : k < n) (hcb : c k < 1999) (hp : 0 < tu k) : XM l yX7_delete cX7_delete 5 none rm_X7_delete G Rv [.ref t, .int (cv1 (c k))] (K, N, I, Q, J) (fun _ S1 => ∃ ow1, FRO 7 ow ow1 (K, N, I, Q, J) S1 ∧ KK7 ow1 S1 t n c (balsM n 26 (mvuM n (levM n tu k).1 (levM n tu k).2) ((levM n tu k).2 / 2)).1 ∧ S1.2.2.1 t 2 = I t 2 + nI (balsM n 26 (mvuM n (levM n tu k).1 (levM n tu k).2) ((levM n tu k).2 / 2)).2) := by
  obtain ⟨cd, A, pq, pn, hC, hT⟩ := h
  have hz : TZ K N Q t pq pn := hC.1
  have hTP : TP K Q A (Q t 1) := hC.2.1
  have hWT : WT I A := hC.2.2.1
  have hnA := hC.2.2.2.1
  have hND : ND cv1 1999 K I cd (ino A) := hC.2.2.2.2.1
  have hO := hC.2.2.2.2.2
  have hnz : ∀ q, q = t ∨ q = pq ∨ q = pn ∨ q ∈ ino A → K q ≠ 0 := hC.nz
  have hht := wb_ht hT.2.2.1 (by have := hT.2.2.2.1; omega)
  have hu := TI_inj hT
  have hsz := hT.2.2.2.1
  obtain ⟨q0, l_, r_, hh, a1, a2, a3, a4, a5, a6, a7, a8, a9, a10, a11⟩ := TI_del hT hk hp
  refine XM.mono (c_X7_delete l G t pq pn (c k) q0 l_ r_ A cd hz hTP hWT hnA hND (by omega) (by omega) hcb a1) (fun r S1 hp => ?_)
  obtain ⟨I1, Q1, rfl, b1, b2, b3, b4, b5, b6⟩ := hp
  obtain ⟨hk7, hq0, p1, p2, p3, p4⟩ := id hz
  have hpq : pq ≠ pn ∧ pq ≠ t ∧ t ≠ pn ∧ t ≠ pq := ⟨fun e => by rw [e] at p1; omega, fun e => by rw [e] at p1; omega, fun e => by rw [e] at hk7; omega, fun e => by rw [e] at hk7; omega⟩
  have nA : ∀ q, K q ≠ 3 → q ∉ ino A := fun q hq hm => hq (hND q hm).1
  refine ⟨ow, FRO.of rfl fun q hq => ⟨rfl, rfl, rfl, fun hc => ?_⟩, ⟨x_up cd q0 (cd hh), _, pq, pn, ⟨⟨hk7, ?_, p1, ?_, p3, p4⟩, b1, b2, a8.2.2.2.2.1, fun a ha => ?_, fun q hq => hO q ?_⟩, a8⟩, by rw [← a7] at b6; exact b6⟩
  · have n1 : q ∉ ino A := fun hm => hc (hO q (by simp [hm]))
    have n2 : q ≠ pq := fun e => hc (hO q (by simp [e]))
    have n3 : q ≠ pn := fun e => hc (hO q (by simp [e]))
    have n4 : q ≠ t := fun e => hc (hO q (by simp [e]))
    exact ⟨funext fun j => b3 q j n2 (fun z => n1 (z.1 ▸ a4)) (fun z => n1 z.1) (fun z => n4 z.1), funext fun j => b5 q j n1 n3 (fun z => n4 z.1)⟩
  · exact (b5 t 0 (nA t (by omega)) hpq.2.2.1 (fun z => by omega)).trans hq0
  · exact (b5 pq 0 (nA pq (by omega)) hpq.1 (fun z => hpq.2.1 z.1)).trans p2
  · have haA := a10 a ha
    have h9 := hND a haA
    have hapq : a ≠ pq := fun z => by have := h9.1; rw [z] at this; omega
    show K a = 3 ∧ I1 a 0 = cv1 (x_up cd q0 (cd hh) a) ∧ x_up cd q0 (cd hh) a < 1999
    by_cases ea : a = q0
    · subst ea
      rw [x_up_s]
      exact ⟨h9.1, b4 hh a2, (hND hh a3).2.2⟩
    · rw [x_up_n _ _ ea, b3 a 0 hapq (fun z => ea z.1) (fun z => by omega) (fun z => by omega)]
      exact h9
  · rcases hq with h | h | h | h
    · exact Or.inl h
    · exact Or.inr (Or.inl h)
    · exact Or.inr (Or.inr (Or.inl h))
    · exact Or.inr (Or.inr (Or.inr (a10 q h)))
theorem KK7.path {ow : xO} {K N : Nat → Nat} {I : Nat → Nat → Int32} {Q : Nat → Nat → Option Nat} {J : Nat → Nat → Int64} {t n : Nat} {c tu cd : Nat → Nat} {A : Tr} {pq pn : Nat} (hC : C7 ow (K, N, I, Q, J) t cd A pq pn) (hT : TI n c tu cd A) (v : Int32) (g : Nat → Option Nat) :
    FRO 7 ow ow (K, N, I, Q, J) (K, N, x_u2 I pq 1 v, x_up Q pn g, J) ∧ KK7 ow (K, N, x_u2 I pq 1 v, x_up Q pn g, J) t n c tu ∧ (∀ j, x_u2 I pq 1 v t j = I t j) := by
  obtain ⟨⟨hk7, hq0, p1, p2, p3, p4⟩, hTP, hWT, hnA, hND, hO⟩ := hC
  have n1 : t ≠ pq := fun e => by rw [e] at hk7; simp only [] at hk7 p1; omega
  have n2 : t ≠ pn := fun e => by rw [e] at hk7; simp only [] at hk7 p3; omega
  have n3 : pq ≠ pn := fun e => by rw [e] at p1; simp only [] at p1 p3; omega
  have m1 : ∀ a ∈ ino A, a ≠ pq := fun a ha e => by have := (hND a ha).1; rw [e] at this; simp only [] at this p1; omega
  have m2 : ∀ a ∈ ino A, a ≠ pn := fun a ha e => by have := (hND a ha).1; rw [e] at this; simp only [] at this p3; omega
  have hi : ∀ q ∈ ino A, x_u2 I pq 1 v q = I q := fun q hq => x_u2_a _ _ (m1 q hq)
  have hq : ∀ q, q ≠ pn → x_up Q pn g q = Q q := fun q h => x_up_n _ _ h
  refine ⟨FRO.of rfl fun q hq2 => ⟨rfl, rfl, rfl, fun hc => ⟨x_u2_a _ _ (fun e => hc (hO q (by simp [e]))), x_up_n _ _ (fun e => hc (hO q (by simp [e])))⟩⟩, ⟨cd, A, pq, pn, ⟨⟨hk7, (congrFun (hq t n2) 0).trans hq0, p1, (congrFun (hq pq n3) 0).trans p2, p3, p4⟩, ?_, ?_, hnA, fun a ha => ?_, hO⟩, hT⟩, fun j => by rw [x_u2_a _ _ n1]⟩
  · show TP K (x_up Q pn g) A (x_up Q pn g t 1)
    rw [hq t n2]
    exact hTP.congr (fun a ha => ⟨rfl, congrFun (hq a (m2 a ha)) 3, congrFun (hq a (m2 a ha)) 4⟩)
  · exact hWT.congr (fun a ha => congrFun (hi a ha) 2)
  · have h9 := hND a ha
    exact ⟨h9.1, (congrFun (hi a ha) 0).trans h9.2.1, h9.2.2⟩
set_option maxHeartbeats 4000000 in
theorem k7_depthY (l : Launch) (G : xG) {K N : Nat → Nat} {I : Nat → Nat → Int32} {Q : Nat → Nat → Option Nat} {J : Nat → Nat → Int64} {t n k : Nat} {c tu : Nat → Nat} {ow : xO} (h : KK7 ow (K, N, I, Q, J) t n c tu) (hk : k < n) (hcb : c k < 1999) (hp : 0 < tu k) : XM l yX7_depthOf cX7_depthOf 2 (some .int) rm_X7_depthOf G Ri [.ref t, .int (cv1 (c k))] (K, N, I, Q, J) (fun r S1 => r = nI (dep (tu k)) ∧ FRO 7 ow ow (K, N, I, Q, J) S1 ∧ KK7 ow S1 t n c tu ∧ (∀ j, S1.2.2.1 t j = I t j)) := by
  obtain ⟨cd, A, pq, pn, hC, hT⟩ := h
  have hz : TZ K N Q t pq pn := hC.1
  have hTP : TP K Q A (Q t 1) := hC.2.1
  have hWT : WT I A := hC.2.2.1
  have hnA := hC.2.2.2.1
  have hND : ND cv1 1999 K I cd (ino A) := hC.2.2.2.2.1
  have hO := hC.2.2.2.2.2
  have hnz : ∀ q, q = t ∨ q = pq ∨ q = pn ∨ q ∈ ino A → K q ≠ 0 := hC.nz
  have hht := wb_ht hT.2.2.1 (by have := hT.2.2.2.1; omega)
  have hu := TI_inj hT
  have hsz := hT.2.2.2.1
  obtain ⟨q0, hq0, hq1⟩ := (RT_pos hT.1 hu hk).mp hp
  have hf := sfind_of (SRT_BSF (d := 0) hT.2.1) hq0 hq1
  refine XM.mono (c_X7_depthOf l G t pq pn (c k) A cd hz hTP hND (by omega) hcb) (fun r S1 hp => ?_)
  obtain ⟨hr, g, rfl, -⟩ := hp
  obtain ⟨p1, p2, p3⟩ := KK7.path hC hT (nI (spath od1 cd (c k) A 0).length) g
  obtain ⟨F, l_, r_, f1, f2, -⟩ := RT_found hT.1 hu hf hk rfl
  refine ⟨?_, p1, p2, p3⟩
  rw [hr, hf, f2]
  simp only [Option.isSome_some, if_true]
  rw [pk_sub (by omega), Nat.add_sub_cancel]
set_option maxHeartbeats 4000000 in
theorem k7_depthN (l : Launch) (G : xG) {K N : Nat → Nat} {I : Nat → Nat → Int32} {Q : Nat → Nat → Option Nat} {J : Nat → Nat → Int64} {t n : Nat} {x : Int32} {c tu : Nat → Nat} {ow : xO} (h : KK7 ow (K, N, I, Q, J) t n c tu) (hno : ∀ i, i < n → 0 < tu i → ¬ cv1 (c i) = x) : XM l yX7_depthOf cX7_depthOf 2 (some .int) rm_X7_depthOfO G Ri [.ref t, .int x] (K, N, I, Q, J) (fun r S1 => r = (-1) ∧ FRO 7 ow ow (K, N, I, Q, J) S1 ∧ KK7 ow S1 t n c tu ∧ (∀ j, S1.2.2.1 t j = I t j)) := by
  obtain ⟨cd, A, pq, pn, hC, hT⟩ := h
  have hz : TZ K N Q t pq pn := hC.1
  have hTP : TP K Q A (Q t 1) := hC.2.1
  have hWT : WT I A := hC.2.2.1
  have hnA := hC.2.2.2.1
  have hND : ND cv1 1999 K I cd (ino A) := hC.2.2.2.2.1
  have hO := hC.2.2.2.2.2
  have hnz : ∀ q, q = t ∨ q = pq ∨ q = pn ∨ q ∈ ino A → K q ≠ 0 := hC.nz
  have hht := wb_ht hT.2.2.1 (by have := hT.2.2.2.1; omega)
  have hu := TI_inj hT
  have hsz := hT.2.2.2.1
  have hnx : ∀ a ∈ ino A, ¬ I a 0 = x := fun a ha e => by
    obtain ⟨k, k1, k2, k3, -⟩ := RT_row hT.1 ha
    exact hno k k1 k2 (by rw [k3, ← e]; exact ((hND a ha).2.1).symm)
  refine XM.mono (c_X7_depthOfO l G t pq pn x A hz hTP hnx (by omega)) (fun r S1 hp => ?_)
  obtain ⟨hr, n1, g, rfl⟩ := hp
  obtain ⟨p1, p2, p3⟩ := KK7.path hC hT (nI n1) g
  exact ⟨hr, p1, p2, p3⟩
theorem KK7.top {ow : xO} {S : xS} {t n : Nat} {c tu : Nat → Nat} (h : KK7 ow S t n c tu) : (lastF (fun i => decide (tu i = 1)) n = none ∧ S.2.2.2.1 t 1 = none) ∨ ∃ k q, lastF (fun i => decide (tu i = 1)) n = some k ∧ k < n ∧ S.2.2.2.1 t 1 = some q ∧ S.1 q = 3 ∧ S.2.2.1 q 0 = cv1 (c k) := by
  obtain ⟨cd, A, pq, pn, ⟨hz, hTP, hWT, hnA, hND, hO⟩, hT⟩ := h
  cases A with
  | leaf u => exact Or.inl ⟨RT_root0 hT.1, hTP⟩
  | branch q l r =>
    obtain ⟨k, k1, k2, k3⟩ := RT_root hT.1
    have h9 := hND q (by simp [ino])
    exact Or.inr ⟨k, q, k1, k3, hTP.1, h9.1, by rw [h9.2.1, k2]⟩
