theorem mrg_bd {lst : List Nat} : ∀ (f j : Nat) (pr : Nat → Nat) (a : Nat), pr a < 10 → j + f ≤ 9 → (mrg lst f j pr).1 a < 10
  | 0, j, pr, a, h, _ => h
  | f + 1, j, pr, a, h, hj => by
    simp only [mrg]
    split
    · refine mrg_bd f (j + 1) _ a ?_ (by omega)
      split
      · omega
      · exact h
    · exact h
theorem dls_bd {n : Nat} : ∀ (f : Nat), ∀ x ∈ dls n f, x < f
  | 0, x, h => by simp [dls] at h
  | f + 1, x, h => by
    simp only [dls, List.mem_append] at h
    rcases h with h | h
    · split at h
      · rw [List.mem_replicate] at h; omega
      · simp at h
    · have := dls_bd f x h; omega
theorem dls_get {n i : Nat} : (dls n 8).getD i 0 < 10 := by
  rw [List.getD_eq_getElem?_getD]
  cases e : (dls n 8)[i]? with
  | none => simp
  | some x =>
    have := dls_bd 8 x (List.mem_of_getElem? e)
    simp only [Option.getD_some]; omega
/-- the parts and the model's rows -/
def KK6 (ow : xO) (S : xS) (t n : Nat) (c : Nat → Nat) (al : Nat → Bool) (pt : Nat → Nat) : Prop := ∃ (cd : Nat → Nat) (lst : List Nat) (pr : Nat → Nat), C6 ow S t cd lst ∧ EI n c al pt cd (alv S.2.2.1) pr lst ∧ (∀ a ∈ lst, S.2.2.1 a 2 = nI (pr a) ∧ pr a < 10) ∧ S.2.2.1 t 1 = nI n ∧ S.2.2.1 t 2 = nI (cn al n) ∧ UP n c
theorem KK6.agree {d : Nat} {ow ow1 : xO} {S S1 : xS} {t n : Nat} {c : Nat → Nat} {al : Nat → Bool} {pt : Nat → Nat} (h : KK6 ow S t n c al pt) (hf : FRO d ow ow1 S S1) (hd : 6 ≠ d) : KK6 ow1 S1 t n c al pt ∧ S1.2.2.1 t = S.2.2.1 t := by
  obtain ⟨cd, lst, pr, h1, h2, h3, h4, h5, h6⟩ := h
  obtain ⟨a1, a2⟩ := h1.agree hf hd
  have ht := a2 t (by simp)
  refine ⟨⟨cd, lst, pr, a1, EI_upd h2 (fun i a hi ha => ?_), fun a ha => by rw [a2 a (by simp [ha])]; exact h3 a ha, by rw [ht]; exact h4, by rw [ht]; exact h5, h6⟩, ht⟩
  obtain ⟨-, b1, b2, b3⟩ := EI_get h2 ha
  refine ⟨b1, ?_, b3⟩
  rw [← b2]
  simp only [alv]
  rw [a2 a (by simp [List.mem_of_getElem? ha])]
theorem KK6.kc {ow : xO} {S : xS} {t n : Nat} {c : Nat → Nat} {al : Nat → Bool} {pt : Nat → Nat} (h : KK6 ow S t n c al pt) : S.1 t = 6 := by
  obtain ⟨cd, lst, pr, h1, h2⟩ := h
  exact h1.1
theorem EI_find {n : Nat} {c : Nat → Nat} {al : Nat → Bool} {pt cd : Nat → Nat} {av : Nat → Bool} {pr : Nat → Nat} {lst : List Nat} (h : EI n c al pt cd av pr lst) (hup : UP n c) {k : Nat} (hk : k < n) : ∃ e0, lst.find? (fun a => decide (cd a = c k)) = some e0 ∧ lst[k]? = some e0 ∧ e0 ∈ lst ∧ cd e0 = c k ∧ av e0 = al k ∧ pr e0 = pt k := by
  obtain ⟨e0, a1, a2, a3, a4, a5⟩ := EI_at h hk
  cases e : lst.find? (fun a => decide (cd a = c k)) with
  | none =>
    have := List.find?_eq_none.mp e e0 a2
    simp [a3] at this
  | some e1 =>
    have h1 : cd e1 = c k := by simpa using List.find?_some e
    have h2 := List.mem_of_find?_eq_some e
    obtain ⟨i, i1, i2, i3, i4, i5⟩ := EI_mem h h2
    have : i = k := UP_inj hup i1 hk (by rw [← i3, h1])
    subst this
    have e2 : e1 = e0 := Option.some.inj (i2.symm.trans a1)
    subst e2
    exact ⟨e1, rfl, a1, a2, a3, a4, a5⟩
theorem nth_out_i {n : Nat} {c : Nat → Nat} {al : Nat → Bool} {pt cd : Nat → Nat} {av : Nat → Bool} {pr : Nat → Nat} {lst : List Nat} (h : EI n c al pt cd av pr lst) {f g : Nat → Bool} (hfg : ∀ i a, i < n → lst[i]? = some a → f a = g i) (hn : n ≤ 200) {x : Int32} (hx : x < 0 ∨ nI (cn g n) ≤ x) : nths f x lst 0 = none := by
  have hlen := EI_len h
  have hcl := cn_le g n
  rcases hx with hx | hx
  · refine nths_out lst 0 (fun t h1 h2 e => ?_)
    rw [← e, i32_lt, nI_toInt (by omega)] at hx
    have : (0 : Int32).toInt = 0 := by decide
    omega
  · rw [i32_le, nI_toInt (by omega)] at hx
    by_cases h2 : ∃ j, j < 1000 ∧ nI j = x
    · obtain ⟨j, hj, e⟩ := h2
      rw [← e]
      refine (EI_nth h hfg (j := j) (by omega)).2 ?_
      rw [← e, nI_toInt (by omega)] at hx
      omega
    · exact nths_out lst 0 (fun t h1 h3 e => h2 ⟨t, by omega, e⟩)
set_option maxHeartbeats 4000000 in
theorem k6_enterD (l : Launch) (G : xG) {K N : Nat → Nat} {I : Nat → Nat → Int32} {Q : Nat → Nat → Option Nat} {J : Nat → Nat → Int64} {t n k : Nat} {c : Nat → Nat} {al : Nat → Bool} {pt : Nat → Nat} {ow : xO} (h : KK6 ow (K, N, I, Q, J) t n c al pt) (hn : n ≤ 200) (hk9 : k < n) (hcb : c k < 1999) (hal : al k = false) : XM l yX6_enter cX6_enter 3 none rm_X6_enterF G Rv [.ref t, .int (cv1 (c k))] (K, N, I, Q, J) (fun _ S1 => ∃ ow1, FRO 6 ow ow1 (K, N, I, Q, J) S1 ∧ KK6 ow1 S1 t n c (x_up al k true) pt ∧ S1.2.2.1 t 3 = I t 3) := by
  obtain ⟨cd, lst, pr, hC, hE, hP, h1, h2, hup⟩ := h
  have hk : K t = 6 := hC.1
  have hCH : CH K Q lst (Q t 0) := hC.2.1
  have hNE : NE K I cd lst := hC.2.2.1
  have hnd := hC.2.2.2.1
  have hO := hC.2.2.2.2
  have hP2 : ∀ a ∈ lst, I a 2 = nI (pr a) ∧ pr a < 10 := hP
  have h1 : I t 1 = nI n := h1
  have h2 : I t 2 = nI (cn al n) := h2
  have hE : EI n c al pt cd (alv I) pr lst := hE
  have hlen := EI_len hE
  have hcl := cn_le al n
  have htl : ∀ a ∈ lst, a ≠ t := fun a ha e => by have := (hNE a ha).1; rw [e] at this; omega
  obtain ⟨e0, a1, a2, a3, a4, a5, a6⟩ := EI_find hE hup hk9
  refine XM.mono (c_X6_enterF l G t (c k) e0 lst cd hk hCH hNE hcb a1) (fun r S1 hp => ?_)
  subst hp
  have he0 := htl e0 a3
  have hi : ∀ a j, a ≠ t → ¬ (a = e0 ∧ j = 1) → x_u2 (x_u2 I t 2 (I t 2 + nI 1)) e0 1 (nI 1) a j = I a j := fun a j h1 h2 => by
    by_cases e : a = e0
    · subst e
      rw [x_u2_j _ _ (fun z => h2 ⟨rfl, z⟩), x_u2_a _ _ h1]
    · rw [x_u2_a _ _ e, x_u2_a _ _ h1]
  have hit : ∀ j, x_u2 (x_u2 I t 2 (I t 2 + nI 1)) e0 1 (nI 1) t j = x_u2 I t 2 (I t 2 + nI 1) t j := fun j => by rw [x_u2_a _ _ he0.symm]
  refine ⟨ow, FRO.of rfl fun q hq => ⟨rfl, rfl, rfl, fun hc => ⟨funext fun j => hi q j (fun e => hc (hO q (by simp [e]))) (fun z => hc (hO q (by simp [z.1, a3]))), rfl⟩⟩, ⟨cd, lst, pr, ⟨hk, hCH, fun a ha => ?_, hnd, hO⟩, EI_upd hE (fun i a hi2 ha => ?_), fun a ha => ?_, ?_, ?_, hup⟩, ?_⟩
  · have h9 := hNE a ha
    exact ⟨h9.1, (hi a 0 (htl a ha) (fun z => by omega)).trans h9.2.1, h9.2.2⟩
  · obtain ⟨-, b1, b2, b3⟩ := EI_get hE ha
    refine ⟨b1, ?_, b3⟩
    show alv (x_u2 (x_u2 I t 2 (I t 2 + nI 1)) e0 1 (nI 1)) a = _
    by_cases ei : i = k
    · subst ei
      obtain rfl : a = e0 := Option.some.inj (ha.symm.trans a2)
      rw [x_up_s]
      simp only [alv, x_u2_s]
      decide
    · have ea : a ≠ e0 := fun z => ei (UP_inj hup hi2 hk9 (by rw [← b1, z, a4]))
      rw [x_up_n _ _ ei, ← b2]
      simp only [alv]
      rw [hi a 1 (htl a (List.mem_of_getElem? ha)) (fun z => ea z.1)]
  · exact ⟨(hi a 2 (htl a ha) (fun z => by omega)).trans (hP2 a ha).1, (hP2 a ha).2⟩
  · show x_u2 (x_u2 I t 2 (I t 2 + nI 1)) e0 1 (nI 1) t 1 = _
    rw [hit, x_u2_j _ _ (by omega)]; exact h1
  · show x_u2 (x_u2 I t 2 (I t 2 + nI 1)) e0 1 (nI 1) t 2 = _
    rw [hit, x_u2_s, cn_set hk9 hal, h2, nI_add]
  · show x_u2 (x_u2 I t 2 (I t 2 + nI 1)) e0 1 (nI 1) t 3 = _
    rw [hit, x_u2_j _ _ (by omega)]
set_option maxHeartbeats 4000000 in
theorem k6_enterN (l : Launch) (G : xG) {K N : Nat → Nat} {I : Nat → Nat → Int32} {Q : Nat → Nat → Option Nat} {J : Nat → Nat → Int64} {t n cc : Nat} {c : Nat → Nat} {al : Nat → Bool} {pt : Nat → Nat} {ow : xO} (h : KK6 ow (K, N, I, Q, J) t n c al pt) (hn : n ≤ 200) (hcb : cc < 1999) (hnew : ∀ i, i < n → c i ≠ cc) : XM l yX6_enter cX6_enter 3 none rm_X6_enterN G Rv [.ref t, .int (cv1 cc)] (K, N, I, Q, J) (fun _ S1 => ∃ ow1, FRO 6 ow ow1 (K, N, I, Q, J) S1 ∧ KK6 ow1 S1 t (n + 1) (ins c (insP (fun k => decide (cc < c k)) n) cc) (ins al (insP (fun k => decide (cc < c k)) n) true) (mrg (List.range (n + 1)) 8 0 (ins pt (insP (fun k => decide (cc < c k)) n) 0)).1 ∧ S1.2.2.1 t 3 = I t 3 + nI (mrg (List.range (n + 1)) 8 0 (ins pt (insP (fun k => decide (cc < c k)) n) 0)).2) := by
  obtain ⟨cd, lst, pr, hC, hE, hP, h1, h2, hup⟩ := h
  have hk : K t = 6 := hC.1
  have hCH : CH K Q lst (Q t 0) := hC.2.1
  have hNE : NE K I cd lst := hC.2.2.1
  have hnd := hC.2.2.2.1
  have hO := hC.2.2.2.2
  have hP2 : ∀ a ∈ lst, I a 2 = nI (pr a) ∧ pr a < 10 := hP
  have h1 : I t 1 = nI n := h1
  have h2 : I t 2 = nI (cn al n) := h2
  have hE : EI n c al pt cd (alv I) pr lst := hE
  have hlen := EI_len hE
  have hcl := cn_le al n
  have htl : ∀ a ∈ lst, a ≠ t := fun a ha e => by have := (hNE a ha).1; rw [e] at this; omega
  have hcode : ∀ a ∈ lst, cd a ≠ cc := fun a ha e => by
    obtain ⟨i, i1, i2, i3, -⟩ := EI_mem hE ha
    exact hnew i i1 (by rw [← i3, e])
  have hfn : lst.find? (fun a => decide (cd a = cc)) = none := List.find?_eq_none.mpr (fun a ha => by simpa using hcode a ha)
  refine XM.mono (c_X6_enterN l G t cc lst cd pr hk hCH hNE hcb hfn hnd (by omega) (fun a ha => (hP2 a ha).1) (fun a ha => by have := (hP2 a ha).2; omega)) (fun r S1 hp => ?_)
  obtain ⟨v, K1, I1, Q1, rfl, fv, eK1, b1, b2, b3, b4, b5, b6, b7, b8, b9⟩ := hp
  have vne : ∀ q, K q ≠ 0 → q ≠ v := fun q hq e => hq (by rw [e]; exact fv)
  have hvl : v ∉ lst := fun hm => vne v (by rw [(hNE v hm).1]; omega) rfl
  have k1 : ∀ q, K q ≠ 0 → K1 q = K q := fun q hq => by rw [eK1, x_up_n _ _ (vne q hq)]
  have hE1 := EI_ins (cc := cc) (v := v) (cd' := x_up cd v cc) (av' := alv I1) (pr' := x_up pr v 0) hE hup hnew ⟨x_up_s _ _ _, by simp only [alv, b3]; decide, x_up_s _ _ _⟩ (fun a ha => ⟨x_up_n _ _ (fun e => hvl (e ▸ ha)), by
    have hav : a ≠ v := fun e => hvl (e ▸ ha)
    simp only [alv]
    rw [b5 a 1 hav (htl a ha) (fun z => by omega)], x_up_n _ _ (fun e => hvl (e ▸ ha))⟩)
  obtain ⟨hE2, em⟩ := EI_mrg 8 0 _ _ hE1
  have hle := insP_le (fun k => decide (cc < c k)) n
  have hm : ∀ a, a ∈ insC (fun a => decide (cd a < cc)) v lst ↔ a = v ∨ a ∈ lst := fun a => insC_mem
  refine ⟨x_up ow v 6, FRO.of rfl fun q hq => ⟨x_up_n _ _ (vne q hq), k1 q hq, rfl, fun hc => ?_⟩, ⟨x_up cd v cc, _, _, ⟨(k1 t (by omega)).trans hk, b1, fun a ha => ?_, insC_nodup hnd hvl, fun q hq => ?_⟩, hE2, fun a ha => ⟨b4 a ha, ?_⟩, ?_, ?_, UP_ins hup hnew⟩, ?_⟩
  · have n1 : q ∉ lst := fun hm => hc (hO q (by simp [hm]))
    have n4 : q ≠ t := fun e => hc (hO q (by simp [e]))
    exact ⟨funext fun j => b5 q j (vne q hq) n4 (fun z => n1 z.1), b6 q n1 (vne q hq) n4⟩
  · rcases (hm a).mp ha with ea | ea
    · subst ea
      show K1 a = 1 ∧ I1 a 0 = cv1 (x_up cd a cc a) ∧ x_up cd a cc a < 1999
      rw [x_up_s]
      exact ⟨by rw [eK1, x_up_s], b2, hcb⟩
    · have ev : a ≠ v := fun z => hvl (z ▸ ea)
      have h9 := hNE a ea
      show K1 a = 1 ∧ I1 a 0 = cv1 (x_up cd v cc a) ∧ x_up cd v cc a < 1999
      rw [x_up_n _ _ ev, b5 a 0 ev (htl a ea) (fun z => by omega), k1 a (by rw [h9.1]; omega)]
      exact h9
  · by_cases ev : q = v
    · rw [ev, x_up_s]
    · rw [x_up_n _ _ ev]
      refine hO q ?_
      rcases hq with h | h
      · exact Or.inl h
      · exact Or.inr (((hm q).mp h).resolve_left ev)
  · refine mrg_bd 8 0 _ a ?_ (by omega)
    by_cases ev : a = v
    · rw [ev, x_up_s]; omega
    · rw [x_up_n _ _ ev]
      exact (hP2 a (((hm a).mp ha).resolve_left ev)).2
  · show I1 t 1 = _
    rw [b7, h1, nI_add]
  · show I1 t 2 = _
    rw [b8, h2, nI_add, cn_ins hle, if_pos rfl]
  · show I1 t 3 = _
    rw [b9, em]
set_option maxHeartbeats 4000000 in
theorem k6_retireK (l : Launch) (G : xG) {K N : Nat → Nat} {I : Nat → Nat → Int32} {Q : Nat → Nat → Option Nat} {J : Nat → Nat → Int64} {t n k : Nat} {c : Nat → Nat} {al : Nat → Bool} {pt : Nat → Nat} {ow : xO} (h : KK6 ow (K, N, I, Q, J) t n c al pt) (hn : n ≤ 200) (hk9 : k < n) (hcb : c k < 1999) (hal : al k = true) (hcond : n - (cn (x_up al k false) n) ≤ (cn (x_up al k false) n)) : XM l yX6_retire cX6_retire 3 none rm_X6_retire G Rv [.ref t, .int (cv1 (c k))] (K, N, I, Q, J) (fun _ S1 => ∃ ow1, FRO 6 ow ow1 (K, N, I, Q, J) S1 ∧ KK6 ow1 S1 t n c (x_up al k false) pt ∧ S1.2.2.1 t 3 = I t 3) := by
  obtain ⟨cd, lst, pr, hC, hE, hP, h1, h2, hup⟩ := h
  have hk : K t = 6 := hC.1
  have hCH : CH K Q lst (Q t 0) := hC.2.1
  have hNE : NE K I cd lst := hC.2.2.1
  have hnd := hC.2.2.2.1
  have hO := hC.2.2.2.2
  have hP2 : ∀ a ∈ lst, I a 2 = nI (pr a) ∧ pr a < 10 := hP
  have h1 : I t 1 = nI n := h1
  have h2 : I t 2 = nI (cn al n) := h2
  have hE : EI n c al pt cd (alv I) pr lst := hE
  have hlen := EI_len hE
  have hcl := cn_le al n
  have htl : ∀ a ∈ lst, a ≠ t := fun a ha e => by have := (hNE a ha).1; rw [e] at this; omega
  obtain ⟨e0, a1, a2, a3, a4, a5, a6⟩ := EI_find hE hup hk9
  have hclr := cn_clr (n := n) hk9 hal
  have hE1 : EI n c (x_up al k false) pt cd (fun a => alv I a && decide (a ≠ e0)) pr lst := EI_upd hE (fun i a hi ha => by
    obtain ⟨-, b1, b2, b3⟩ := EI_get hE ha
    refine ⟨b1, ?_, b3⟩
    by_cases ei : i = k
    · subst ei
      obtain rfl : a = e0 := Option.some.inj (ha.symm.trans a2)
      rw [x_up_s]; simp
    · have ea : a ≠ e0 := fun z => ei (UP_inj hup hi hk9 (by rw [← b1, z, a4]))
      rw [x_up_n _ _ ei, ← b2, decide_eq_true ea, Bool.and_true])
  have hfl : (lst.filter (fun a => alv I a && decide (a ≠ e0))).length = (cn (x_up al k false) n) := by
    have := congrArg List.length (EI_fil hE1)
    simpa using this
  refine XM.mono (c_X6_retire l G t (c k) e0 (cn (x_up al k false) n) lst cd hk hCH hNE hcb a1 (by rw [a5]; exact hal) hnd (by omega) (by rw [hlen]; exact h1) (by rw [hclr]; exact h2) hfl) (fun r S1 hp => ?_)
  obtain ⟨I1, Q1, rfl, b1, b2, b3, b4, b5, b6, b7⟩ := hp
  have he0 := htl e0 a3
  have hi0 : ∀ a ∈ lst, I1 a 0 = I a 0 := fun a ha => b3 a 0 (fun z => by omega) (fun z => by omega) (fun z => htl a ha z.1)
  have hi1 : ∀ a ∈ lst, alv I1 a = (alv I a && decide (a ≠ e0)) := fun a ha => by
    by_cases ea : a = e0
    · subst ea
      simp only [alv, b2]
      simp [nI_0]
    · rw [decide_eq_true ea, Bool.and_true]
      simp only [alv]
      rw [b3 a 1 (fun z => ea z.1) (fun z => by omega) (fun z => htl a ha z.1)]
  have hfro : FRO 6 ow ow (K, N, I, Q, J) (K, N, I1, Q1, J) := FRO.of rfl fun q hq => ⟨rfl, rfl, rfl, fun hc => by
    have n1 : q ∉ lst := fun hm => hc (hO q (by simp [hm]))
    have n4 : q ≠ t := fun e => hc (hO q (by simp [e]))
    exact ⟨funext fun j => b3 q j (fun z => n1 (z.1 ▸ a3)) (fun z => n1 z.1) (fun z => n4 z.1), b7 q n1 n4⟩⟩
  have h3t : I1 t 3 = I t 3 := b3 t 3 (fun z => he0 z.1.symm) (fun z => by omega) (fun z => by omega)
  rw [hlen] at b1 b4 b5
  rw [if_neg (by omega)] at b1 b5
  have hE2 := EI_upd (av' := alv I1) (pr' := pr) hE1 (fun i a hi ha => by
    obtain ⟨-, c1, c2, c3⟩ := EI_get hE1 ha
    exact ⟨c1, (hi1 a (List.mem_of_getElem? ha)).trans c2, c3⟩)
  refine ⟨ow, hfro, ⟨cd, lst, pr, ⟨hk, b1, fun a ha => ?_, hnd, hO⟩, hE2, fun a ha => ?_, by show I1 t 1 = _; rw [b5, hlen], b6, hup⟩, h3t⟩
  · have h9 := hNE a ha
    exact ⟨h9.1, (hi0 a ha).trans h9.2.1, h9.2.2⟩
  · obtain ⟨i, i1, i2, -⟩ := EI_mem hE ha
    have h9 := b4 i a (by rw [if_neg (by omega)]; exact i2)
    rw [if_neg (by omega)] at h9
    exact ⟨h9.trans (hP2 a ha).1, (hP2 a ha).2⟩
set_option maxHeartbeats 4000000 in
theorem k6_retireD (l : Launch) (G : xG) {K N : Nat → Nat} {I : Nat → Nat → Int32} {Q : Nat → Nat → Option Nat} {J : Nat → Nat → Int64} {t n k : Nat} {c : Nat → Nat} {al : Nat → Bool} {pt : Nat → Nat} {ow : xO} (h : KK6 ow (K, N, I, Q, J) t n c al pt) (hn : n ≤ 200) (hk9 : k < n) (hcb : c k < 1999) (hal : al k = true) (hcond : (cn (x_up al k false) n) < n - (cn (x_up al k false) n)) : XM l yX6_retire cX6_retire 3 none rm_X6_retire G Rv [.ref t, .int (cv1 (c k))] (K, N, I, Q, J) (fun _ S1 => ∃ ow1, FRO 6 ow ow1 (K, N, I, Q, J) S1 ∧ KK6 ow1 S1 t (cn (x_up al k false) n) (fun j => c (selF (x_up al k false) n j)) (fun _ => true) (fun j => (dls (cn (x_up al k false) n) 8).getD j 0) ∧ S1.2.2.1 t 3 = I t 3) := by
  obtain ⟨cd, lst, pr, hC, hE, hP, h1, h2, hup⟩ := h
  have hk : K t = 6 := hC.1
  have hCH : CH K Q lst (Q t 0) := hC.2.1
  have hNE : NE K I cd lst := hC.2.2.1
  have hnd := hC.2.2.2.1
  have hO := hC.2.2.2.2
  have hP2 : ∀ a ∈ lst, I a 2 = nI (pr a) ∧ pr a < 10 := hP
  have h1 : I t 1 = nI n := h1
  have h2 : I t 2 = nI (cn al n) := h2
  have hE : EI n c al pt cd (alv I) pr lst := hE
  have hlen := EI_len hE
  have hcl := cn_le al n
  have htl : ∀ a ∈ lst, a ≠ t := fun a ha e => by have := (hNE a ha).1; rw [e] at this; omega
  obtain ⟨e0, a1, a2, a3, a4, a5, a6⟩ := EI_find hE hup hk9
  have hclr := cn_clr (n := n) hk9 hal
  have hE1 : EI n c (x_up al k false) pt cd (fun a => alv I a && decide (a ≠ e0)) pr lst := EI_upd hE (fun i a hi ha => by
    obtain ⟨-, b1, b2, b3⟩ := EI_get hE ha
    refine ⟨b1, ?_, b3⟩
    by_cases ei : i = k
    · subst ei
      obtain rfl : a = e0 := Option.some.inj (ha.symm.trans a2)
      rw [x_up_s]; simp
    · have ea : a ≠ e0 := fun z => ei (UP_inj hup hi hk9 (by rw [← b1, z, a4]))
      rw [x_up_n _ _ ei, ← b2, decide_eq_true ea, Bool.and_true])
  have hfl : (lst.filter (fun a => alv I a && decide (a ≠ e0))).length = (cn (x_up al k false) n) := by
    have := congrArg List.length (EI_fil hE1)
    simpa using this
  refine XM.mono (c_X6_retire l G t (c k) e0 (cn (x_up al k false) n) lst cd hk hCH hNE hcb a1 (by rw [a5]; exact hal) hnd (by omega) (by rw [hlen]; exact h1) (by rw [hclr]; exact h2) hfl) (fun r S1 hp => ?_)
  obtain ⟨I1, Q1, rfl, b1, b2, b3, b4, b5, b6, b7⟩ := hp
  have he0 := htl e0 a3
  have hi0 : ∀ a ∈ lst, I1 a 0 = I a 0 := fun a ha => b3 a 0 (fun z => by omega) (fun z => by omega) (fun z => htl a ha z.1)
  have hi1 : ∀ a ∈ lst, alv I1 a = (alv I a && decide (a ≠ e0)) := fun a ha => by
    by_cases ea : a = e0
    · subst ea
      simp only [alv, b2]
      simp [nI_0]
    · rw [decide_eq_true ea, Bool.and_true]
      simp only [alv]
      rw [b3 a 1 (fun z => ea z.1) (fun z => by omega) (fun z => htl a ha z.1)]
  have hfro : FRO 6 ow ow (K, N, I, Q, J) (K, N, I1, Q1, J) := FRO.of rfl fun q hq => ⟨rfl, rfl, rfl, fun hc => by
    have n1 : q ∉ lst := fun hm => hc (hO q (by simp [hm]))
    have n4 : q ≠ t := fun e => hc (hO q (by simp [e]))
    exact ⟨funext fun j => b3 q j (fun z => n1 (z.1 ▸ a3)) (fun z => n1 z.1) (fun z => n4 z.1), b7 q n1 n4⟩⟩
  have h3t : I1 t 3 = I t 3 := b3 t 3 (fun z => he0 z.1.symm) (fun z => by omega) (fun z => by omega)
  rw [hlen] at b1 b4 b5
  rw [if_pos (by omega)] at b1 b5
  obtain ⟨pr1, epr⟩ : ∃ pr1 : Nat → Nat, pr1 = fun a => (dls (cn (x_up al k false) n) 8).getD ((lst.filter (fun a => alv I a && decide (a ≠ e0))).idxOf a) 0 := ⟨_, rfl⟩
  have hndf : (lst.filter (fun a => alv I a && decide (a ≠ e0))).Nodup := hnd.sublist List.filter_sublist
  have hpr1 : ∀ i a, (lst.filter (fun a => alv I a && decide (a ≠ e0)))[i]? = some a → pr1 a = (dls (cn (x_up al k false) n) 8).getD i 0 := fun i a ha => by
    rw [epr]
    obtain ⟨hi, e⟩ := List.getElem?_eq_some_iff.mp ha
    simp only []
    rw [← e, hndf.idxOf_getElem i hi]
  have hmf : ∀ a ∈ lst.filter (fun a => alv I a && decide (a ≠ e0)), a ∈ lst := fun a ha => (List.mem_filter.mp ha).1
  obtain ⟨d1, d2⟩ := EI_drop (pr' := pr1) (av' := alv I1) hE1 (by omega) (fun a ha => by rw [hi1 a (hmf a ha)]; exact (List.mem_filter.mp ha).2) (fun i a ha => by rw [hpr1 i a ha, hfl, dls_9 (by omega)])
  refine ⟨ow, hfro, ⟨cd, _, pr1, ⟨hk, b1, fun a ha => ?_, hndf, fun q hq => hO q (hq.imp id (hmf q))⟩, d2, fun a ha => ?_, by show I1 t 1 = _; rw [b5, hfl], by rw [cn_true]; exact b6, UP_sel hup⟩, h3t⟩
  · have h9 := hNE a (hmf a ha)
    exact ⟨h9.1, (hi0 a (hmf a ha)).trans h9.2.1, h9.2.2⟩
  · obtain ⟨i, hi⟩ := List.getElem?_of_mem ha
    have h9 := b4 i a (by rw [if_pos (by omega)]; exact hi)
    rw [if_pos (by omega), dls_9 (by omega)] at h9
    refine ⟨?_, ?_⟩
    · show I1 a 2 = _
      rw [h9, hpr1 i a hi]
    · rw [hpr1 i a hi]; exact dls_get
set_option maxHeartbeats 4000000 in
theorem k6_holdsY (l : Launch) (G : xG) {K N : Nat → Nat} {I : Nat → Nat → Int32} {Q : Nat → Nat → Option Nat} {J : Nat → Nat → Int64} {t n k : Nat} {c : Nat → Nat} {al : Nat → Bool} {pt : Nat → Nat} {ow : xO} (h : KK6 ow (K, N, I, Q, J) t n c al pt) (hn : n ≤ 200) (hk9 : k < n) (hcb : c k < 1999) : XM l yX6_holds cX6_holds 3 (some .boolean) rm_X6_holds G Rz [.ref t, .int (cv1 (c k))] (K, N, I, Q, J) (fun r S1 => r = al k ∧ S1 = (K, N, I, Q, J)) := by
  obtain ⟨cd, lst, pr, hC, hE, hP, h1, h2, hup⟩ := h
  have hk : K t = 6 := hC.1
  have hCH : CH K Q lst (Q t 0) := hC.2.1
  have hNE : NE K I cd lst := hC.2.2.1
  have hnd := hC.2.2.2.1
  have hO := hC.2.2.2.2
  have hP2 : ∀ a ∈ lst, I a 2 = nI (pr a) ∧ pr a < 10 := hP
  have h1 : I t 1 = nI n := h1
  have h2 : I t 2 = nI (cn al n) := h2
  have hE : EI n c al pt cd (alv I) pr lst := hE
  have hlen := EI_len hE
  have hcl := cn_le al n
  have htl : ∀ a ∈ lst, a ≠ t := fun a ha e => by have := (hNE a ha).1; rw [e] at this; omega
  obtain ⟨e0, a1, a2, a3, a4, a5, a6⟩ := EI_find hE hup hk9
  refine XM.mono (c_X6_holds l G t (c k) lst cd hk hCH hNE hcb) (fun r S1 hp => ?_)
  rw [a1] at hp
  exact ⟨hp.1.trans a5, hp.2⟩
set_option maxHeartbeats 4000000 in
theorem k6_holdsN (l : Launch) (G : xG) {K N : Nat → Nat} {I : Nat → Nat → Int32} {Q : Nat → Nat → Option Nat} {J : Nat → Nat → Int64} {t n : Nat} {c : Nat → Nat} {al : Nat → Bool} {pt : Nat → Nat} {ow : xO} {x : Int32} (h : KK6 ow (K, N, I, Q, J) t n c al pt) (hn : n ≤ 200) (hno : ∀ i, i < n → ¬ cv1 (c i) = x) : XM l yX6_holds cX6_holds 3 (some .boolean) rm_X6_holdsO G Rz [.ref t, .int x] (K, N, I, Q, J) (fun r S1 => r = false ∧ S1 = (K, N, I, Q, J)) := by
  obtain ⟨cd, lst, pr, hC, hE, hP, h1, h2, hup⟩ := h
  have hk : K t = 6 := hC.1
  have hCH : CH K Q lst (Q t 0) := hC.2.1
  have hNE : NE K I cd lst := hC.2.2.1
  have hnd := hC.2.2.2.1
  have hO := hC.2.2.2.2
  have hP2 : ∀ a ∈ lst, I a 2 = nI (pr a) ∧ pr a < 10 := hP
  have h1 : I t 1 = nI n := h1
  have h2 : I t 2 = nI (cn al n) := h2
  have hE : EI n c al pt cd (alv I) pr lst := hE
  have hlen := EI_len hE
  have hcl := cn_le al n
  have htl : ∀ a ∈ lst, a ≠ t := fun a ha e => by have := (hNE a ha).1; rw [e] at this; omega
  have hnx : ∀ a ∈ lst, ¬ I a 0 = x := fun a ha e => by
    obtain ⟨i, i1, i2, i3, -⟩ := EI_mem hE ha
    exact hno i i1 (by rw [← i3, ← e]; exact ((hNE a ha).2.1).symm)
  exact c_X6_holdsO l G t x lst hk hCH hnx
set_option maxHeartbeats 4000000 in
theorem k6_findY (l : Launch) (G : xG) {K N : Nat → Nat} {I : Nat → Nat → Int32} {Q : Nat → Nat → Option Nat} {J : Nat → Nat → Int64} {t n k : Nat} {c : Nat → Nat} {al : Nat → Bool} {pt : Nat → Nat} {ow : xO} (h : KK6 ow (K, N, I, Q, J) t n c al pt) (hn : n ≤ 200) (hk9 : k < n) (hcb : c k < 1999) : XM l yX6_find cX6_find 3 (some (.object "ScapegoatSpur$Entry")) rm_X6_find G Rq [.ref t, .int (cv1 (c k))] (K, N, I, Q, J) (fun r S1 => (∃ e0, r = some e0 ∧ K e0 = 1 ∧ I e0 2 = nI (pt k)) ∧ S1 = (K, N, I, Q, J)) := by
  obtain ⟨cd, lst, pr, hC, hE, hP, h1, h2, hup⟩ := h
  have hk : K t = 6 := hC.1
  have hCH : CH K Q lst (Q t 0) := hC.2.1
  have hNE : NE K I cd lst := hC.2.2.1
  have hnd := hC.2.2.2.1
  have hO := hC.2.2.2.2
  have hP2 : ∀ a ∈ lst, I a 2 = nI (pr a) ∧ pr a < 10 := hP
  have h1 : I t 1 = nI n := h1
  have h2 : I t 2 = nI (cn al n) := h2
  have hE : EI n c al pt cd (alv I) pr lst := hE
  have hlen := EI_len hE
  have hcl := cn_le al n
  have htl : ∀ a ∈ lst, a ≠ t := fun a ha e => by have := (hNE a ha).1; rw [e] at this; omega
  obtain ⟨e0, a1, a2, a3, a4, a5, a6⟩ := EI_find hE hup hk9
  refine XM.mono (c_X6_find l G t (c k) lst cd hk hCH hNE hcb) (fun r S1 hp => ?_)
  rw [a1] at hp
  exact ⟨⟨e0, hp.1, (hNE e0 a3).1, by rw [(hP2 e0 a3).1, a6]⟩, hp.2⟩
set_option maxHeartbeats 4000000 in
theorem k6_findN (l : Launch) (G : xG) {K N : Nat → Nat} {I : Nat → Nat → Int32} {Q : Nat → Nat → Option Nat} {J : Nat → Nat → Int64} {t n : Nat} {c : Nat → Nat} {al : Nat → Bool} {pt : Nat → Nat} {ow : xO} {x : Int32} (h : KK6 ow (K, N, I, Q, J) t n c al pt) (hn : n ≤ 200) (hno : ∀ i, i < n → ¬ cv1 (c i) = x) : XM l yX6_find cX6_find 3 (some (.object "ScapegoatSpur$Entry")) rm_X6_findO G Rq [.ref t, .int x] (K, N, I, Q, J) (fun r S1 => r = none ∧ S1 = (K, N, I, Q, J)) := by
  obtain ⟨cd, lst, pr, hC, hE, hP, h1, h2, hup⟩ := h
  have hk : K t = 6 := hC.1
  have hCH : CH K Q lst (Q t 0) := hC.2.1
  have hNE : NE K I cd lst := hC.2.2.1
  have hnd := hC.2.2.2.1
  have hO := hC.2.2.2.2
  have hP2 : ∀ a ∈ lst, I a 2 = nI (pr a) ∧ pr a < 10 := hP
  have h1 : I t 1 = nI n := h1
  have h2 : I t 2 = nI (cn al n) := h2
  have hE : EI n c al pt cd (alv I) pr lst := hE
  have hlen := EI_len hE
  have hcl := cn_le al n
  have htl : ∀ a ∈ lst, a ≠ t := fun a ha e => by have := (hNE a ha).1; rw [e] at this; omega
  have hnx : ∀ a ∈ lst, ¬ I a 0 = x := fun a ha e => by
    obtain ⟨i, i1, i2, i3, -⟩ := EI_mem hE ha
    exact hno i i1 (by rw [← i3, ← e]; exact ((hNE a ha).2.1).symm)
  exact c_X6_findO l G t x lst hk hCH hnx
set_option maxHeartbeats 4000000 in
theorem k6_rank (l : Launch) (G : xG) {K N : Nat → Nat} {I : Nat → Nat → Int32} {Q : Nat → Nat → Option Nat} {J : Nat → Nat → Int64} {t n : Nat} {c : Nat → Nat} {al : Nat → Bool} {pt : Nat → Nat} {ow : xO} {x : Int32} (h : KK6 ow (K, N, I, Q, J) t n c al pt) (hn : n ≤ 200) (hcb : ∀ i, i < n → c i < 1999) : XM l yX6_livingBelow cX6_livingBelow 4 (some .int) rm_X6_livingBelow G Ri [.ref t, .int x] (K, N, I, Q, J) (fun r S1 => r = nI (cn (fun i => al i && decide (cv1 (c i) < x)) n) ∧ S1 = (K, N, I, Q, J)) := by
  obtain ⟨cd, lst, pr, hC, hE, hP, h1, h2, hup⟩ := h
  have hk : K t = 6 := hC.1
  have hCH : CH K Q lst (Q t 0) := hC.2.1
  have hNE : NE K I cd lst := hC.2.2.1
  have hnd := hC.2.2.2.1
  have hO := hC.2.2.2.2
  have hP2 : ∀ a ∈ lst, I a 2 = nI (pr a) ∧ pr a < 10 := hP
  have h1 : I t 1 = nI n := h1
  have h2 : I t 2 = nI (cn al n) := h2
  have hE : EI n c al pt cd (alv I) pr lst := hE
  have hlen := EI_len hE
  have hcl := cn_le al n
  have htl : ∀ a ∈ lst, a ≠ t := fun a ha e => by have := (hNE a ha).1; rw [e] at this; omega
  refine XM.mono (c_X6_livingBelow l G t x lst hk hCH) (fun r S1 hp => ⟨hp.1.trans ?_, hp.2⟩)
  congr 1
  rw [ccw_cnt]
  · exact EI_cnt hE (fun i a hi ha e1 e2 _ => by rw [e2, (hNE a ha).2.1, e1])
  · rw [List.pairwise_iff_getElem]
    intro i j hi hj hij hlt
    have m1 := List.getElem?_eq_getElem hi
    have m2 := List.getElem?_eq_getElem hj
    obtain ⟨i1, i2, -⟩ := EI_get hE m1
    obtain ⟨j1, j2, -⟩ := EI_get hE m2
    have n1 := (hNE _ (List.getElem_mem hi)).2.1
    have n2 := (hNE _ (List.getElem_mem hj)).2.1
    simp only [decide_eq_true_eq] at hlt ⊢
    rw [n1, i2]
    rw [n2, j2, i32_lt] at hlt
    have h9 := (cv1_lt (hcb i i1) (hcb j j1)).mpr (hup i j hij j1)
    rw [i32_lt] at h9 ⊢
    omega
set_option maxHeartbeats 4000000 in
theorem k6_nthY (l : Launch) (G : xG) {K N : Nat → Nat} {I : Nat → Nat → Int32} {Q : Nat → Nat → Option Nat} {J : Nat → Nat → Int64} {t n j : Nat} {c : Nat → Nat} {al : Nat → Bool} {pt : Nat → Nat} {ow : xO} (h : KK6 ow (K, N, I, Q, J) t n c al pt) (hn : n ≤ 200) (hj : j < cn al n) : XM l yX6_livingWithRank cX6_livingWithRank 4 (some (.object "ScapegoatSpur$Entry")) rm_X6_livingWithRank G Rq [.ref t, .int (nI j)] (K, N, I, Q, J) (fun r S1 => (∃ e0, r = some e0 ∧ K e0 = 1 ∧ I e0 0 = cv1 (c (selF al n j))) ∧ S1 = (K, N, I, Q, J)) := by
  obtain ⟨cd, lst, pr, hC, hE, hP, h1, h2, hup⟩ := h
  have hk : K t = 6 := hC.1
  have hCH : CH K Q lst (Q t 0) := hC.2.1
  have hNE : NE K I cd lst := hC.2.2.1
  have hnd := hC.2.2.2.1
  have hO := hC.2.2.2.2
  have hP2 : ∀ a ∈ lst, I a 2 = nI (pr a) ∧ pr a < 10 := hP
  have h1 : I t 1 = nI n := h1
  have h2 : I t 2 = nI (cn al n) := h2
  have hE : EI n c al pt cd (alv I) pr lst := hE
  have hlen := EI_len hE
  have hcl := cn_le al n
  have htl : ∀ a ∈ lst, a ≠ t := fun a ha e => by have := (hNE a ha).1; rw [e] at this; omega
  refine XM.mono (c_X6_livingWithRank l G t (nI j) lst hk hCH) (fun r S1 hp => ⟨?_, hp.2⟩)
  obtain ⟨a, a1, a2, a3⟩ := (EI_nth hE (f := alv I) (g := al) (fun i a hi ha => (EI_get hE ha).2.2.1) (j := j) (by omega)).1 hj
  exact ⟨a, hp.1.trans a1, (hNE a a2).1, by rw [(hNE a a2).2.1, a3]⟩
set_option maxHeartbeats 4000000 in
theorem k6_nthN (l : Launch) (G : xG) {K N : Nat → Nat} {I : Nat → Nat → Int32} {Q : Nat → Nat → Option Nat} {J : Nat → Nat → Int64} {t n : Nat} {c : Nat → Nat} {al : Nat → Bool} {pt : Nat → Nat} {ow : xO} {x : Int32} (h : KK6 ow (K, N, I, Q, J) t n c al pt) (hn : n ≤ 200) (hx : x < 0 ∨ nI (cn al n) ≤ x) : XM l yX6_livingWithRank cX6_livingWithRank 4 (some (.object "ScapegoatSpur$Entry")) rm_X6_livingWithRank G Rq [.ref t, .int x] (K, N, I, Q, J) (fun r S1 => r = none ∧ S1 = (K, N, I, Q, J)) := by
  obtain ⟨cd, lst, pr, hC, hE, hP, h1, h2, hup⟩ := h
  have hk : K t = 6 := hC.1
  have hCH : CH K Q lst (Q t 0) := hC.2.1
  have hNE : NE K I cd lst := hC.2.2.1
  have hnd := hC.2.2.2.1
  have hO := hC.2.2.2.2
  have hP2 : ∀ a ∈ lst, I a 2 = nI (pr a) ∧ pr a < 10 := hP
  have h1 : I t 1 = nI n := h1
  have h2 : I t 2 = nI (cn al n) := h2
  have hE : EI n c al pt cd (alv I) pr lst := hE
  have hlen := EI_len hE
  have hcl := cn_le al n
  have htl : ∀ a ∈ lst, a ≠ t := fun a ha e => by have := (hNE a ha).1; rw [e] at this; omega
  refine XM.mono (c_X6_livingWithRank l G t x lst hk hCH) (fun r S1 hp => ⟨hp.1.trans ?_, hp.2⟩)
  exact nth_out_i hE (fun i a hi ha => (EI_get hE ha).2.2.1) (by omega) hx
set_option maxHeartbeats 4000000 in
theorem k6_hasPart (l : Launch) (G : xG) {K N : Nat → Nat} {I : Nat → Nat → Int32} {Q : Nat → Nat → Option Nat} {J : Nat → Nat → Int64} {t n : Nat} {c : Nat → Nat} {al : Nat → Bool} {pt : Nat → Nat} {ow : xO} {x : Int32} (h : KK6 ow (K, N, I, Q, J) t n c al pt) (hn : n ≤ 200) : XM l yX6_hasPart cX6_hasPart 2 (some .boolean) rm_X6_hasPart G Rz [.ref t, .int x] (K, N, I, Q, J) (fun r S1 => r = decide (0 < cn (fun i => decide (nI (pt i) = x)) n) ∧ S1 = (K, N, I, Q, J)) := by
  obtain ⟨cd, lst, pr, hC, hE, hP, h1, h2, hup⟩ := h
  have hk : K t = 6 := hC.1
  have hCH : CH K Q lst (Q t 0) := hC.2.1
  have hNE : NE K I cd lst := hC.2.2.1
  have hnd := hC.2.2.2.1
  have hO := hC.2.2.2.2
  have hP2 : ∀ a ∈ lst, I a 2 = nI (pr a) ∧ pr a < 10 := hP
  have h1 : I t 1 = nI n := h1
  have h2 : I t 2 = nI (cn al n) := h2
  have hE : EI n c al pt cd (alv I) pr lst := hE
  have hlen := EI_len hE
  have hcl := cn_le al n
  have htl : ∀ a ∈ lst, a ≠ t := fun a ha e => by have := (hNE a ha).1; rw [e] at this; omega
  refine XM.mono (c_X6_hasPart l G t x lst hk hCH (by omega)) (fun r S1 hp => ⟨hp.1.trans ?_, hp.2⟩)
  rw [EI_cnt hE (g := fun i => decide (nI (pt i) = x)) (fun i a hi ha e1 e2 e3 => by rw [(hP2 a ha).1, e3])]
set_option maxHeartbeats 4000000 in
theorem k6_entryY (l : Launch) (G : xG) {K N : Nat → Nat} {I : Nat → Nat → Int32} {Q : Nat → Nat → Option Nat} {J : Nat → Nat → Int64} {t n j : Nat} {c : Nat → Nat} {al : Nat → Bool} {pt : Nat → Nat} {ow : xO} {x : Int32} (h : KK6 ow (K, N, I, Q, J) t n c al pt) (hn : n ≤ 200) (hj : j < cn (fun i => decide (nI (pt i) = x)) n) : XM l yX6_entryAt cX6_entryAt 5 (some (.object "ScapegoatSpur$Entry")) rm_X6_entryAt G Rq [.ref t, .int x, .int (nI j)] (K, N, I, Q, J) (fun r S1 => (∃ e0, r = some e0 ∧ K e0 = 1 ∧ I e0 0 = cv1 (c (selF (fun i => decide (nI (pt i) = x)) n j))) ∧ S1 = (K, N, I, Q, J)) := by
  obtain ⟨cd, lst, pr, hC, hE, hP, h1, h2, hup⟩ := h
  have hk : K t = 6 := hC.1
  have hCH : CH K Q lst (Q t 0) := hC.2.1
  have hNE : NE K I cd lst := hC.2.2.1
  have hnd := hC.2.2.2.1
  have hO := hC.2.2.2.2
  have hP2 : ∀ a ∈ lst, I a 2 = nI (pr a) ∧ pr a < 10 := hP
  have h1 : I t 1 = nI n := h1
  have h2 : I t 2 = nI (cn al n) := h2
  have hE : EI n c al pt cd (alv I) pr lst := hE
  have hlen := EI_len hE
  have hcl := cn_le al n
  have htl : ∀ a ∈ lst, a ≠ t := fun a ha e => by have := (hNE a ha).1; rw [e] at this; omega
  have hcl2 := cn_le (fun i => decide (nI (pt i) = x)) n
  refine XM.mono (c_X6_entryAt l G t x (nI j) lst hk hCH) (fun r S1 hp => ⟨?_, hp.2⟩)
  obtain ⟨a, a1, a2, a3⟩ := (EI_nth hE (f := fun a => decide (I a 2 = x)) (g := (fun i => decide (nI (pt i) = x))) (fun i a hi ha => by rw [(hP2 a (List.mem_of_getElem? ha)).1, (EI_get hE ha).2.2.2]) (j := j) (by omega)).1 hj
  exact ⟨a, hp.1.trans a1, (hNE a a2).1, by rw [(hNE a a2).2.1, a3]⟩
set_option maxHeartbeats 4000000 in
theorem k6_entryN (l : Launch) (G : xG) {K N : Nat → Nat} {I : Nat → Nat → Int32} {Q : Nat → Nat → Option Nat} {J : Nat → Nat → Int64} {t n : Nat} {c : Nat → Nat} {al : Nat → Bool} {pt : Nat → Nat} {ow : xO} {x y : Int32} (h : KK6 ow (K, N, I, Q, J) t n c al pt) (hn : n ≤ 200) (hx : y < 0 ∨ nI (cn (fun i => decide (nI (pt i) = x)) n) ≤ y) : XM l yX6_entryAt cX6_entryAt 5 (some (.object "ScapegoatSpur$Entry")) rm_X6_entryAt G Rq [.ref t, .int x, .int y] (K, N, I, Q, J) (fun r S1 => r = none ∧ S1 = (K, N, I, Q, J)) := by
  obtain ⟨cd, lst, pr, hC, hE, hP, h1, h2, hup⟩ := h
  have hk : K t = 6 := hC.1
  have hCH : CH K Q lst (Q t 0) := hC.2.1
  have hNE : NE K I cd lst := hC.2.2.1
  have hnd := hC.2.2.2.1
  have hO := hC.2.2.2.2
  have hP2 : ∀ a ∈ lst, I a 2 = nI (pr a) ∧ pr a < 10 := hP
  have h1 : I t 1 = nI n := h1
  have h2 : I t 2 = nI (cn al n) := h2
  have hE : EI n c al pt cd (alv I) pr lst := hE
  have hlen := EI_len hE
  have hcl := cn_le al n
  have htl : ∀ a ∈ lst, a ≠ t := fun a ha e => by have := (hNE a ha).1; rw [e] at this; omega
  refine XM.mono (c_X6_entryAt l G t x y lst hk hCH) (fun r S1 hp => ⟨hp.1.trans ?_, hp.2⟩)
  exact nth_out_i hE (g := (fun i => decide (nI (pt i) = x))) (fun i a hi ha => by rw [(hP2 a (List.mem_of_getElem? ha)).1, (EI_get hE ha).2.2.2]) (by omega) hx
