/-! a new leaf -/
def insA (od : Nat → Nat → Nat) (cd : Nat → Nat) (c v : Nat) : Tr → Nat → Tr
  | .leaf _, _ => .branch v (.leaf ()) (.leaf ())
  | .branch q l r, d => if od d c < od d (cd q) then .branch q (insA od cd c v l (d + 1)) r else .branch q l (insA od cd c v r (d + 1))
theorem insA_mem {od : Nat → Nat → Nat} {cd : Nat → Nat} {c v : Nat} : ∀ (t : Tr) (d a : Nat), a ∈ ino (insA od cd c v t d) ↔ a = v ∨ a ∈ ino t
  | .leaf _, d, a => by simp [insA, ino]
  | .branch q l r, d, a => by
    simp only [insA]
    split
    · simp only [ino, List.mem_append, List.mem_cons, insA_mem l (d + 1) a]
      constructor <;> (intro h; rcases h with (h | h) | h | h <;> simp_all)
    · simp only [ino, List.mem_append, List.mem_cons, insA_mem r (d + 1) a]
      constructor <;> (intro h; rcases h with h | h | h | h <;> simp_all)
theorem insA_sz {od : Nat → Nat → Nat} {cd : Nat → Nat} {c v : Nat} : ∀ (t : Tr) (d : Nat), sz (insA od cd c v t d) = sz t + 1
  | .leaf _, d => rfl
  | .branch q l r, d => by
    simp only [insA]
    split <;> simp only [sz, insA_sz l (d + 1), insA_sz r (d + 1)] <;> omega
theorem insA_ht {od : Nat → Nat → Nat} {cd : Nat → Nat} {c v : Nat} : ∀ (t : Tr) (d : Nat), ht (insA od cd c v t d) ≤ ht t + 1
  | .leaf _, d => by simp [insA, ht]
  | .branch q l r, d => by
    have h1 := insA_ht (od := od) (cd := cd) (c := c) (v := v) l (d + 1)
    have h2 := insA_ht (od := od) (cd := cd) (c := c) (v := v) r (d + 1)
    simp only [insA]
    split <;> simp only [ht] <;> omega
/-- the node and its side where a new leaf goes -/
def pside (od : Nat → Nat → Nat) (cd : Nat → Nat) (c : Nat) : Tr → Nat → Option (Nat × Nat)
  | .leaf _, _ => none
  | .branch q l r, d => if od d c < od d (cd q) then ((pside od cd c l (d + 1)).getD (q, 3) : Nat × Nat) else ((pside od cd c r (d + 1)).getD (q, 4) : Nat × Nat)
theorem pside_last {od : Nat → Nat → Nat} {cd : Nat → Nat} {c : Nat} : ∀ (t : Tr) (d p : Nat), sfind od cd c t d = none → (spath od cd c t d).getLast? = some p → pside od cd c t d = some (p, if od (d + (spath od cd c t d).length - 1) c < od (d + (spath od cd c t d).length - 1) (cd p) then 3 else 4)
  | .leaf _, d, p, h, hp => by simp [spath] at hp
  | .branch q l r, d, p, h, hp => by
    simp only [sfind] at h
    split at h
    · cases h
    · rename_i hq
      simp only [spath, if_neg hq] at hp ⊢
      simp only [pside]
      split at h
      · rename_i hc
        simp only [if_pos hc] at hp ⊢
        cases hl : spath od cd c l (d + 1) with
        | nil =>
          rw [hl] at hp
          simp at hp
          subst hp
          cases l with
          | leaf _ => simp [pside, hc]
          | branch _ _ _ => simp [spath] at hl
        | cons x xs =>
          rw [hl] at hp
          have ih := pside_last l (d + 1) p h (by rw [hl]; simpa using hp)
          rw [ih]
          simp only [Option.getD_some, hl, List.length_cons]
          rw [show d + 1 + (xs.length + 1) - 1 = d + (xs.length + 1 + 1) - 1 by omega]
      · rename_i hc
        simp only [if_neg hc] at hp ⊢
        cases hl : spath od cd c r (d + 1) with
        | nil =>
          rw [hl] at hp
          simp at hp
          subst hp
          cases r with
          | leaf _ => simp [pside, hc]
          | branch _ _ _ => simp [spath] at hl
        | cons x xs =>
          rw [hl] at hp
          have ih := pside_last r (d + 1) p h (by rw [hl]; simpa using hp)
          rw [ih]
          simp only [Option.getD_some, hl, List.length_cons]
          rw [show d + 1 + (xs.length + 1) - 1 = d + (xs.length + 1 + 1) - 1 by omega]
theorem pside_mem {od : Nat → Nat → Nat} {cd : Nat → Nat} {c : Nat} : ∀ (t : Tr) (d : Nat) (x : Nat × Nat), pside od cd c t d = some x → x.1 ∈ ino t
  | .leaf _, d, x, h => by simp [pside] at h
  | .branch q l r, d, x, h => by
    simp only [pside] at h
    split at h
    · cases hl : pside od cd c l (d + 1) with
      | none => rw [hl] at h; simp at h; rw [← h]; simp [ino]
      | some y => rw [hl] at h; simp at h; have := pside_mem l (d + 1) y hl; rw [← h]; simp [ino, this]
    · cases hl : pside od cd c r (d + 1) with
      | none => rw [hl] at h; simp at h; rw [← h]; simp [ino]
      | some y => rw [hl] at h; simp at h; have := pside_mem r (d + 1) y hl; rw [← h]; simp [ino, this]
theorem pside_none {od : Nat → Nat → Nat} {cd : Nat → Nat} {c : Nat} : ∀ (t : Tr) (d : Nat), pside od cd c t d = none → t = .leaf ()
  | .leaf _, d, h => rfl
  | .branch q l r, d, h => by simp only [pside] at h; split at h <;> cases h
theorem ins_TP {K K1 : Nat → Nat} {Q Q1 : Nat → Nat → Option Nat} {od : Nat → Nat → Nat} {cd : Nat → Nat} {c v : Nat} (hv : TP K1 Q1 (.branch v (.leaf ()) (.leaf ())) (some v)) :
    ∀ (t : Tr) (d : Nat) (o : Option Nat), TP K Q t o → (ino t).Nodup → (∀ a ∈ ino t, K1 a = 3) → ∀ x, pside od cd c t d = some x → (∀ a j, a ∈ ino t → (a, j) ≠ x → Q1 a j = Q a j) → Q1 x.1 x.2 = some v → TP K1 Q1 (insA od cd c v t d) o
  | .leaf _, d, o, _, _, _, x, hx, _, _ => by simp [pside] at hx
  | .branch q l r, d, o, h, hn, hk, x, hx, hQ, hQx => by
    obtain ⟨h1, h2, h3, h4⟩ := h
    simp only [ino] at hn
    rw [List.nodup_append] at hn
    obtain ⟨nl, nr, nd⟩ := hn
    rw [List.nodup_cons] at nr
    simp only [insA]
    simp only [pside] at hx
    split at hx
    · rename_i hc
      rw [if_pos hc]
      have hr4 : TP K1 Q1 r (Q1 q 4) := by
        have hx1 : x.1 ∉ ino r ∧ (q, 4) ≠ x := by
          cases hl : pside od cd c l (d + 1) with
          | none => rw [hl] at hx; simp at hx; rw [← hx]; exact ⟨nr.1, by simp⟩
          | some y =>
            rw [hl] at hx; simp at hx; subst hx
            have hm := pside_mem l (d + 1) y hl
            exact ⟨fun hr => nd y.1 hm y.1 (by simp [hr]) rfl, fun e => nd y.1 hm q (by simp) (by rw [← e])⟩
        rw [hQ q 4 (by simp [ino]) hx1.2]
        exact h4.congr (fun a ha => ⟨by rw [hk a (by simp [ino, ha]), h4.kind a ha], hQ a 3 (by simp [ino, ha]) (fun e => hx1.1 (by rw [← e]; exact ha)), hQ a 4 (by simp [ino, ha]) (fun e => hx1.1 (by rw [← e]; exact ha))⟩)
      refine ⟨h1, hk q (by simp [ino]), ?_, hr4⟩
      cases hl : pside od cd c l (d + 1) with
      | none =>
        rw [hl] at hx; simp at hx
        rw [pside_none l (d + 1) hl]
        rw [← hx] at hQx
        rw [hQx]; exact hv
      | some y =>
        rw [hl] at hx; simp at hx; subst hx
        have hm := pside_mem l (d + 1) y hl
        rw [hQ q 3 (by simp [ino]) (fun e => nd y.1 hm q (by simp) (by rw [← e]))]
        exact ins_TP hv l (d + 1) _ h3 nl (fun a ha => hk a (by simp [ino, ha])) y hl (fun a j ha => hQ a j (by simp [ino, ha])) hQx
    · rename_i hc
      rw [if_neg hc]
      have hl3 : TP K1 Q1 l (Q1 q 3) := by
        have hx1 : x.1 ∉ ino l ∧ (q, 3) ≠ x := by
          cases hl : pside od cd c r (d + 1) with
          | none => rw [hl] at hx; simp at hx; rw [← hx]; exact ⟨fun hq => nd q hq q (by simp) rfl, by simp⟩
          | some y =>
            rw [hl] at hx; simp at hx; subst hx
            have hm := pside_mem r (d + 1) y hl
            exact ⟨fun hr => nd y.1 hr y.1 (by simp [hm]) rfl, fun e => nr.1 (by rw [show q = y.1 by rw [← e]]; exact hm)⟩
        rw [hQ q 3 (by simp [ino]) hx1.2]
        exact h3.congr (fun a ha => ⟨by rw [hk a (by simp [ino, ha]), h3.kind a ha], hQ a 3 (by simp [ino, ha]) (fun e => hx1.1 (by rw [← e]; exact ha)), hQ a 4 (by simp [ino, ha]) (fun e => hx1.1 (by rw [← e]; exact ha))⟩)
      refine ⟨h1, hk q (by simp [ino]), hl3, ?_⟩
      cases hl : pside od cd c r (d + 1) with
      | none =>
        rw [hl] at hx; simp at hx
        rw [pside_none r (d + 1) hl]
        rw [← hx] at hQx
        rw [hQx]; exact hv
      | some y =>
        rw [hl] at hx; simp at hx; subst hx
        have hm := pside_mem r (d + 1) y hl
        rw [hQ q 4 (by simp [ino]) (fun e => nr.1 (by rw [show q = y.1 by rw [← e]]; exact hm))]
        exact ins_TP hv r (d + 1) _ h4 nr.2 (fun a ha => hk a (by simp [ino, ha])) y hl (fun a j ha => hQ a j (by simp [ino, ha])) hQx
theorem ins_WT {I I1 : Nat → Nat → Int32} {od : Nat → Nat → Nat} {cd : Nat → Nat} {c v : Nat} (hv : I1 v 2 = nI 1) : ∀ (t : Tr) (d : Nat), WT I t → (ino t).Nodup → sfind od cd c t d = none → (∀ a ∈ ino t, a ∈ spath od cd c t d → I1 a 2 = I a 2 + nI 1) → (∀ a ∈ ino t, a ∉ spath od cd c t d → I1 a 2 = I a 2) → WT I1 (insA od cd c v t d)
  | .leaf _, d, _, _, _, _, _ => ⟨hv, trivial, trivial⟩
  | .branch q l r, d, h, hn, hs, hi, ho => by
    obtain ⟨h1, h2, h3⟩ := h
    simp only [ino] at hn
    rw [List.nodup_append] at hn
    obtain ⟨nl, nr, nd⟩ := hn
    rw [List.nodup_cons] at nr
    simp only [sfind] at hs
    split at hs
    · cases hs
    · rename_i hq
      have hqw : I1 q 2 = nI (sz l + sz r + 1 + 1) := by rw [hi q (by simp [ino]) (by simp [spath]), h1, nI_add]
      simp only [insA]
      split at hs
      · rename_i hc
        rw [if_pos hc]
        simp only [spath, if_neg hq, if_pos hc] at hi ho
        refine ⟨by rw [hqw, insA_sz]; congr 1; omega, ?_, ?_⟩
        · refine ins_WT hv l (d + 1) h2 nl hs (fun a ha hp => hi a (by simp [ino, ha]) (by simp [hp])) (fun a ha hp => ho a (by simp [ino, ha]) ?_)
          simp only [List.mem_cons, not_or]
          exact ⟨fun e => nd a ha q (by simp) e, hp⟩
        · refine h3.congr (fun a ha => ho a (by simp [ino, ha]) ?_)
          simp only [List.mem_cons, not_or]
          exact ⟨fun e => nr.1 (e ▸ ha), fun hp => nd a (spath_mem _ _ _ _ _ _ hp) a (by simp [ha]) rfl⟩
      · rename_i hc
        rw [if_neg hc]
        simp only [spath, if_neg hq, if_neg hc] at hi ho
        refine ⟨by rw [hqw, insA_sz]; congr 1, ?_, ?_⟩
        · refine h2.congr (fun a ha => ho a (by simp [ino, ha]) ?_)
          simp only [List.mem_cons, not_or]
          exact ⟨fun e => nd a ha q (by simp) e, fun hp => nd a ha a (by simp [spath_mem _ _ _ _ _ _ hp]) rfl⟩
        · refine ins_WT hv r (d + 1) h3 nr.2 hs (fun a ha hp => hi a (by simp [ino, ha]) (by simp [hp])) (fun a ha hp => ho a (by simp [ino, ha]) ?_)
          simp only [List.mem_cons, not_or]
          exact ⟨fun e => nr.1 (e ▸ ha), hp⟩
/-- the path behind the new leaf's coming -/
theorem ins_path {od : Nat → Nat → Nat} {cd cd' : Nat → Nat} {c v : Nat} (hv : cd' v = c) : ∀ (t : Tr) (d : Nat), sfind od cd c t d = none → (∀ a ∈ ino t, cd' a = cd a) → spath od cd' c (insA od cd c v t d) d = spath od cd c t d ++ [v] ∧ sfind od cd' c (insA od cd c v t d) d = some v
  | .leaf _, d, _, _ => by simp [insA, spath, sfind, hv]
  | .branch q l r, d, hs, hc => by
    simp only [sfind] at hs
    have hcq := hc q (by simp [ino])
    split at hs
    · cases hs
    · rename_i hq
      split at hs
      · rename_i h1
        obtain ⟨e1, e2⟩ := ins_path hv l (d + 1) hs (fun a ha => hc a (by simp [ino, ha]))
        simp only [insA, spath, sfind, h1, if_true, hcq, if_neg hq, e1, e2, List.cons_append, and_self]
      · rename_i h1
        obtain ⟨e1, e2⟩ := ins_path hv r (d + 1) hs (fun a ha => hc a (by simp [ino, ha]))
        simp only [insA, spath, sfind, if_neg h1, hcq, if_neg hq, e1, e2, List.cons_append, and_self]
/-- old cells stand -/
def EXT (K N : Nat → Nat) (I : Nat → Nat → Int32) (Q : Nat → Nat → Option Nat) (K1 N1 : Nat → Nat) (I1 : Nat → Nat → Int32) (Q1 : Nat → Nat → Option Nat) : Prop := ∀ a, K a ≠ 0 → K1 a = K a ∧ N1 a = N a ∧ I1 a = I a ∧ Q1 a = Q a
theorem EXT.rows {K N K1 N1 : Nat → Nat} {I I1 : Nat → Nat → Int32} {Q Q1 : Nat → Nat → Option Nat} (h : EXT K N I Q K1 N1 I1 Q1) {a b cap : Nat} (hr : RowS K N Q a b cap) : RowS K1 N1 Q1 a b cap := by
  obtain ⟨h1, h2, h3, h4, h5⟩ := hr
  have ha := h a (by omega)
  have hb := h b (by omega)
  exact ⟨ha.1.trans h1, by rw [ha.2.2.2]; exact h2, hb.1.trans h3, by rw [hb.2.1]; exact h4, h5⟩
theorem EXT.lz {K N K1 N1 : Nat → Nat} {I I1 : Nat → Nat → Int32} {Q Q1 : Nat → Nat → Option Nat} (h : EXT K N I Q K1 N1 I1 Q1) {t kd pq pn rw rn cap : Nat} (hz : LZ K N Q t kd pq pn rw rn cap) : LZ K1 N1 Q1 t kd pq pn rw rn cap := by
  obtain ⟨hk, hkd, h0, h1, hp, hrw, hpr, hpn⟩ := hz
  have ht := h t (by omega)
  exact ⟨ht.1.trans hk, hkd, by rw [ht.2.2.2]; exact h0, by rw [ht.2.2.2]; exact h1, h.rows hp, h.rows hrw, hpr, hpn⟩
theorem EXT.tp {K N K1 N1 : Nat → Nat} {I I1 : Nat → Nat → Int32} {Q Q1 : Nat → Nat → Option Nat} (h : EXT K N I Q K1 N1 I1 Q1) {t : Tr} {o : Option Nat} (ht : TP K Q t o) : TP K1 Q1 t o :=
  ht.congr (fun a ha => by have hk := ht.kind a ha; have := h a (by omega); rw [this.2.2.2]; exact ⟨this.1, rfl, rfl⟩)
theorem EXT.nd {K N K1 N1 : Nat → Nat} {I I1 : Nat → Nat → Int32} {Q Q1 : Nat → Nat → Option Nat} (h : EXT K N I Q K1 N1 I1 Q1) {cv : Nat → Int32} {B : Nat} {cd : Nat → Nat} {as : List Nat} (hn : ND cv B K I cd as) : ND cv B K1 I1 cd as :=
  fun q hq => by have hk := hn q hq; have := h q (by omega); exact ⟨this.1.trans hk.1, by rw [this.2.2.1]; exact hk.2.1, hk.2.2⟩
theorem spath_nodup {od : Nat → Nat → Nat} {cd : Nat → Nat} {c : Nat} : ∀ (t : Tr) (d : Nat), (ino t).Nodup → (spath od cd c t d).Nodup
  | .leaf _, _, _ => List.nodup_nil
  | .branch q l r, d, hn => by
    simp only [ino] at hn
    rw [List.nodup_append] at hn
    obtain ⟨nl, nr, nd⟩ := hn
    rw [List.nodup_cons] at nr
    simp only [spath]
    split
    · simp
    · split
      · exact List.nodup_cons.mpr ⟨fun h => nd q (spath_mem _ _ _ _ _ _ h) q (by simp) rfl, spath_nodup l (d + 1) nl⟩
      · exact List.nodup_cons.mpr ⟨fun h => nr.1 (spath_mem _ _ _ _ _ _ h), spath_nodup r (d + 1) nr.2⟩
theorem WT.of_nodes {I I1 : Nat → Nat → Int32} {t : Tr} (h : WT I t) (hc : ∀ a ∈ ino t, I1 a = I a) : WT I1 t := h.congr (fun a ha => by rw [hc a ha])
theorem take_succ_mem {P : List Nat} {i a p : Nat} (hp : P[i]? = some p) : a ∈ P.take (i + 1) ↔ a ∈ P.take i ∨ a = p := by
  rw [List.take_add_one, hp]
  simp
theorem take_nodup_at {P : List Nat} {i p : Nat} (hn : P.Nodup) (hp : P[i]? = some p) : p ∉ P.take i := by
  intro h
  obtain ⟨j, hj⟩ := List.getElem?_of_mem h
  rw [List.getElem?_take] at hj
  split at hj
  · rename_i hlt
    obtain ⟨h1, e1⟩ := List.getElem?_eq_some_iff.mp hj
    obtain ⟨h2, e2⟩ := List.getElem?_eq_some_iff.mp hp
    exact (List.pairwise_iff_getElem.mp hn) j i h1 h2 hlt (e1.trans e2.symm)
  · cases hj
theorem x_set_none {lv : List (Option Value)} {k i : Nat} {v : Value} (h : (lv.set k none)[i]? = some (some v)) : lv[i]? = some (some v) := by
  rw [List.getElem?_set] at h
  split at h
  · split at h <;> cases h
  · exact h
theorem x_fgt {p : Program} {l : Launch} {e : Env} {R : Room} {s : State} {m : MethodId} {args : Array Value} {below : List Frame} {meth : Method} {c : Code} {G : xG} {Z : State → Prop} {k n : Nat} {S : xS} {pc : Nat} {lv lv' : List (Option Value)} {st : List Value} (j : Nat) (hlv : lv.set j none = lv') (kk : XW p l e R s m args below meth c G Z k n S pc lv' st) : XW p l e R s m args below meth c G Z k n S pc lv st := by
  subst hlv
  exact x_sub (by simp) (fun i v h => x_set_none h) kk
