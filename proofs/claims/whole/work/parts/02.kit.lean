/-! THE X KIT. One state for all cells: S = (K, N, I, Q, J): the kind of an address (0: none), an array's length, ints (a field or an element by its place), references, longs.
Kinds: 1 Entry, 2 KeyTree, 3 Node, 4 NodeRow, 5 PointTree, 6 SortedParts, 7 TurningTree, 8 ScapegoatSpur, 9 Model; 21 int[], 22 boolean[], 23 Node[], 24 long[]. -/
abbrev xS : Type := (Nat → Nat) × (Nat → Nat) × (Nat → Nat → Int32) × (Nat → Nat → Option Nat) × (Nat → Nat → Int64)
abbrev xG : Type := va_G × (Nat → ClassId) × Nat
def x_up {α : Type} (f : Nat → α) (a : Nat) (v : α) : Nat → α := fun q => if q = a then v else f q
theorem x_up_s {α : Type} (f : Nat → α) (a : Nat) (v : α) : x_up f a v a = v := by simp [x_up]
theorem x_up_n {α : Type} (f : Nat → α) {a q : Nat} (v : α) (h : q ≠ a) : x_up f a v q = f q := by simp [x_up, h]
def x_u2 {α : Type} (f : Nat → Nat → α) (a k : Nat) (v : α) : Nat → Nat → α := x_up f a (x_up (f a) k v)
def x_lay (ci : Nat) : List Bool := match ci with
  | 0 => [false, false, false, true]
  | 1 => [true, true, true, false, false, false]
  | 2 => [false, false, false, true, true]
  | 3 => [true, false]
  | 4 => [true, true, true, false, false, false]
  | 5 => [true, false, false, false]
  | 6 => [true, true, false]
  | 7 => [true, true, true, true]
  | 8 => [false, false, false, false, false, true, true, true, true, true, false, false, true, true, true, true, true, true, false]
  | _ => []
def x_fl : List Bool → Nat → (Nat → Int32) → (Nat → Option Nat) → List Value
  | [], _, _, _ => []
  | r :: l, k, I, Q => (if r = true then va_rf (Q k) else .int (I k)) :: x_fl l (k + 1) I Q
theorem x_fl_get (I : Nat → Int32) (Q : Nat → Option Nat) : ∀ (l : List Bool) (k0 k : Nat), (x_fl l k0 I Q)[k]? = (l[k]?).map (fun r => if r = true then va_rf (Q (k0 + k)) else .int (I (k0 + k)))
  | [], _, _ => by simp [x_fl]
  | r :: l, k0, 0 => by simp [x_fl]
  | r :: l, k0, k + 1 => by
    have h := x_fl_get I Q l (k0 + 1) k
    rw [show k0 + 1 + k = k0 + (k + 1) by omega] at h
    simpa [x_fl] using h
theorem x_fl_len (I : Nat → Int32) (Q : Nat → Option Nat) : ∀ (l : List Bool) (k0 : Nat), (x_fl l k0 I Q).length = l.length
  | [], _ => rfl
  | r :: l, k0 => by simp [x_fl, x_fl_len I Q l (k0 + 1)]
theorem x_fl_congr {I I' : Nat → Int32} {Q Q' : Nat → Option Nat} : ∀ (l : List Bool) (k0 : Nat), (∀ j, k0 ≤ j → I j = I' j) → (∀ j, k0 ≤ j → Q j = Q' j) → x_fl l k0 I Q = x_fl l k0 I' Q'
  | [], _, _, _ => rfl
  | r :: l, k0, h1, h2 => by
    simp only [x_fl]
    rw [h1 k0 (Nat.le_refl _), h2 k0 (Nat.le_refl _), x_fl_congr l (k0 + 1) (fun j h => h1 j (by omega)) (fun j h => h2 j (by omega))]
theorem x_fl_setI (I : Nat → Int32) (Q : Nat → Option Nat) (v : Int32) : ∀ (l : List Bool) (k0 k : Nat), l[k]? = some false → (x_fl l k0 I Q).set k (.int v) = x_fl l k0 (x_up I (k0 + k) v) Q
  | [], _, _, h => by simp at h
  | r :: l, k0, 0, h => by
    have hr : r = false := by simpa using h
    subst hr
    simp only [x_fl, List.set_cons_zero, Nat.add_zero, x_up_s]
    rw [x_fl_congr l (k0 + 1) (fun j hj => (x_up_n I v (show j ≠ k0 by omega)).symm) (fun _ _ => rfl)]
    rfl
  | r :: l, k0, k + 1, h => by
    have h' := x_fl_setI I Q v l (k0 + 1) k (by simpa using h)
    rw [show k0 + 1 + k = k0 + (k + 1) by omega] at h'
    simp only [x_fl, List.set_cons_succ]
    rw [h', x_up_n I v (show k0 ≠ k0 + (k + 1) by omega)]
theorem x_fl_setQ (I : Nat → Int32) (Q : Nat → Option Nat) (v : Option Nat) : ∀ (l : List Bool) (k0 k : Nat), l[k]? = some true → (x_fl l k0 I Q).set k (va_rf v) = x_fl l k0 I (x_up Q (k0 + k) v)
  | [], _, _, h => by simp at h
  | r :: l, k0, 0, h => by
    have hr : r = true := by simpa using h
    subst hr
    simp only [x_fl, List.set_cons_zero, Nat.add_zero, x_up_s]
    rw [x_fl_congr l (k0 + 1) (fun _ _ => rfl) (fun j hj => (x_up_n Q v (show j ≠ k0 by omega)).symm)]
    rfl
  | r :: l, k0, k + 1, h => by
    have h' := x_fl_setQ I Q v l (k0 + 1) k (by simpa using h)
    rw [show k0 + 1 + k = k0 + (k + 1) by omega] at h'
    simp only [x_fl, List.set_cons_succ]
    rw [h', x_up_n Q v (show k0 ≠ k0 + (k + 1) by omega)]
def x_cell (G : xG) (S : xS) (a : Nat) : Option va_E :=
  if S.1 a = 0 then none
  else if S.1 a ≤ 9 then some (.inr (S.1 a - 1, x_fl (x_lay (S.1 a - 1)) 0 (S.2.2.1 a) (S.2.2.2.1 a)))
  else if S.1 a = 21 then some (.inl (G.2.1 21, S.2.1 a, .inl (S.2.2.1 a)))
  else if S.1 a = 22 then some (.inl (G.2.1 22, S.2.1 a, .inl (S.2.2.1 a)))
  else if S.1 a = 23 then some (.inl (G.2.1 23, S.2.1 a, .inr (.inr (.inr (.inr (S.2.2.2.1 a))))))
  else if S.1 a = 24 then some (.inl (G.2.1 24, S.2.1 a, .inr (.inl (S.2.2.2.2 a))))
  else none
theorem x_cell_congr {G : xG} {S S' : xS} {a : Nat} (h1 : S'.1 a = S.1 a) (h2 : S'.2.1 a = S.2.1 a) (h3 : S'.2.2.1 a = S.2.2.1 a) (h4 : S'.2.2.2.1 a = S.2.2.2.1 a) (h5 : S'.2.2.2.2 a = S.2.2.2.2 a) : x_cell G S' a = x_cell G S a := by
  simp only [x_cell, h1, h2, h3, h4, h5]
theorem x_cell_obj {G : xG} {S : xS} {a ci : Nat} (h : S.1 a = ci + 1) (hc : ci < 9) : x_cell G S a = some (.inr (ci, x_fl (x_lay ci) 0 (S.2.2.1 a) (S.2.2.2.1 a))) := by
  simp only [x_cell, h]
  rw [if_neg (by omega), if_pos (by omega)]
  simp
theorem x_cell_21 {G : xG} {S : xS} {a : Nat} (h : S.1 a = 21) : x_cell G S a = some (.inl (G.2.1 21, S.2.1 a, .inl (S.2.2.1 a))) := by simp [x_cell, h]
theorem x_cell_22 {G : xG} {S : xS} {a : Nat} (h : S.1 a = 22) : x_cell G S a = some (.inl (G.2.1 22, S.2.1 a, .inl (S.2.2.1 a))) := by simp [x_cell, h]
theorem x_cell_23 {G : xG} {S : xS} {a : Nat} (h : S.1 a = 23) : x_cell G S a = some (.inl (G.2.1 23, S.2.1 a, .inr (.inr (.inr (.inr (S.2.2.2.1 a)))))) := by simp [x_cell, h]
theorem x_cell_24 {G : xG} {S : xS} {a : Nat} (h : S.1 a = 24) : x_cell G S a = some (.inl (G.2.1 24, S.2.1 a, .inr (.inl (S.2.2.2.2 a)))) := by simp [x_cell, h]
theorem x_cell_0 {G : xG} {S : xS} {a : Nat} (h : S.1 a = 0) : x_cell G S a = none := by simp [x_cell, h]
def Wd (G : xG) (S : xS) (H : Heap) : Prop := G.2.2 ≤ H.size ∧ (∀ (a : Nat) (e : va_E), x_cell G S a = some e → G.2.2 ≤ a ∧ va_at G.1 vwCl (a, e) H) ∧ ∀ a : Nat, S.1 a ≠ 0 → a < H.size
abbrev x_tys (G : xG) : List (ClassId × FieldType) := [(G.2.1 21, .int), (G.2.1 22, .boolean), (G.2.1 23, .object "ScapegoatSpur$Node"), (G.2.1 24, .long)]
def gK (G : xG) (U : State) : Prop := va_K G.1 vwCl (x_tys G) U ∧ va_Nw (.declares ⟨"ScapegoatSpur$LazyTree", "orderOf", "(II)I"⟩) U ∧ va_Nw (.declares ⟨"ScapegoatSpur$LazyTree", "depthToRebuild", "(LScapegoatSpur$NodeRow;)I"⟩) U ∧ va_AO "ScapegoatSpur$Node" U ∧ va_Nw (.methodLinkNest "ScapegoatSpur" 18 yX7_init "ScapegoatSpur") U ∧ va_Nw (.methodLinkNest "ScapegoatSpur" 25 yX6_init "ScapegoatSpur") U
theorem gK.warm {G : xG} {s U : State} (hW : s.WarmedH U.vm) (h : gK G s) : gK G U := ⟨va_K.moved hW.alike h.1, va_Nw.warmD hW h.2.1, va_Nw.warmD hW h.2.2.1, va_AO.moved hW.alike h.2.2.2.1, va_Nw.warmM hW h.2.2.2.2.1, va_Nw.warmM hW h.2.2.2.2.2⟩
def gA (G : xG) : Nat → Prop := fun q => G.2.2 ≤ q
theorem x_P1 {G : xG} {S : xS} {H : Heap} {a : Nat} {e : va_E} (h : Wd G S H) (he : x_cell G S a = some e) : va_P G.1 vwCl [(a, e)] H := by
  intro k q hk
  have hk0 : k = 0 := by
    have := (List.getElem?_eq_some_iff.mp hk).1
    simp at this
    exact this
  subst hk0
  simp at hk
  subst hk
  exact (h.2.1 a e he).2
theorem x_fresh {G : xG} {S : xS} {H : Heap} (h : Wd G S H) : S.1 H.size = 0 := by
  by_cases hk : S.1 H.size = 0
  · exact hk
  · exact absurd (h.2.2 _ hk) (Nat.lt_irrefl _)
/-- the world behind a change of one old cell -/
theorem x_set {G : xG} {S S' : xS} {H H1 : Heap} {a : Nat} {e0 e : va_E} (h : Wd G S H) (h0 : x_cell G S a = some e0) (he : x_cell G S' a = some e) (hat : va_at G.1 vwCl (a, e) H1) (z : H1.size = H.size) (oq : ∀ q : Nat, q ≠ a → H1[q]? = H[q]?) (hs : ∀ q : Nat, q ≠ a → x_cell G S' q = x_cell G S q) (hk : S'.1 = S.1) : Wd G S' H1 := by
  refine ⟨by rw [z]; exact h.1, fun q e1 hq => ?_, fun q hq => by rw [z]; rw [hk] at hq; exact h.2.2 q hq⟩
  by_cases hqa : q = a
  · subst hqa
    rw [he] at hq
    cases hq
    exact ⟨(h.2.1 _ _ h0).1, hat⟩
  · rw [hs q hqa] at hq
    exact ⟨(h.2.1 _ _ hq).1, (h.2.1 _ _ hq).2.kept (oq q hqa)⟩
/-- the world behind a new cell -/
theorem x_push {G : xG} {S S' : xS} {H H1 : Heap} {e : va_E} (h : Wd G S H) (he : x_cell G S' H.size = some e) (hat : va_at G.1 vwCl (H.size, e) H1) (z : H1.size = H.size + 1) (oq : ∀ q : Nat, q < H.size → H1[q]? = H[q]?) (hs : ∀ q : Nat, q ≠ H.size → x_cell G S' q = x_cell G S q) (hk : ∀ q : Nat, q ≠ H.size → S'.1 q = S.1 q) : Wd G S' H1 := by
  refine ⟨Nat.le_trans h.1 (by omega), fun q e1 hq => ?_, fun q hq => ?_⟩
  case refine_2 =>
    by_cases hqa : q = H.size
    · omega
    · rw [hk q hqa] at hq
      have := h.2.2 q hq
      omega
  by_cases hqa : q = H.size
  · subst hqa
    rw [he] at hq
    cases hq
    exact ⟨h.1, hat⟩
  · rw [hs q hqa] at hq
    have hl := (h.2.1 _ _ hq).2.lt
    exact ⟨(h.2.1 _ _ hq).1, (h.2.1 _ _ hq).2.kept (oq q hl)⟩
/-! the locals, by their places -/
def x_ls (ls : Array Slot) (lv : List (Option Value)) : Prop := ls.size = lv.length ∧ lv_wf ls ∧ ∀ (i : Nat) (v : Value), lv[i]? = some (some v) → ls[i]? = some (.val v)
def x_prs (lv : List (Option Value)) : List (Nat × Value) := (List.range lv.length).filterMap (fun i => (lv[i]?).join.map (fun v => (i, v)))
theorem x_prs_mem {lv : List (Option Value)} {i : Nat} {v : Value} : (i, v) ∈ x_prs lv ↔ lv[i]? = some (some v) := by
  simp only [x_prs, List.mem_filterMap, List.mem_range]
  constructor
  · rintro ⟨j, hj, h⟩
    cases hl : lv[j]? with
    | none => simp [hl] at h
    | some w =>
      cases w with
      | none => simp [hl] at h
      | some w =>
        simp [hl] at h
        obtain ⟨rfl, rfl⟩ := h
        exact hl
  · intro h
    refine ⟨i, (List.getElem?_eq_some_iff.mp h).1, ?_⟩
    simp [h]
theorem x_ls_has {ls : Array Slot} {lv : List (Option Value)} (h : x_ls ls lv) : lv_has ls lv.length (x_prs lv) := ⟨h.1, h.2.1, fun q hq => h.2.2 q.1 q.2 (x_prs_mem.mp hq)⟩
theorem x_ls_at {ls : Array Slot} {lv : List (Option Value)} (h : x_ls ls lv) {i : Nat} {v : Value} (hi : lv[i]? = some (some v)) : ls[i]? = some (.val v) := h.2.2 i v hi
def x_ok (lv : List (Option Value)) (i : Nat) : Bool := match i with
  | 0 => true
  | i + 1 => match lv[i]? with
    | some (some (.long _)) => false
    | some (some (.double _)) => false
    | _ => true
theorem x_ok_cat {lv : List (Option Value)} {i : Nat} (h : x_ok lv (i + 1) = true) {w : Value} (hw : lv[i]? = some (some w)) : w.category ≠ 2 := by
  simp only [x_ok, hw] at h
  cases w <;> simp_all [Value.category]
theorem x_ls_st1 {ls' : Array Slot} {lv : List (Option Value)} {i : Nat} {v : Value} (hi : i < lv.length) (hok : x_ok lv i = true) (h' : lv_has ls' lv.length ((i, v) :: (x_prs lv).filter (fun q => !(q.1 == i) && !(q.1 + 1 == i && q.2.category == 2)))) : x_ls ls' (lv.set i (some v)) := by
  refine ⟨by rw [List.length_set]; exact h'.1, h'.2.1, fun j w hj => ?_⟩
  by_cases hji : j = i
  · subst hji
    rw [List.getElem?_set_self hi] at hj
    cases hj
    exact h'.2.2 (j, v) List.mem_cons_self
  · rw [List.getElem?_set_ne (Ne.symm hji)] at hj
    refine h'.2.2 (j, w) (List.mem_cons_of_mem _ (List.mem_filter.mpr ⟨x_prs_mem.mpr hj, ?_⟩))
    have h2 : ¬ (j + 1 = i ∧ w.category = 2) := by
      rintro ⟨rfl, hc⟩
      exact x_ok_cat hok hj hc
    simp only [Bool.and_eq_true, Bool.not_eq_true', beq_eq_false_iff_ne, ne_eq, hji, not_false_eq_true, true_and, Bool.and_eq_false_iff]
    by_cases hc : w.category = 2
    · exact Or.inl (fun h => h2 ⟨h, hc⟩)
    · exact Or.inr hc
theorem x_ls_st2 {ls' : Array Slot} {lv : List (Option Value)} {i : Nat} {v : Value} (hi : i + 1 < lv.length) (hok : x_ok lv i = true) (h' : lv_has ls' lv.length ((i, v) :: (x_prs lv).filter (fun q => !(q.1 == i) && (!(q.1 == i + 1) && !(q.1 + 1 == i && q.2.category == 2))))) : x_ls ls' ((lv.set i (some v)).set (i + 1) none) := by
  refine ⟨by rw [List.length_set, List.length_set]; exact h'.1, h'.2.1, fun j w hj => ?_⟩
  by_cases hj1 : j = i + 1
  · subst hj1
    rw [List.getElem?_set_self (by rw [List.length_set]; exact hi)] at hj
    cases hj
  · rw [List.getElem?_set_ne (Ne.symm hj1)] at hj
    by_cases hji : j = i
    · subst hji
      rw [List.getElem?_set_self (by omega)] at hj
      cases hj
      exact h'.2.2 (j, v) List.mem_cons_self
    · rw [List.getElem?_set_ne (Ne.symm hji)] at hj
      refine h'.2.2 (j, w) (List.mem_cons_of_mem _ (List.mem_filter.mpr ⟨x_prs_mem.mpr hj, ?_⟩))
      have h2 : ¬ (j + 1 = i ∧ w.category = 2) := by
        rintro ⟨rfl, hc⟩
        exact x_ok_cat hok hj hc
      simp only [Bool.and_eq_true, Bool.not_eq_true', beq_eq_false_iff_ne, ne_eq, hji, hj1, not_false_eq_true, true_and, Bool.and_eq_false_iff]
      by_cases hc : w.category = 2
      · exact Or.inl (fun h => h2 ⟨h, hc⟩)
      · exact Or.inr hc
theorem x_ls_sub {ls : Array Slot} {lv lv' : List (Option Value)} (h : x_ls ls lv) (hl : lv'.length = lv.length) (hs : ∀ (i : Nat) (v : Value), lv'[i]? = some (some v) → lv[i]? = some (some v)) : x_ls ls lv' := ⟨by rw [hl]; exact h.1, h.2.1, fun i v hi => h.2.2 i v (hs i v hi)⟩
theorem x_crf (o : Option Nat) : (va_rf o).category = 1 := by cases o <;> rfl
theorem x_args : ∀ (vs : List Value) (k i : Nat) (v : Value), (∀ v ∈ vs, v.category = 1) → vs[i]? = some v → (k + i, v) ∈ lv_args k vs
  | [], _, _, _, _, h => by simp at h
  | w :: vs, k, 0, v, hc, h => by
    simp at h
    subst h
    simp [lv_args]
  | w :: vs, k, i + 1, v, hc, h => by
    have hw : w.category = 1 := hc w List.mem_cons_self
    have ih := x_args vs (k + 1) i v (fun u hu => hc u (List.mem_cons_of_mem _ hu)) (by simpa using h)
    rw [show k + 1 + i = k + (i + 1) by omega] at ih
    simp only [lv_args, hw]
    exact List.mem_cons_of_mem _ (by simpa using ih)
theorem x_slen : ∀ (vs : List Value), (∀ v ∈ vs, v.category = 1) → (lg_sl vs).length = vs.length
  | [], _ => rfl
  | w :: vs, hc => by
    have hw : w.category = 1 := hc w List.mem_cons_self
    have ih := x_slen vs (fun u hu => hc u (List.mem_cons_of_mem _ hu))
    simp only [lg_sl, List.flatMap_cons, hw] at ih ⊢
    simp [ih]
theorem x_ls_entry {av : List Value} {n : Nat} {lv : List (Option Value)} (hc : ∀ v ∈ av, v.category = 1) (hn : av.length ≤ n) (hlv : av.map some ++ List.replicate (n - av.length) none = lv) : x_ls ((lg_sl av ++ List.replicate (n - (lg_sl av).length) Slot.unset).toArray) lv := by
  have h := lv_entry av (n := n) (by rw [x_slen av hc]; exact hn)
  subst hlv
  refine ⟨by rw [h.1]; simp; omega, h.2.1, fun i v hi => ?_⟩
  by_cases hil : i < av.length
  · rw [List.getElem?_append_left (by simpa using hil), List.getElem?_map] at hi
    cases hv : av[i]? with
    | none => simp [hv] at hi
    | some w =>
      simp [hv] at hi
      subst hi
      have hm := x_args av 0 i w hc hv
      rw [Nat.zero_add] at hm
      exact h.2.2 (i, w) hm
  · rw [List.getElem?_append_right (by simpa using hil)] at hi
    simp [List.getElem?_replicate] at hi
def x_cat1 (av : List Value) : Prop := ∀ v ∈ av, v.category = 1
theorem x_cn : x_cat1 [] := fun _ h => absurd h List.not_mem_nil
theorem x_cc {v : Value} {av : List Value} (h : v.category = 1) (t : x_cat1 av) : x_cat1 (v :: av) := fun w hw => by
  rcases List.mem_cons.mp hw with rfl | hw
  · exact h
  · exact t w hw
/-! words of a call -/
theorem all_code {c0 : Cond} (h : c0 ∈ ALL) : ∀ w ∈ c0 :: ALL, w ∈ ALL := fun w hw => by
  rcases List.mem_cons.mp hw with rfl | hw
  · exact h
  · exact hw
theorem all_c3 {a b c : Cond} {ws : List Cond} (ha : a ∈ ALL) (hb : b ∈ ALL) (hc : c ∈ ALL) (h : ∀ w ∈ ws, w ∈ ALL) : ∀ w ∈ [a, b, c] ++ ws, w ∈ ALL := fun w hw => by
  simp only [List.cons_append, List.nil_append, List.mem_cons] at hw
  rcases hw with rfl | rfl | rfl | hw <;> first | assumption | exact h _ hw
theorem all_c4 {a b c d : Cond} {ws : List Cond} (ha : a ∈ ALL) (hb : b ∈ ALL) (hc : c ∈ ALL) (hd : d ∈ ALL) (h : ∀ w ∈ ws, w ∈ ALL) : ∀ w ∈ [a, b, c, d] ++ ws, w ∈ ALL := fun w hw => by
  simp only [List.cons_append, List.nil_append, List.mem_cons] at hw
  rcases hw with rfl | rfl | rfl | rfl | hw <;> first | assumption | exact h _ hw
theorem all_c5 {a b c d e : Cond} {ws : List Cond} (ha : a ∈ ALL) (hb : b ∈ ALL) (hc : c ∈ ALL) (hd : d ∈ ALL) (he : e ∈ ALL) (h : ∀ w ∈ ws, w ∈ ALL) : ∀ w ∈ [a, b, c, d, e] ++ ws, w ∈ ALL := fun w hw => by
  simp only [List.cons_append, List.nil_append, List.mem_cons] at hw
  rcases hw with rfl | rfl | rfl | rfl | rfl | hw <;> first | assumption | exact h _ hw
/-! contracts -/
def XQ {α : Type} (ρ : α → Option Value) (G : xG) (post : α → xS → Prop) : Array Value → State → Outcome → State → Prop := fun _ st oc t => (∃ (r : α) (S' : xS), oc = .returned (ρ r) ∧ post r S' ∧ Wd G S' t.heap) ∧ va_F (gA G) st t
def XP (G : xG) (av : List Value) (S : xS) : Array Value → State → Prop := fun v U => v = av.toArray ∧ Wd G S U.heap ∧ gK G U
def XM {α : Type} (l : Launch) (y : MethodName) (cc : ByteArray) (maxL : Nat) (ret : Option FieldType) (rm : Room) (G : xG) (ρ : α → Option Value) (av : List Value) (S : xS) (post : α → xS → Prop) : Prop :=
  Met l y (Cond.code y cc maxL ret :: ALL) rm (XP G av S) (XQ ρ G post) rm.cells rm.slots (gA G)
def Ri (x : Int32) : Option Value := some (.int x)
def Rq (o : Option Nat) : Option Value := some (va_rf o)
def Rv (_ : Unit) : Option Value := none
def xb (b : Bool) : Int32 := if b then 1 else 0
def Rz (b : Bool) : Option Value := some (.int (xb b))
theorem XP_blind (G : xG) (av : List Value) (S : xS) : FrameBlind (XP G av S) := fun a U g mk q => ⟨q.1, q.2.1, gK.warm (s := U) (U := U.calling g mk a) (State.WarmedH.refl U) q.2.2⟩
def XC (p : Program) (s : State) (m : MethodId) (args : Array Value) (meth : Method) (c : Code) (cc : ByteArray) (nL : Nat) (own : String) (rt : Option FieldType) (G : xG) : Prop :=
  p.tables.exec = Jvm.exec ∧ c.code = cc ∧ c.maxLocals = nL ∧ s.vm.findClass own = some m.cls ∧ (∀ w ∈ ALL, w.before args s = true) ∧ gK G s ∧ G.2.2 ≤ s.heap.size ∧ meth.locks = false ∧ meth.sig.returnType = rt
def XW (p : Program) (l : Launch) (e : Env) (R : Room) (s : State) (m : MethodId) (args : Array Value) (below : List Frame) (meth : Method) (c : Code) (G : xG) (Z : State → Prop) (k n : Nat) (S : xS) (pc : Nat) (lv : List (Option Value)) (st : List Value) : Prop :=
  ∀ (H : Heap) (locs : List Loc) (ls : Array Slot), Wd G S H → va_S (gA G) s.heap H locs → x_ls ls lv → W p l e R s m args below meth c H locs k n Z (F0 m pc ls st)
section XR
variable {p : Program} {l : Launch} {e : Env} {R : Room} {s : State} {m : MethodId} {args : Array Value} {below : List Frame} {meth : Method} {c : Code} {G : xG} {Z : State → Prop} {k n : Nat} {S : xS} {pc : Nat} {lv : List (Option Value)} {st : List Value} {cc : ByteArray} {nL : Nat} {own : String} {rt : Option FieldType}
theorem x_iadd (C : XC p s m args meth c cc nL own rt G) {x y : Int32} (hdg : decode cc pc = .ok (.iadd, 1))  (kk : XW p l e R s m args below meth c G Z k n S (pc + 1) lv (.int (x + y) :: st)) : XW p l e R s m args below meth c G Z k n S pc lv (.int y :: .int x :: st) := fun H locs ls w z h => lv_iadd C.1 C.2.1 hdg  (kk H locs ls w z h)
theorem x_isub (C : XC p s m args meth c cc nL own rt G) {x y : Int32} (hdg : decode cc pc = .ok (.isub, 1))  (kk : XW p l e R s m args below meth c G Z k n S (pc + 1) lv (.int (x - y) :: st)) : XW p l e R s m args below meth c G Z k n S pc lv (.int y :: .int x :: st) := fun H locs ls w z h => lv_isub C.1 C.2.1 hdg  (kk H locs ls w z h)
theorem x_imul (C : XC p s m args meth c cc nL own rt G) {x y : Int32} (hdg : decode cc pc = .ok (.imul, 1))  (kk : XW p l e R s m args below meth c G Z k n S (pc + 1) lv (.int (x * y) :: st)) : XW p l e R s m args below meth c G Z k n S pc lv (.int y :: .int x :: st) := fun H locs ls w z h => lv_imul C.1 C.2.1 hdg  (kk H locs ls w z h)
theorem x_ishl (C : XC p s m args meth c cc nL own rt G) {x y : Int32} (hdg : decode cc pc = .ok (.ishl, 1))  (kk : XW p l e R s m args below meth c G Z k n S (pc + 1) lv (.int (x <<< (y &&& 31)) :: st)) : XW p l e R s m args below meth c G Z k n S pc lv (.int y :: .int x :: st) := fun H locs ls w z h => lv_ishl C.1 C.2.1 hdg  (kk H locs ls w z h)
theorem x_ishr (C : XC p s m args meth c cc nL own rt G) {x y : Int32} (hdg : decode cc pc = .ok (.ishr, 1))  (kk : XW p l e R s m args below meth c G Z k n S (pc + 1) lv (.int (x >>> (y &&& 31)) :: st)) : XW p l e R s m args below meth c G Z k n S pc lv (.int y :: .int x :: st) := fun H locs ls w z h => lv_ishr C.1 C.2.1 hdg  (kk H locs ls w z h)
theorem x_iand (C : XC p s m args meth c cc nL own rt G) {x y : Int32} (hdg : decode cc pc = .ok (.iand, 1))  (kk : XW p l e R s m args below meth c G Z k n S (pc + 1) lv (.int (x &&& y) :: st)) : XW p l e R s m args below meth c G Z k n S pc lv (.int y :: .int x :: st) := fun H locs ls w z h => lv_iand C.1 C.2.1 hdg  (kk H locs ls w z h)
theorem x_idiv (C : XC p s m args meth c cc nL own rt G) {x y : Int32} (hdg : decode cc pc = .ok (.idiv, 1)) (hne : ¬ y = 0) (kk : XW p l e R s m args below meth c G Z k n S (pc + 1) lv (.int (x / y) :: st)) : XW p l e R s m args below meth c G Z k n S pc lv (.int y :: .int x :: st) := fun H locs ls w z h => lv_idiv C.1 C.2.1 hdg hne (kk H locs ls w z h)
theorem x_irem (C : XC p s m args meth c cc nL own rt G) {x y : Int32} (hdg : decode cc pc = .ok (.irem, 1)) (hne : ¬ y = 0) (kk : XW p l e R s m args below meth c G Z k n S (pc + 1) lv (.int (x - x / y * y) :: st)) : XW p l e R s m args below meth c G Z k n S pc lv (.int y :: .int x :: st) := fun H locs ls w z h => lv_irem C.1 C.2.1 hdg hne (kk H locs ls w z h)
theorem x_ineg (C : XC p s m args meth c cc nL own rt G) {x : Int32} (hdg : decode cc pc = .ok (.ineg, 1))  (kk : XW p l e R s m args below meth c G Z k n S (pc + 1) lv (.int (-x) :: st)) : XW p l e R s m args below meth c G Z k n S pc lv (.int x :: st) := fun H locs ls w z h => lv_ineg C.1 C.2.1 hdg  (kk H locs ls w z h)
theorem x_lmul (C : XC p s m args meth c cc nL own rt G) {x y : Int64} (hdg : decode cc pc = .ok (.lmul, 1))  (kk : XW p l e R s m args below meth c G Z k n S (pc + 1) lv (.long (x * y) :: st)) : XW p l e R s m args below meth c G Z k n S pc lv (.long y :: .long x :: st) := fun H locs ls w z h => lv_lmul C.1 C.2.1 hdg  (kk H locs ls w z h)
theorem x_i2l (C : XC p s m args meth c cc nL own rt G) {x : Int32} (hdg : decode cc pc = .ok (.i2l, 1))  (kk : XW p l e R s m args below meth c G Z k n S (pc + 1) lv (.long x.toInt64 :: st)) : XW p l e R s m args below meth c G Z k n S pc lv (.int x :: st) := fun H locs ls w z h => lv_i2l C.1 C.2.1 hdg rfl (kk H locs ls w z h)
theorem x_i2f (C : XC p s m args meth c cc nL own rt G) {x : Int32} (hdg : decode cc pc = .ok (.i2f, 1))  (kk : XW p l e R s m args below meth c G Z k n S (pc + 1) lv (.float (FP.i2f x) :: st)) : XW p l e R s m args below meth c G Z k n S pc lv (.int x :: st) := fun H locs ls w z h => lv_i2f C.1 C.2.1 hdg  (kk H locs ls w z h)
theorem x_lconst (C : XC p s m args meth c cc nL own rt G) {n0 : Fin 2} {v : Int64} (hdg : decode cc pc = .ok (.lconst n0, 1)) (hv : Int64.ofNat (n0 : Nat) = v) (kk : XW p l e R s m args below meth c G Z k n S (pc + 1) lv (.long v :: st)) : XW p l e R s m args below meth c G Z k n S pc lv (st) := fun H locs ls w z h => lv_lconst C.1 C.2.1 hdg hv (kk H locs ls w z h)
theorem x_iconst (C : XC p s m args meth c cc nL own rt G) {n0 : Int} {v : Int32} (hdg : decode cc pc = .ok (.iconst n0, 1)) (hv : Int32.ofInt n0 = v) (kk : XW p l e R s m args below meth c G Z k n S (pc + 1) lv (.int v :: st)) : XW p l e R s m args below meth c G Z k n S pc lv (st) := fun H locs ls w z h => lv_iconst C.1 C.2.1 hdg hv (kk H locs ls w z h)
theorem x_bipush (C : XC p s m args meth c cc nL own rt G) {n0 : Int} {v : Int32} (hdg : decode cc pc = .ok (.bipush n0, 2)) (hv : (Int8.ofInt n0).toInt32 = v) (kk : XW p l e R s m args below meth c G Z k n S (pc + 2) lv (.int v :: st)) : XW p l e R s m args below meth c G Z k n S pc lv (st) := fun H locs ls w z h => lv_bipush C.1 C.2.1 hdg hv (kk H locs ls w z h)
theorem x_sipush (C : XC p s m args meth c cc nL own rt G) {n0 : Int} {v : Int32} (hdg : decode cc pc = .ok (.sipush n0, 3)) (hv : (Int16.ofInt n0).toInt32 = v) (kk : XW p l e R s m args below meth c G Z k n S (pc + 3) lv (.int v :: st)) : XW p l e R s m args below meth c G Z k n S pc lv (st) := fun H locs ls w z h => lv_sipush C.1 C.2.1 hdg hv (kk H locs ls w z h)
theorem x_null (C : XC p s m args meth c cc nL own rt G)  (hdg : decode cc pc = .ok (.aconst_null, 1))  (kk : XW p l e R s m args below meth c G Z k n S (pc + 1) lv (.null :: st)) : XW p l e R s m args below meth c G Z k n S pc lv (st) := fun H locs ls w z h => lv_null C.1 C.2.1 hdg  (kk H locs ls w z h)
theorem x_dup (C : XC p s m args meth c cc nL own rt G) {va : Value} (hdg : decode cc pc = .ok (.dup, 1)) (hva : va.category = 1) (kk : XW p l e R s m args below meth c G Z k n S (pc + 1) lv (va :: va :: st)) : XW p l e R s m args below meth c G Z k n S pc lv (va :: st) := fun H locs ls w z h => lv_dup C.1 C.2.1 hdg hva (kk H locs ls w z h)
theorem x_iload_n (C : XC p s m args meth c cc nL own rt G) {k0 : Fin 4} {i : Nat} {x : Int32} (hdg : decode cc pc = .ok (.iload_n k0, 1)) (hi : (k0 : Nat) = i) (hx : lv[i]? = some (some (.int x))) (kk : XW p l e R s m args below meth c G Z k n S (pc + 1) lv (.int x :: st)) : XW p l e R s m args below meth c G Z k n S pc lv st := fun H locs ls w z h => lv_iload_n C.1 C.2.1 hdg hi (x_ls_at h hx) (kk H locs ls w z h)
theorem x_iload (C : XC p s m args meth c cc nL own rt G) {i : Nat} {x : Int32} (hdg : decode cc pc = .ok (.iload i, 2)) (hx : lv[i]? = some (some (.int x))) (kk : XW p l e R s m args below meth c G Z k n S (pc + 2) lv (.int x :: st)) : XW p l e R s m args below meth c G Z k n S pc lv st := fun H locs ls w z h => lv_iload C.1 C.2.1 hdg (x_ls_at h hx) (kk H locs ls w z h)
theorem x_lload_n (C : XC p s m args meth c cc nL own rt G) {k0 : Fin 4} {i : Nat} {x : Int64} (hdg : decode cc pc = .ok (.lload_n k0, 1)) (hi : (k0 : Nat) = i) (hx : lv[i]? = some (some (.long x))) (kk : XW p l e R s m args below meth c G Z k n S (pc + 1) lv (.long x :: st)) : XW p l e R s m args below meth c G Z k n S pc lv st := fun H locs ls w z h => lv_lload_n C.1 C.2.1 hdg hi (x_ls_at h hx) (kk H locs ls w z h)
theorem x_lload (C : XC p s m args meth c cc nL own rt G) {i : Nat} {x : Int64} (hdg : decode cc pc = .ok (.lload i, 2)) (hx : lv[i]? = some (some (.long x))) (kk : XW p l e R s m args below meth c G Z k n S (pc + 2) lv (.long x :: st)) : XW p l e R s m args below meth c G Z k n S pc lv st := fun H locs ls w z h => lv_lload C.1 C.2.1 hdg (x_ls_at h hx) (kk H locs ls w z h)
theorem x_dload_n (C : XC p s m args meth c cc nL own rt G) {k0 : Fin 4} {i : Nat} {x : UInt64} (hdg : decode cc pc = .ok (.dload_n k0, 1)) (hi : (k0 : Nat) = i) (hx : lv[i]? = some (some (.double x))) (kk : XW p l e R s m args below meth c G Z k n S (pc + 1) lv (.double x :: st)) : XW p l e R s m args below meth c G Z k n S pc lv st := fun H locs ls w z h => lv_dload_n C.1 C.2.1 hdg hi (x_ls_at h hx) (kk H locs ls w z h)
theorem x_dload (C : XC p s m args meth c cc nL own rt G) {i : Nat} {x : UInt64} (hdg : decode cc pc = .ok (.dload i, 2)) (hx : lv[i]? = some (some (.double x))) (kk : XW p l e R s m args below meth c G Z k n S (pc + 2) lv (.double x :: st)) : XW p l e R s m args below meth c G Z k n S pc lv st := fun H locs ls w z h => lv_dload C.1 C.2.1 hdg (x_ls_at h hx) (kk H locs ls w z h)
theorem x_aload_n (C : XC p s m args meth c cc nL own rt G) {k0 : Fin 4} {i : Nat} {v : Value} (hdg : decode cc pc = .ok (.aload_n k0, 1)) (hi : (k0 : Nat) = i) (hx : lv[i]? = some (some v)) (hv : v = .null ∨ ∃ a, v = .ref a) (kk : XW p l e R s m args below meth c G Z k n S (pc + 1) lv (v :: st)) : XW p l e R s m args below meth c G Z k n S pc lv st := fun H locs ls w z h => by
  rcases hv with rfl | ⟨a, rfl⟩
  · exact lv_aload_nN C.1 C.2.1 hdg hi (x_ls_at h hx) (kk H locs ls w z h)
  · exact lv_aload_n C.1 C.2.1 hdg hi (x_ls_at h hx) (kk H locs ls w z h)
theorem x_aload (C : XC p s m args meth c cc nL own rt G) {i : Nat} {v : Value} (hdg : decode cc pc = .ok (.aload i, 2)) (hx : lv[i]? = some (some v)) (hv : v = .null ∨ ∃ a, v = .ref a) (kk : XW p l e R s m args below meth c G Z k n S (pc + 2) lv (v :: st)) : XW p l e R s m args below meth c G Z k n S pc lv st := fun H locs ls w z h => by
  rcases hv with rfl | ⟨a, rfl⟩
  · exact lv_aloadN C.1 C.2.1 hdg (x_ls_at h hx) (kk H locs ls w z h)
  · exact lv_aload C.1 C.2.1 hdg (x_ls_at h hx) (kk H locs ls w z h)
theorem x_istore_n (C : XC p s m args meth c cc nL own rt G) {k0 : Fin 4} {i : Nat} {x : Int32} {lv' : List (Option Value)} (hdg : decode cc pc = .ok (.istore_n k0, 1)) (hi : (k0 : Nat) = i) (hn : i < lv.length) (hok : x_ok lv i = true) (hlv : lv.set i (some (.int x)) = lv') (kk : XW p l e R s m args below meth c G Z k n S (pc + 1) lv' st) : XW p l e R s m args below meth c G Z k n S pc lv (.int x :: st) := fun H locs ls w z h => lv_istore_n C.1 C.2.1 hdg hi (x_ls_has h) hn rfl (fun ls' h' => kk H locs ls' w z (hlv ▸ x_ls_st1 hn hok h'))
theorem x_istore (C : XC p s m args meth c cc nL own rt G) {i : Nat} {x : Int32} {lv' : List (Option Value)} (hdg : decode cc pc = .ok (.istore i, 2)) (hn : i < lv.length) (hok : x_ok lv i = true) (hlv : lv.set i (some (.int x)) = lv') (kk : XW p l e R s m args below meth c G Z k n S (pc + 2) lv' st) : XW p l e R s m args below meth c G Z k n S pc lv (.int x :: st) := fun H locs ls w z h => lv_istore C.1 C.2.1 hdg (x_ls_has h) hn rfl (fun ls' h' => kk H locs ls' w z (hlv ▸ x_ls_st1 hn hok h'))
theorem x_lstore_n (C : XC p s m args meth c cc nL own rt G) {k0 : Fin 4} {i : Nat} {x : Int64} {lv' : List (Option Value)} (hdg : decode cc pc = .ok (.lstore_n k0, 1)) (hi : (k0 : Nat) = i) (hn : i + 1 < lv.length) (hok : x_ok lv i = true) (hlv : (lv.set i (some (.long x))).set (i + 1) none = lv') (kk : XW p l e R s m args below meth c G Z k n S (pc + 1) lv' st) : XW p l e R s m args below meth c G Z k n S pc lv (.long x :: st) := fun H locs ls w z h => lv_lstore_n C.1 C.2.1 hdg hi (x_ls_has h) hn rfl (fun ls' h' => kk H locs ls' w z (hlv ▸ x_ls_st2 hn hok h'))
theorem x_lstore (C : XC p s m args meth c cc nL own rt G) {i : Nat} {x : Int64} {lv' : List (Option Value)} (hdg : decode cc pc = .ok (.lstore i, 2)) (hn : i + 1 < lv.length) (hok : x_ok lv i = true) (hlv : (lv.set i (some (.long x))).set (i + 1) none = lv') (kk : XW p l e R s m args below meth c G Z k n S (pc + 2) lv' st) : XW p l e R s m args below meth c G Z k n S pc lv (.long x :: st) := fun H locs ls w z h => lv_lstore C.1 C.2.1 hdg (x_ls_has h) hn rfl (fun ls' h' => kk H locs ls' w z (hlv ▸ x_ls_st2 hn hok h'))
theorem x_dstore_n (C : XC p s m args meth c cc nL own rt G) {k0 : Fin 4} {i : Nat} {x : UInt64} {lv' : List (Option Value)} (hdg : decode cc pc = .ok (.dstore_n k0, 1)) (hi : (k0 : Nat) = i) (hn : i + 1 < lv.length) (hok : x_ok lv i = true) (hlv : (lv.set i (some (.double x))).set (i + 1) none = lv') (kk : XW p l e R s m args below meth c G Z k n S (pc + 1) lv' st) : XW p l e R s m args below meth c G Z k n S pc lv (.double x :: st) := fun H locs ls w z h => lv_dstore_n C.1 C.2.1 hdg hi (x_ls_has h) hn rfl (fun ls' h' => kk H locs ls' w z (hlv ▸ x_ls_st2 hn hok h'))
theorem x_dstore (C : XC p s m args meth c cc nL own rt G) {i : Nat} {x : UInt64} {lv' : List (Option Value)} (hdg : decode cc pc = .ok (.dstore i, 2)) (hn : i + 1 < lv.length) (hok : x_ok lv i = true) (hlv : (lv.set i (some (.double x))).set (i + 1) none = lv') (kk : XW p l e R s m args below meth c G Z k n S (pc + 2) lv' st) : XW p l e R s m args below meth c G Z k n S pc lv (.double x :: st) := fun H locs ls w z h => lv_dstore C.1 C.2.1 hdg (x_ls_has h) hn rfl (fun ls' h' => kk H locs ls' w z (hlv ▸ x_ls_st2 hn hok h'))
theorem x_astore_n (C : XC p s m args meth c cc nL own rt G) {k0 : Fin 4} {i : Nat} {v : Value} {lv' : List (Option Value)} (hdg : decode cc pc = .ok (.astore_n k0, 1)) (hi : (k0 : Nat) = i) (hn : i < lv.length) (hok : x_ok lv i = true) (hv : v = .null ∨ ∃ a, v = .ref a) (hlv : lv.set i (some v) = lv') (kk : XW p l e R s m args below meth c G Z k n S (pc + 1) lv' st) : XW p l e R s m args below meth c G Z k n S pc lv (v :: st) := fun H locs ls w z h => by
  rcases hv with rfl | ⟨a, rfl⟩
  · exact lv_astore_nN C.1 C.2.1 hdg hi (x_ls_has h) hn rfl (fun ls' h' => kk H locs ls' w z (hlv ▸ x_ls_st1 hn hok h'))
  · exact lv_astore_n C.1 C.2.1 hdg hi (x_ls_has h) hn rfl (fun ls' h' => kk H locs ls' w z (hlv ▸ x_ls_st1 hn hok h'))
theorem x_astore (C : XC p s m args meth c cc nL own rt G) {i : Nat} {v : Value} {lv' : List (Option Value)} (hdg : decode cc pc = .ok (.astore i, 2)) (hn : i < lv.length) (hok : x_ok lv i = true) (hv : v = .null ∨ ∃ a, v = .ref a) (hlv : lv.set i (some v) = lv') (kk : XW p l e R s m args below meth c G Z k n S (pc + 2) lv' st) : XW p l e R s m args below meth c G Z k n S pc lv (v :: st) := fun H locs ls w z h => by
  rcases hv with rfl | ⟨a, rfl⟩
  · exact lv_astoreN C.1 C.2.1 hdg (x_ls_has h) hn rfl (fun ls' h' => kk H locs ls' w z (hlv ▸ x_ls_st1 hn hok h'))
  · exact lv_astore C.1 C.2.1 hdg (x_ls_has h) hn rfl (fun ls' h' => kk H locs ls' w z (hlv ▸ x_ls_st1 hn hok h'))
theorem x_iinc (C : XC p s m args meth c cc nL own rt G) {i : Nat} {n0 : Int} {x v : Int32} {lv' : List (Option Value)} (hdg : decode cc pc = .ok (.iinc i n0, 3)) (hx : lv[i]? = some (some (.int x))) (hv : x + Int32.ofInt n0 = v) (hok : x_ok lv i = true) (hlv : lv.set i (some (.int v)) = lv') (kk : XW p l e R s m args below meth c G Z k n S (pc + 3) lv' st) : XW p l e R s m args below meth c G Z k n S pc lv st := fun H locs ls w z h => by
  obtain ⟨j, hj⟩ := List.getElem?_of_mem (x_prs_mem.mpr hx)
  have hn : i < lv.length := (List.getElem?_eq_some_iff.mp hx).1
  exact lv_iinc C.1 C.2.1 hdg (x_ls_has h) hj hv hn rfl (fun ls' h' => kk H locs ls' w z (hlv ▸ x_ls_st1 hn hok h'))
theorem x_icmp_eq (C : XC p s m args meth c cc nL own rt G) {x y : Int32} {off : Int} (tgt : Nat) (hdg : decode cc pc = .ok (.if_icmp .eq off, 3)) (ht : (pc : Int) + off = (tgt : Int)) (kt : x = y → XW p l e R s m args below meth c G Z k n S tgt lv st) (kf : ¬ x = y → XW p l e R s m args below meth c G Z k n S (pc + 3) lv st) : XW p l e R s m args below meth c G Z k n S pc lv (.int y :: .int x :: st) := fun H locs ls w z h => lv_icmp_eq C.1 C.2.1 hdg ht (fun q => kt q H locs ls w z h) (fun q => kf q H locs ls w z h)
theorem x_if_eq (C : XC p s m args meth c cc nL own rt G) {x : Int32} {off : Int} (tgt : Nat) (hdg : decode cc pc = .ok (.ifCond .eq off, 3)) (ht : (pc : Int) + off = (tgt : Int)) (kt : x = 0 → XW p l e R s m args below meth c G Z k n S tgt lv st) (kf : ¬ x = 0 → XW p l e R s m args below meth c G Z k n S (pc + 3) lv st) : XW p l e R s m args below meth c G Z k n S pc lv (.int x :: st) := fun H locs ls w z h => lv_if_eq C.1 C.2.1 hdg ht (fun q => kt q H locs ls w z h) (fun q => kf q H locs ls w z h)
theorem x_icmp_ne (C : XC p s m args meth c cc nL own rt G) {x y : Int32} {off : Int} (tgt : Nat) (hdg : decode cc pc = .ok (.if_icmp .ne off, 3)) (ht : (pc : Int) + off = (tgt : Int)) (kt : ¬ x = y → XW p l e R s m args below meth c G Z k n S tgt lv st) (kf : x = y → XW p l e R s m args below meth c G Z k n S (pc + 3) lv st) : XW p l e R s m args below meth c G Z k n S pc lv (.int y :: .int x :: st) := fun H locs ls w z h => lv_icmp_ne C.1 C.2.1 hdg ht (fun q => kt q H locs ls w z h) (fun q => kf q H locs ls w z h)
theorem x_if_ne (C : XC p s m args meth c cc nL own rt G) {x : Int32} {off : Int} (tgt : Nat) (hdg : decode cc pc = .ok (.ifCond .ne off, 3)) (ht : (pc : Int) + off = (tgt : Int)) (kt : ¬ x = 0 → XW p l e R s m args below meth c G Z k n S tgt lv st) (kf : x = 0 → XW p l e R s m args below meth c G Z k n S (pc + 3) lv st) : XW p l e R s m args below meth c G Z k n S pc lv (.int x :: st) := fun H locs ls w z h => lv_if_ne C.1 C.2.1 hdg ht (fun q => kt q H locs ls w z h) (fun q => kf q H locs ls w z h)
theorem x_icmp_lt (C : XC p s m args meth c cc nL own rt G) {x y : Int32} {off : Int} (tgt : Nat) (hdg : decode cc pc = .ok (.if_icmp .lt off, 3)) (ht : (pc : Int) + off = (tgt : Int)) (kt : x < y → XW p l e R s m args below meth c G Z k n S tgt lv st) (kf : ¬ x < y → XW p l e R s m args below meth c G Z k n S (pc + 3) lv st) : XW p l e R s m args below meth c G Z k n S pc lv (.int y :: .int x :: st) := fun H locs ls w z h => lv_icmp_lt C.1 C.2.1 hdg ht (fun q => kt q H locs ls w z h) (fun q => kf q H locs ls w z h)
theorem x_if_lt (C : XC p s m args meth c cc nL own rt G) {x : Int32} {off : Int} (tgt : Nat) (hdg : decode cc pc = .ok (.ifCond .lt off, 3)) (ht : (pc : Int) + off = (tgt : Int)) (kt : x < 0 → XW p l e R s m args below meth c G Z k n S tgt lv st) (kf : ¬ x < 0 → XW p l e R s m args below meth c G Z k n S (pc + 3) lv st) : XW p l e R s m args below meth c G Z k n S pc lv (.int x :: st) := fun H locs ls w z h => lv_if_lt C.1 C.2.1 hdg ht (fun q => kt q H locs ls w z h) (fun q => kf q H locs ls w z h)
theorem x_icmp_ge (C : XC p s m args meth c cc nL own rt G) {x y : Int32} {off : Int} (tgt : Nat) (hdg : decode cc pc = .ok (.if_icmp .ge off, 3)) (ht : (pc : Int) + off = (tgt : Int)) (kt : y ≤ x → XW p l e R s m args below meth c G Z k n S tgt lv st) (kf : ¬ y ≤ x → XW p l e R s m args below meth c G Z k n S (pc + 3) lv st) : XW p l e R s m args below meth c G Z k n S pc lv (.int y :: .int x :: st) := fun H locs ls w z h => lv_icmp_ge C.1 C.2.1 hdg ht (fun q => kt q H locs ls w z h) (fun q => kf q H locs ls w z h)
theorem x_if_ge (C : XC p s m args meth c cc nL own rt G) {x : Int32} {off : Int} (tgt : Nat) (hdg : decode cc pc = .ok (.ifCond .ge off, 3)) (ht : (pc : Int) + off = (tgt : Int)) (kt : 0 ≤ x → XW p l e R s m args below meth c G Z k n S tgt lv st) (kf : ¬ 0 ≤ x → XW p l e R s m args below meth c G Z k n S (pc + 3) lv st) : XW p l e R s m args below meth c G Z k n S pc lv (.int x :: st) := fun H locs ls w z h => lv_if_ge C.1 C.2.1 hdg ht (fun q => kt q H locs ls w z h) (fun q => kf q H locs ls w z h)
theorem x_icmp_gt (C : XC p s m args meth c cc nL own rt G) {x y : Int32} {off : Int} (tgt : Nat) (hdg : decode cc pc = .ok (.if_icmp .gt off, 3)) (ht : (pc : Int) + off = (tgt : Int)) (kt : y < x → XW p l e R s m args below meth c G Z k n S tgt lv st) (kf : ¬ y < x → XW p l e R s m args below meth c G Z k n S (pc + 3) lv st) : XW p l e R s m args below meth c G Z k n S pc lv (.int y :: .int x :: st) := fun H locs ls w z h => lv_icmp_gt C.1 C.2.1 hdg ht (fun q => kt q H locs ls w z h) (fun q => kf q H locs ls w z h)
theorem x_if_gt (C : XC p s m args meth c cc nL own rt G) {x : Int32} {off : Int} (tgt : Nat) (hdg : decode cc pc = .ok (.ifCond .gt off, 3)) (ht : (pc : Int) + off = (tgt : Int)) (kt : 0 < x → XW p l e R s m args below meth c G Z k n S tgt lv st) (kf : ¬ 0 < x → XW p l e R s m args below meth c G Z k n S (pc + 3) lv st) : XW p l e R s m args below meth c G Z k n S pc lv (.int x :: st) := fun H locs ls w z h => lv_if_gt C.1 C.2.1 hdg ht (fun q => kt q H locs ls w z h) (fun q => kf q H locs ls w z h)
theorem x_icmp_le (C : XC p s m args meth c cc nL own rt G) {x y : Int32} {off : Int} (tgt : Nat) (hdg : decode cc pc = .ok (.if_icmp .le off, 3)) (ht : (pc : Int) + off = (tgt : Int)) (kt : x ≤ y → XW p l e R s m args below meth c G Z k n S tgt lv st) (kf : ¬ x ≤ y → XW p l e R s m args below meth c G Z k n S (pc + 3) lv st) : XW p l e R s m args below meth c G Z k n S pc lv (.int y :: .int x :: st) := fun H locs ls w z h => lv_icmp_le C.1 C.2.1 hdg ht (fun q => kt q H locs ls w z h) (fun q => kf q H locs ls w z h)
theorem x_if_le (C : XC p s m args meth c cc nL own rt G) {x : Int32} {off : Int} (tgt : Nat) (hdg : decode cc pc = .ok (.ifCond .le off, 3)) (ht : (pc : Int) + off = (tgt : Int)) (kt : x ≤ 0 → XW p l e R s m args below meth c G Z k n S tgt lv st) (kf : ¬ x ≤ 0 → XW p l e R s m args below meth c G Z k n S (pc + 3) lv st) : XW p l e R s m args below meth c G Z k n S pc lv (.int x :: st) := fun H locs ls w z h => lv_if_le C.1 C.2.1 hdg ht (fun q => kt q H locs ls w z h) (fun q => kf q H locs ls w z h)
theorem x_goto (C : XC p s m args meth c cc nL own rt G) {off : Int} (tgt : Nat) (hdg : decode cc pc = .ok (.goto off, 3)) (ht : (pc : Int) + off = (tgt : Int)) (kk : XW p l e R s m args below meth c G Z k n S tgt lv st) : XW p l e R s m args below meth c G Z k n S pc lv st := fun H locs ls w z h => lv_goto C.1 C.2.1 hdg ht (kk H locs ls w z h)
theorem x_ifnull (C : XC p s m args meth c cc nL own rt G) {o : Option Nat} {off : Int} (tgt : Nat) (hdg : decode cc pc = .ok (.ifnull off, 3)) (ht : (pc : Int) + off = (tgt : Int)) (kt : o = none → XW p l e R s m args below meth c G Z k n S tgt lv st) (kf : ∀ a, o = some a → XW p l e R s m args below meth c G Z k n S (pc + 3) lv st) : XW p l e R s m args below meth c G Z k n S pc lv (va_rf o :: st) := fun H locs ls w z h => by
  cases o with
  | none => exact lv_ifnullN C.1 C.2.1 hdg ht (kt rfl H locs ls w z h)
  | some a => exact lv_ifnull C.1 C.2.1 hdg (kf a rfl H locs ls w z h)
theorem x_ifnonnull (C : XC p s m args meth c cc nL own rt G) {o : Option Nat} {off : Int} (tgt : Nat) (hdg : decode cc pc = .ok (.ifnonnull off, 3)) (ht : (pc : Int) + off = (tgt : Int)) (kt : ∀ a, o = some a → XW p l e R s m args below meth c G Z k n S tgt lv st) (kf : o = none → XW p l e R s m args below meth c G Z k n S (pc + 3) lv st) : XW p l e R s m args below meth c G Z k n S pc lv (va_rf o :: st) := fun H locs ls w z h => by
  cases o with
  | none => exact lv_ifnonnullN C.1 C.2.1 hdg (kf rfl H locs ls w z h)
  | some a => exact lv_ifnonnull C.1 C.2.1 hdg ht (kt a rfl H locs ls w z h)
theorem x_acmp_ne (C : XC p s m args meth c cc nL own rt G) {rx ry : Option Nat} {off : Int} (tgt : Nat) (hdg : decode cc pc = .ok (.if_acmp .ne off, 3)) (ht : (pc : Int) + off = (tgt : Int)) (kt : ¬ rx = ry → XW p l e R s m args below meth c G Z k n S tgt lv st) (kf : rx = ry → XW p l e R s m args below meth c G Z k n S (pc + 3) lv st) : XW p l e R s m args below meth c G Z k n S pc lv (va_rf ry :: va_rf rx :: st) := fun H locs ls w z h => lv_acmp_ne C.1 C.2.1 hdg ht (fun q => kt q H locs ls w z h) (fun q => kf q H locs ls w z h)
theorem x_ldc (C : XC p s m args meth c cc nL own rt G) {index : Nat} {v : Int32} (hc : Cond.constant own index v ∈ ALL) (hdg : decode cc pc = .ok (.ldc index, 2)) (kk : XW p l e R s m args below meth c G Z k n S (pc + 2) lv (.int v :: st)) : XW p l e R s m args below meth c G Z k n S pc lv st := fun H locs ls w z h => lv_ldc C.1 C.2.1 C.2.2.2.1 (C.2.2.2.2.1 _ hc) hdg (kk H locs ls w z h)
theorem x_ldc2 (C : XC p s m args meth c cc nL own rt G) {index : Nat} {v : Int64} (hc : Cond.constantLong own index v ∈ ALL) (hdg : decode cc pc = .ok (.ldc2_w index, 3)) (kk : XW p l e R s m args below meth c G Z k n S (pc + 3) lv (.long v :: st)) : XW p l e R s m args below meth c G Z k n S pc lv st := fun H locs ls w z h => lv_ldc2 C.1 C.2.1 C.2.2.2.1 (C.2.2.2.2.1 _ hc) hdg (kk H locs ls w z h)
theorem x_sub {lv' : List (Option Value)} (hl : lv'.length = lv.length) (hs : ∀ (i : Nat) (v : Value), lv'[i]? = some (some v) → lv[i]? = some (some v)) (kk : XW p l e R s m args below meth c G Z k n S pc lv' st) : XW p l e R s m args below meth c G Z k n S pc lv st := fun H locs ls w z h => kk H locs ls w z (x_ls_sub h hl hs)
theorem x_widen {k' n' : Nat} (h1 : k ≤ k') (h2 : n ≤ n') (kk : XW p l e R s m args below meth c G Z k' n' S pc lv st) : XW p l e R s m args below meth c G Z k n S pc lv st := fun H locs ls w z h => W.widen h1 h2 (kk H locs ls w z h)
theorem x_getI (C : XC p s m args meth c cc nL own rt G) {K N : Nat → Nat} {I : Nat → Nat → Int32} {Q : Nat → Nat → Option Nat} {J : Nat → Nat → Int64} {a ci k0 N0 index : Nat} {T : u_T} {Cn ref : String} (hK : K a = ci + 1) (hci : ci < 9) (hc : vwCl[ci]? = some (Cn, T, N0)) (hk : k0 < N0) (hin : ∀ w ∈ u_ws Cn T N0, w ∈ ALL) (hlink : Cond.fieldLink own index ref (T k0).2.1 (T k0).2.2.1 ∈ ALL) (hsame : (T k0).1 = ref) (hl : (x_lay ci)[k0]? = some false) (hdg : decode cc pc = .ok (.getfield index, 3)) (kk : XW p l e R s m args below meth c G Z k n (K, N, I, Q, J) (pc + 3) lv (.int (I a k0) :: st)) : XW p l e R s m args below meth c G Z k n (K, N, I, Q, J) pc lv (.ref a :: st) := fun H locs ls w z h => by
  have hw := x_cell_obj (G := G) (S := (K, N, I, Q, J)) hK hci
  exact va_get (v := .int (I a k0)) C.1 C.2.1 C.2.2.2.2.1 hin C.2.2.2.1 C.2.2.2.2.2.1.1 (x_P1 w hw) 0 rfl hc k0 hk (C.2.2.2.2.1 _ hlink) (fun x hx => hsame ▸ hx) (by rw [x_fl_get, hl]; simp) hdg (kk H locs ls w z h)
theorem x_getQ (C : XC p s m args meth c cc nL own rt G) {K N : Nat → Nat} {I : Nat → Nat → Int32} {Q : Nat → Nat → Option Nat} {J : Nat → Nat → Int64} {a ci k0 N0 index : Nat} {T : u_T} {Cn ref : String} (hK : K a = ci + 1) (hci : ci < 9) (hc : vwCl[ci]? = some (Cn, T, N0)) (hk : k0 < N0) (hin : ∀ w ∈ u_ws Cn T N0, w ∈ ALL) (hlink : Cond.fieldLink own index ref (T k0).2.1 (T k0).2.2.1 ∈ ALL) (hsame : (T k0).1 = ref) (hl : (x_lay ci)[k0]? = some true) (hdg : decode cc pc = .ok (.getfield index, 3)) (kk : XW p l e R s m args below meth c G Z k n (K, N, I, Q, J) (pc + 3) lv (va_rf (Q a k0) :: st)) : XW p l e R s m args below meth c G Z k n (K, N, I, Q, J) pc lv (.ref a :: st) := fun H locs ls w z h => by
  have hw := x_cell_obj (G := G) (S := (K, N, I, Q, J)) hK hci
  exact va_get (v := va_rf (Q a k0)) C.1 C.2.1 C.2.2.2.2.1 hin C.2.2.2.1 C.2.2.2.2.2.1.1 (x_P1 w hw) 0 rfl hc k0 hk (C.2.2.2.2.1 _ hlink) (fun x hx => hsame ▸ hx) (by rw [x_fl_get, hl]; simp) hdg (kk H locs ls w z h)
theorem x_putW {H H0 : Heap} {locs : List Loc} {ls : Array Slot} {D : va_G} {tys : List (ClassId × FieldType)} {A : Nat → Prop} {a ci k0 N0 index : Nat} {T : u_T} {Cn ref : String} {fs : List Value} (hexec : p.tables.exec = Jvm.exec) (hb : c.code = cc) (hts : ∀ w ∈ ALL, w.before args s = true) (hin : ∀ w ∈ u_ws Cn T N0, w ∈ ALL) (ty0 : Nat → FieldType) (hty : ∀ k, k < N0 → parseFieldDescriptor (T k).2.2.1 = some (ty0 k)) (hnm : ∀ a, a < N0 → ∀ b, b < N0 → a ≠ b → (T a).2.1 ≠ (T b).2.1) (hown : s.vm.findClass own = some m.cls) (hK : va_K D vwCl tys s) (hat : va_at D vwCl (a, .inr (ci, fs)) H) (hA : A a) (hS0 : va_S A H0 H locs) (hc : vwCl[ci]? = some (Cn, T, N0)) (hk : k0 < N0) (hlink : (Cond.fieldLink own index ref (T k0).2.1 (T k0).2.2.1).before args s = true) (hsame : (T k0).1 = ref) (hfin : (T k0).2.2.2 = false) {ty : FieldType} {v : Value} (hd : parseFieldDescriptor (T k0).2.2.1 = some ty) (hn : narrow ty v = v) (hfit : fits ty v = true) (hl : k0 < fs.length) (hdg : decode cc pc = .ok (.putfield index, 3)) (kk : ∀ (H1 : Heap) (locs1 : List Loc), va_at D vwCl (a, .inr (ci, fs.set k0 v)) H1 → H1.size = H.size → (∀ q : Nat, q ≠ a → H1[q]? = H[q]?) → va_S A H0 H1 locs1 → W p l e R s m args below meth c H1 locs1 k n Z (F0 m (pc + 3) ls st)) : W p l e R s m args below meth c H locs k n Z (F0 m pc ls (v :: .ref a :: st)) := by
  have hap := va_apart (own := own) hts hin ty0 hty hnm hK hc
  obtain ⟨r, h1, cell, q1, q2, q3, q4⟩ := hat
  have hr : r = (Cn, T, N0) := Option.some.inj (h1.symm.trans hc)
  subst hr
  obtain ⟨hS, hfc, kC, hkC, hkind⟩ := hK.1 ci _ hc
  obtain ⟨cf, kf, fi, f, hi, hsl⟩ := hS k0 hk
  have hlay := hts _ (hin _ (u_in_lay hk))
  unfold u_lay at hlay
  rw [if_neg (by rw [hfin]; decide)] at hlay
  have hst := (u_facts hfc hkC (u_lays hts hin hk) hi).1
  have h6 := u_store hfc hkC hkind hlay hi hd hn hfit
  refine W.putK hexec hb (f := f) ⟨hown, hlink, ⟨_, _, _, (hsame ▸ hi)⟩, hst⟩ (by rw [q2]; exact h6) q1 q3 (by rw [hsl]; exact k2_hasslot (q4 k0 hk)) rfl rfl hdg fun H' e1 e2 e3 => ?_
  rw [hsl] at e1 ⊢
  exact kk H' _ ⟨_, hc, t_OB.to (V := updV (vp_V fs) k0 v) ⟨_, e1, q2, q3, t_set q4 hap hk v⟩ (fun j _ => vp_updV_set hl v j)⟩ e2 e3 (hS0.put e2 e3 hA)
theorem x_putFW {H H0 : Heap} {locs : List Loc} {ls : Array Slot} {D : va_G} {tys : List (ClassId × FieldType)} {A : Nat → Prop} {a ci k0 N0 index : Nat} {T : u_T} {Cn ref : String} {fs : List Value} (hexec : p.tables.exec = Jvm.exec) (hb : c.code = cc) (hts : ∀ w ∈ ALL, w.before args s = true) (hin : ∀ w ∈ u_ws Cn T N0, w ∈ ALL) (ty0 : Nat → FieldType) (hty : ∀ k, k < N0 → parseFieldDescriptor (T k).2.2.1 = some (ty0 k)) (hnm : ∀ a, a < N0 → ∀ b, b < N0 → a ≠ b → (T a).2.1 ≠ (T b).2.1) (hown : s.vm.findClass own = some m.cls) (hK : va_K D vwCl tys s) (hat : va_at D vwCl (a, .inr (ci, fs)) H) (hA : A a) (hS0 : va_S A H0 H locs) (hc : vwCl[ci]? = some (Cn, T, N0)) (hk : k0 < N0) (hlink : (Cond.fieldLink own index ref (T k0).2.1 (T k0).2.2.1).before args s = true) (hsame : (T k0).1 = ref) (hfin : (T k0).2.2.2 = true) (hin2 : meth.name = "<init>") (hdecl : (T k0).1 = own) {ty : FieldType} {v : Value} (hd : parseFieldDescriptor (T k0).2.2.1 = some ty) (hn : narrow ty v = v) (hfit : fits ty v = true) (hl : k0 < fs.length) (hdg : decode cc pc = .ok (.putfield index, 3)) (kk : ∀ (H1 : Heap) (locs1 : List Loc), va_at D vwCl (a, .inr (ci, fs.set k0 v)) H1 → H1.size = H.size → (∀ q : Nat, q ≠ a → H1[q]? = H[q]?) → va_S A H0 H1 locs1 → W p l e R s m args below meth c H1 locs1 k n Z (F0 m (pc + 3) ls st)) : W p l e R s m args below meth c H locs k n Z (F0 m pc ls (v :: .ref a :: st)) := by
  have hap := va_apart (own := own) hts hin ty0 hty hnm hK hc
  obtain ⟨r, h1, cell, q1, q2, q3, q4⟩ := hat
  have hr : r = (Cn, T, N0) := Option.some.inj (h1.symm.trans hc)
  subst hr
  obtain ⟨hS, hfc, kC, hkC, hkind⟩ := hK.1 ci _ hc
  obtain ⟨cf, kf, fi, f, hi, hsl⟩ := hS k0 hk
  have hlay := hts _ (hin _ (u_in_lay hk))
  unfold u_lay at hlay
  rw [if_pos hfin] at hlay
  have hst := (u_facts hfc hkC (u_lays hts hin hk) hi).1
  have hcf : m.cls = cf := by
    obtain ⟨_, _, c', _, _, _, -, -, hf', -, -, -, hown2, -⟩ := Cond.laysFinal_spec hlay
    have e1 : c' = cf := by have := hi.symm.trans hf'; simp at this; exact this.1.symm
    rw [hdecl] at hown2
    rw [← e1]; exact Option.some.inj (hown.symm.trans hown2)
  have h6 := u_fits hfc hkC hkind (Or.inr hlay) hi hd hn hfit
  refine W.putFinK hexec hb hown hlink (hsame ▸ hi) hst hcf hin2 (by rw [q2]; exact h6) q1 q3 (by rw [hsl]; exact k2_hasslot (q4 k0 hk)) rfl rfl hdg fun H' e1 e2 e3 => ?_
  rw [hsl] at e1 ⊢
  exact kk H' _ ⟨_, hc, t_OB.to (V := updV (vp_V fs) k0 v) ⟨_, e1, q2, q3, t_set q4 hap hk v⟩ (fun j _ => vp_updV_set hl v j)⟩ e2 e3 (hS0.put e2 e3 hA)
theorem x_putI (C : XC p s m args meth c cc nL own rt G) {K N : Nat → Nat} {I : Nat → Nat → Int32} {Q : Nat → Nat → Option Nat} {J : Nat → Nat → Int64} {a ci k0 N0 index : Nat} {T : u_T} {Cn ref : String} (hK : K a = ci + 1) (hci : ci < 9) (hc : vwCl[ci]? = some (Cn, T, N0)) (hk : k0 < N0) (hin : ∀ w ∈ u_ws Cn T N0, w ∈ ALL) (hlink : Cond.fieldLink own index ref (T k0).2.1 (T k0).2.2.1 ∈ ALL) (hsame : (T k0).1 = ref) (ty0 : Nat → FieldType) (hty : ∀ k, k < N0 → parseFieldDescriptor (T k).2.2.1 = some (ty0 k)) (hnm : ∀ a, a < N0 → ∀ b, b < N0 → a ≠ b → (T a).2.1 ≠ (T b).2.1) (hfin : (T k0).2.2.2 = false) {ty : FieldType} {v : Int32} (hd : parseFieldDescriptor (T k0).2.2.1 = some ty) (hn : narrow ty (.int v) = .int v) (hfit : fits ty (.int v) = true) (hl : (x_lay ci)[k0]? = some false) (hdg : decode cc pc = .ok (.putfield index, 3)) (kk : ∀ I' : Nat → Nat → Int32, I' = x_u2 I a k0 v → XW p l e R s m args below meth c G Z k n (K, N, I', Q, J) (pc + 3) lv st) : XW p l e R s m args below meth c G Z k n (K, N, I, Q, J) pc lv (.int v :: .ref a :: st) := fun H locs ls w z h => by
  have hw := x_cell_obj (G := G) (S := (K, N, I, Q, J)) hK hci
  have hw' := x_cell_obj (G := G) (S := (K, N, x_u2 I a k0 v, Q, J)) hK hci
  refine x_putW C.1 C.2.1 C.2.2.2.2.1 hin ty0 hty hnm C.2.2.2.1 C.2.2.2.2.2.1.1 (w.2.1 _ _ hw).2 (w.2.1 _ _ hw).1 z hc hk (C.2.2.2.2.1 _ hlink) hsame hfin hd hn hfit (by rw [x_fl_len]; exact (List.getElem?_eq_some_iff.mp hl).1) hdg (fun H1 locs1 hat hz hq hS => kk _ rfl H1 locs1 ls (x_set w hw hw' ?_ hz hq (fun q hqa => x_cell_congr rfl rfl (x_up_n _ _ hqa) rfl rfl) rfl) hS h)
  rw [x_fl_setI _ _ _ _ _ _ hl, Nat.zero_add] at hat
  show va_at G.1 vwCl (a, .inr (ci, x_fl (x_lay ci) 0 (x_up I a (x_up (I a) k0 v) a) (Q a))) H1
  rw [x_up_s]
  exact hat
theorem x_putQ (C : XC p s m args meth c cc nL own rt G) {K N : Nat → Nat} {I : Nat → Nat → Int32} {Q : Nat → Nat → Option Nat} {J : Nat → Nat → Int64} {a ci k0 N0 index : Nat} {T : u_T} {Cn ref : String} (hK : K a = ci + 1) (hci : ci < 9) (hc : vwCl[ci]? = some (Cn, T, N0)) (hk : k0 < N0) (hin : ∀ w ∈ u_ws Cn T N0, w ∈ ALL) (hlink : Cond.fieldLink own index ref (T k0).2.1 (T k0).2.2.1 ∈ ALL) (hsame : (T k0).1 = ref) (ty0 : Nat → FieldType) (hty : ∀ k, k < N0 → parseFieldDescriptor (T k).2.2.1 = some (ty0 k)) (hnm : ∀ a, a < N0 → ∀ b, b < N0 → a ≠ b → (T a).2.1 ≠ (T b).2.1) (hfin : (T k0).2.2.2 = false) {ty : FieldType} {v : Value} {o : Option Nat} (ho : v = va_rf o) (hd : parseFieldDescriptor (T k0).2.2.1 = some ty) (hn : narrow ty (va_rf o) = va_rf o) (hfit : fits ty (va_rf o) = true) (hl : (x_lay ci)[k0]? = some true) (hdg : decode cc pc = .ok (.putfield index, 3)) (kk : ∀ Q' : Nat → Nat → Option Nat, Q' = x_u2 Q a k0 o → XW p l e R s m args below meth c G Z k n (K, N, I, Q', J) (pc + 3) lv st) : XW p l e R s m args below meth c G Z k n (K, N, I, Q, J) pc lv (v :: .ref a :: st) := fun H locs ls w z h => by
  subst ho
  have hw := x_cell_obj (G := G) (S := (K, N, I, Q, J)) hK hci
  have hw' := x_cell_obj (G := G) (S := (K, N, I, x_u2 Q a k0 o, J)) hK hci
  refine x_putW C.1 C.2.1 C.2.2.2.2.1 hin ty0 hty hnm C.2.2.2.1 C.2.2.2.2.2.1.1 (w.2.1 _ _ hw).2 (w.2.1 _ _ hw).1 z hc hk (C.2.2.2.2.1 _ hlink) hsame hfin hd hn hfit (by rw [x_fl_len]; exact (List.getElem?_eq_some_iff.mp hl).1) hdg (fun H1 locs1 hat hz hq hS => kk _ rfl H1 locs1 ls (x_set w hw hw' ?_ hz hq (fun q hqa => x_cell_congr rfl rfl rfl (x_up_n _ _ hqa) rfl) rfl) hS h)
  rw [x_fl_setQ _ _ _ _ _ _ hl, Nat.zero_add] at hat
  show va_at G.1 vwCl (a, .inr (ci, x_fl (x_lay ci) 0 (I a) (x_up Q a (x_up (Q a) k0 o) a))) H1
  rw [x_up_s]
  exact hat
theorem x_putFI (C : XC p s m args meth c cc nL own rt G) {K N : Nat → Nat} {I : Nat → Nat → Int32} {Q : Nat → Nat → Option Nat} {J : Nat → Nat → Int64} {a ci k0 N0 index : Nat} {T : u_T} {Cn ref : String} (hK : K a = ci + 1) (hci : ci < 9) (hc : vwCl[ci]? = some (Cn, T, N0)) (hk : k0 < N0) (hin : ∀ w ∈ u_ws Cn T N0, w ∈ ALL) (hlink : Cond.fieldLink own index ref (T k0).2.1 (T k0).2.2.1 ∈ ALL) (hsame : (T k0).1 = ref) (ty0 : Nat → FieldType) (hty : ∀ k, k < N0 → parseFieldDescriptor (T k).2.2.1 = some (ty0 k)) (hnm : ∀ a, a < N0 → ∀ b, b < N0 → a ≠ b → (T a).2.1 ≠ (T b).2.1) (hfin : (T k0).2.2.2 = true) (hin2 : meth.name = "<init>") (hdecl : (T k0).1 = own) {ty : FieldType} {v : Int32} (hd : parseFieldDescriptor (T k0).2.2.1 = some ty) (hn : narrow ty (.int v) = .int v) (hfit : fits ty (.int v) = true) (hl : (x_lay ci)[k0]? = some false) (hdg : decode cc pc = .ok (.putfield index, 3)) (kk : ∀ I' : Nat → Nat → Int32, I' = x_u2 I a k0 v → XW p l e R s m args below meth c G Z k n (K, N, I', Q, J) (pc + 3) lv st) : XW p l e R s m args below meth c G Z k n (K, N, I, Q, J) pc lv (.int v :: .ref a :: st) := fun H locs ls w z h => by
  have hw := x_cell_obj (G := G) (S := (K, N, I, Q, J)) hK hci
  have hw' := x_cell_obj (G := G) (S := (K, N, x_u2 I a k0 v, Q, J)) hK hci
  refine x_putFW C.1 C.2.1 C.2.2.2.2.1 hin ty0 hty hnm C.2.2.2.1 C.2.2.2.2.2.1.1 (w.2.1 _ _ hw).2 (w.2.1 _ _ hw).1 z hc hk (C.2.2.2.2.1 _ hlink) hsame hfin hin2 hdecl hd hn hfit (by rw [x_fl_len]; exact (List.getElem?_eq_some_iff.mp hl).1) hdg (fun H1 locs1 hat hz hq hS => kk _ rfl H1 locs1 ls (x_set w hw hw' ?_ hz hq (fun q hqa => x_cell_congr rfl rfl (x_up_n _ _ hqa) rfl rfl) rfl) hS h)
  rw [x_fl_setI _ _ _ _ _ _ hl, Nat.zero_add] at hat
  show va_at G.1 vwCl (a, .inr (ci, x_fl (x_lay ci) 0 (x_up I a (x_up (I a) k0 v) a) (Q a))) H1
  rw [x_up_s]
  exact hat
theorem x_putFQ (C : XC p s m args meth c cc nL own rt G) {K N : Nat → Nat} {I : Nat → Nat → Int32} {Q : Nat → Nat → Option Nat} {J : Nat → Nat → Int64} {a ci k0 N0 index : Nat} {T : u_T} {Cn ref : String} (hK : K a = ci + 1) (hci : ci < 9) (hc : vwCl[ci]? = some (Cn, T, N0)) (hk : k0 < N0) (hin : ∀ w ∈ u_ws Cn T N0, w ∈ ALL) (hlink : Cond.fieldLink own index ref (T k0).2.1 (T k0).2.2.1 ∈ ALL) (hsame : (T k0).1 = ref) (ty0 : Nat → FieldType) (hty : ∀ k, k < N0 → parseFieldDescriptor (T k).2.2.1 = some (ty0 k)) (hnm : ∀ a, a < N0 → ∀ b, b < N0 → a ≠ b → (T a).2.1 ≠ (T b).2.1) (hfin : (T k0).2.2.2 = true) (hin2 : meth.name = "<init>") (hdecl : (T k0).1 = own) {ty : FieldType} {v : Value} {o : Option Nat} (ho : v = va_rf o) (hd : parseFieldDescriptor (T k0).2.2.1 = some ty) (hn : narrow ty (va_rf o) = va_rf o) (hfit : fits ty (va_rf o) = true) (hl : (x_lay ci)[k0]? = some true) (hdg : decode cc pc = .ok (.putfield index, 3)) (kk : ∀ Q' : Nat → Nat → Option Nat, Q' = x_u2 Q a k0 o → XW p l e R s m args below meth c G Z k n (K, N, I, Q', J) (pc + 3) lv st) : XW p l e R s m args below meth c G Z k n (K, N, I, Q, J) pc lv (v :: .ref a :: st) := fun H locs ls w z h => by
  subst ho
  have hw := x_cell_obj (G := G) (S := (K, N, I, Q, J)) hK hci
  have hw' := x_cell_obj (G := G) (S := (K, N, I, x_u2 Q a k0 o, J)) hK hci
  refine x_putFW C.1 C.2.1 C.2.2.2.2.1 hin ty0 hty hnm C.2.2.2.1 C.2.2.2.2.2.1.1 (w.2.1 _ _ hw).2 (w.2.1 _ _ hw).1 z hc hk (C.2.2.2.2.1 _ hlink) hsame hfin hin2 hdecl hd hn hfit (by rw [x_fl_len]; exact (List.getElem?_eq_some_iff.mp hl).1) hdg (fun H1 locs1 hat hz hq hS => kk _ rfl H1 locs1 ls (x_set w hw hw' ?_ hz hq (fun q hqa => x_cell_congr rfl rfl rfl (x_up_n _ _ hqa) rfl) rfl) hS h)
  rw [x_fl_setQ _ _ _ _ _ _ hl, Nat.zero_add] at hat
  show va_at G.1 vwCl (a, .inr (ci, x_fl (x_lay ci) 0 (I a) (x_up Q a (x_up (Q a) k0 o) a))) H1
  rw [x_up_s]
  exact hat
theorem x_iald (C : XC p s m args meth c cc nL own rt G) {K N : Nat → Nat} {I : Nat → Nat → Int32} {Q : Nat → Nat → Option Nat} {J : Nat → Nat → Int64} {a : Nat} {x : Int32} (j : Nat) (hK : K a = 21) (hx : x = nI j) (hj : j < N a) (hN : N a < 2 ^ 31) (hdg : decode cc pc = .ok (.iaload, 1)) (kk : XW p l e R s m args below meth c G Z k n (K, N, I, Q, J) (pc + 1) lv (.int (I a j) :: st)) : XW p l e R s m args below meth c G Z k n (K, N, I, Q, J) pc lv (.int x :: .ref a :: st) := fun H locs ls w z h => by
  subst hx
  have e : (nI j).toNatClampNeg = j := nI_clamp (by omega)
  have k1 := kk H locs ls w z h
  rw [← e] at k1
  exact va_iald C.1 C.2.1 C.2.2.2.2.2.1.1 (x_P1 w (x_cell_21 (S := (K, N, I, Q, J)) hK)) 0 0 rfl rfl (vp_in_nI hj hN) hdg k1
theorem x_zald (C : XC p s m args meth c cc nL own rt G) {K N : Nat → Nat} {I : Nat → Nat → Int32} {Q : Nat → Nat → Option Nat} {J : Nat → Nat → Int64} {a : Nat} {x : Int32} (j : Nat) (hK : K a = 22) (hx : x = nI j) (hj : j < N a) (hN : N a < 2 ^ 31) (hdg : decode cc pc = .ok (.baload, 1)) (kk : XW p l e R s m args below meth c G Z k n (K, N, I, Q, J) (pc + 1) lv (.int (I a j) :: st)) : XW p l e R s m args below meth c G Z k n (K, N, I, Q, J) pc lv (.int x :: .ref a :: st) := fun H locs ls w z h => by
  subst hx
  have e : (nI j).toNatClampNeg = j := nI_clamp (by omega)
  have k1 := kk H locs ls w z h
  rw [← e] at k1
  exact va_zald C.1 C.2.1 C.2.2.2.2.2.1.1 (x_P1 w (x_cell_22 (S := (K, N, I, Q, J)) hK)) 0 1 rfl rfl (vp_in_nI hj hN) hdg k1
theorem x_aald (C : XC p s m args meth c cc nL own rt G) {K N : Nat → Nat} {I : Nat → Nat → Int32} {Q : Nat → Nat → Option Nat} {J : Nat → Nat → Int64} {a : Nat} {x : Int32} (j : Nat) (hK : K a = 23) (hx : x = nI j) (hj : j < N a) (hN : N a < 2 ^ 31) (hdg : decode cc pc = .ok (.aaload, 1)) (kk : XW p l e R s m args below meth c G Z k n (K, N, I, Q, J) (pc + 1) lv (va_rf (Q a j) :: st)) : XW p l e R s m args below meth c G Z k n (K, N, I, Q, J) pc lv (.int x :: .ref a :: st) := fun H locs ls w z h => by
  subst hx
  have e : (nI j).toNatClampNeg = j := nI_clamp (by omega)
  have k1 := kk H locs ls w z h
  rw [← e] at k1
  exact va_aldq C.1 C.2.1 C.2.2.2.2.2.1.1 (x_P1 w (x_cell_23 (S := (K, N, I, Q, J)) hK)) 0 2 rfl rfl (vp_in_nI hj hN) hdg k1
theorem x_lald (C : XC p s m args meth c cc nL own rt G) {K N : Nat → Nat} {I : Nat → Nat → Int32} {Q : Nat → Nat → Option Nat} {J : Nat → Nat → Int64} {a : Nat} {x : Int32} (j : Nat) (hK : K a = 24) (hx : x = nI j) (hj : j < N a) (hN : N a < 2 ^ 31) (hdg : decode cc pc = .ok (.laload, 1)) (kk : XW p l e R s m args below meth c G Z k n (K, N, I, Q, J) (pc + 1) lv (.long (J a j) :: st)) : XW p l e R s m args below meth c G Z k n (K, N, I, Q, J) pc lv (.int x :: .ref a :: st) := fun H locs ls w z h => by
  subst hx
  have e : (nI j).toNatClampNeg = j := nI_clamp (by omega)
  have k1 := kk H locs ls w z h
  rw [← e] at k1
  exact va_lald C.1 C.2.1 C.2.2.2.2.2.1.1 (x_P1 w (x_cell_24 (S := (K, N, I, Q, J)) hK)) 0 3 rfl rfl (vp_in_nI hj hN) hdg k1
theorem x_alen_21 (C : XC p s m args meth c cc nL own rt G) {K N : Nat → Nat} {I : Nat → Nat → Int32} {Q : Nat → Nat → Option Nat} {J : Nat → Nat → Int64} {a : Nat} (hK : K a = 21) (hdg : decode cc pc = .ok (.arraylength, 1)) (kk : XW p l e R s m args below meth c G Z k n (K, N, I, Q, J) (pc + 1) lv (.int (nI (N a)) :: st)) : XW p l e R s m args below meth c G Z k n (K, N, I, Q, J) pc lv (.ref a :: st) := fun H locs ls w z h => va_alen C.1 C.2.1 C.2.2.2.2.2.1.1 (x_P1 w (x_cell_21 (S := (K, N, I, Q, J)) hK)) 0 0 rfl rfl rfl hdg (kk H locs ls w z h)
theorem x_alen_22 (C : XC p s m args meth c cc nL own rt G) {K N : Nat → Nat} {I : Nat → Nat → Int32} {Q : Nat → Nat → Option Nat} {J : Nat → Nat → Int64} {a : Nat} (hK : K a = 22) (hdg : decode cc pc = .ok (.arraylength, 1)) (kk : XW p l e R s m args below meth c G Z k n (K, N, I, Q, J) (pc + 1) lv (.int (nI (N a)) :: st)) : XW p l e R s m args below meth c G Z k n (K, N, I, Q, J) pc lv (.ref a :: st) := fun H locs ls w z h => va_alen C.1 C.2.1 C.2.2.2.2.2.1.1 (x_P1 w (x_cell_22 (S := (K, N, I, Q, J)) hK)) 0 1 rfl rfl rfl hdg (kk H locs ls w z h)
theorem x_alen_23 (C : XC p s m args meth c cc nL own rt G) {K N : Nat → Nat} {I : Nat → Nat → Int32} {Q : Nat → Nat → Option Nat} {J : Nat → Nat → Int64} {a : Nat} (hK : K a = 23) (hdg : decode cc pc = .ok (.arraylength, 1)) (kk : XW p l e R s m args below meth c G Z k n (K, N, I, Q, J) (pc + 1) lv (.int (nI (N a)) :: st)) : XW p l e R s m args below meth c G Z k n (K, N, I, Q, J) pc lv (.ref a :: st) := fun H locs ls w z h => va_alen C.1 C.2.1 C.2.2.2.2.2.1.1 (x_P1 w (x_cell_23 (S := (K, N, I, Q, J)) hK)) 0 2 rfl rfl rfl hdg (kk H locs ls w z h)
theorem x_alen_24 (C : XC p s m args meth c cc nL own rt G) {K N : Nat → Nat} {I : Nat → Nat → Int32} {Q : Nat → Nat → Option Nat} {J : Nat → Nat → Int64} {a : Nat} (hK : K a = 24) (hdg : decode cc pc = .ok (.arraylength, 1)) (kk : XW p l e R s m args below meth c G Z k n (K, N, I, Q, J) (pc + 1) lv (.int (nI (N a)) :: st)) : XW p l e R s m args below meth c G Z k n (K, N, I, Q, J) pc lv (.ref a :: st) := fun H locs ls w z h => va_alen C.1 C.2.1 C.2.2.2.2.2.1.1 (x_P1 w (x_cell_24 (S := (K, N, I, Q, J)) hK)) 0 3 rfl rfl rfl hdg (kk H locs ls w z h)
theorem x_iast (C : XC p s m args meth c cc nL own rt G) {K N : Nat → Nat} {I : Nat → Nat → Int32} {Q : Nat → Nat → Option Nat} {J : Nat → Nat → Int64} {a : Nat} {x : Int32} {v : Int32} (j : Nat)  (hK : K a = 21) (hx : x = nI j) (hj : j < N a) (hN : N a < 2 ^ 31) (hdg : decode cc pc = .ok (.iastore, 1)) (kk : ∀ I' : Nat → Nat → Int32, I' = x_u2 I a j v → XW p l e R s m args below meth c G Z k n (K, N, I', Q, J) (pc + 1) lv st) : XW p l e R s m args below meth c G Z k n (K, N, I, Q, J) pc lv (.int v :: .int x :: .ref a :: st) := fun H locs ls w z h => by
  subst hx
  have e0 : (nI j).toNatClampNeg = j := nI_clamp (by omega)
  have hw := x_cell_21 (G := G) (S := (K, N, I, Q, J)) hK
  have hw' := x_cell_21 (G := G) (S := (K, N, x_u2 I a j v, Q, J)) hK
  have hP := w.2.1 _ _ hw
  refine W.iast C.1 C.2.1 hP.2 ((C.2.2.2.2.2.1.1.2 0 _ rfl).1 (N a) (fun j => .int (I a j))) (fun q => by cases q) (by show ¬ (nI j < 0 ∨ (arrV _ _ _).slots.size ≤ _); rw [arrV_size]; exact vp_in_nI hj hN) rfl rfl hdg fun H1 e z1 oq => ?_
  refine kk _ rfl H1 _ ls (x_set w hw hw' ?_ z1 oq (fun q hqa => x_cell_congr rfl rfl (x_up_n _ _ hqa) rfl rfl) rfl) (z.put z1 oq hP.1) h
  show H1[a]? = some (vp_cell (G.2.1 21) (N a, .inl (x_up I a (x_up (I a) j v) a)))
  rw [e, x_up_s]
  rw [vp_cell_i, vp_cell_i, arrV_store, e0]
  congr 2
  funext q
  by_cases hq : q = j
  · subst hq
    simp [updV, x_up]
  · simp [updV, x_up, hq]
theorem x_zast (C : XC p s m args meth c cc nL own rt G) {K N : Nat → Nat} {I : Nat → Nat → Int32} {Q : Nat → Nat → Option Nat} {J : Nat → Nat → Int64} {a : Nat} {x : Int32} {v : Int32} (j : Nat) (bb : Bool) (hvb : v = xb bb) (hK : K a = 22) (hx : x = nI j) (hj : j < N a) (hN : N a < 2 ^ 31) (hdg : decode cc pc = .ok (.bastore, 1)) (kk : ∀ I' : Nat → Nat → Int32, I' = x_u2 I a j v → XW p l e R s m args below meth c G Z k n (K, N, I', Q, J) (pc + 1) lv st) : XW p l e R s m args below meth c G Z k n (K, N, I, Q, J) pc lv (.int v :: .int x :: .ref a :: st) := fun H locs ls w z h => by
  subst hx
  have hn : narrow .boolean (.int v) = .int v := by subst hvb; cases bb <;> rfl
  have e0 : (nI j).toNatClampNeg = j := nI_clamp (by omega)
  have hw := x_cell_22 (G := G) (S := (K, N, I, Q, J)) hK
  have hw' := x_cell_22 (G := G) (S := (K, N, x_u2 I a j v, Q, J)) hK
  have hP := w.2.1 _ _ hw
  refine W.zast C.1 C.2.1 hP.2 ((C.2.2.2.2.2.1.1.2 1 _ rfl).1 (N a) (fun j => .int (I a j))) (fun q => by cases q) (by show ¬ (nI j < 0 ∨ (arrV _ _ _).slots.size ≤ _); rw [arrV_size]; exact vp_in_nI hj hN) rfl rfl hdg fun H1 e z1 oq => ?_
  refine kk _ rfl H1 _ ls (x_set w hw hw' ?_ z1 oq (fun q hqa => x_cell_congr rfl rfl (x_up_n _ _ hqa) rfl rfl) rfl) (z.put z1 oq hP.1) h
  show H1[a]? = some (vp_cell (G.2.1 22) (N a, .inl (x_up I a (x_up (I a) j v) a)))
  rw [e, x_up_s]
  rw [vp_cell_i, vp_cell_i, arrV_store, e0]
  congr 2
  funext q
  by_cases hq : q = j
  · subst hq
    simp [updV, x_up, hn]
  · simp [updV, x_up, hq]
theorem x_last (C : XC p s m args meth c cc nL own rt G) {K N : Nat → Nat} {I : Nat → Nat → Int32} {Q : Nat → Nat → Option Nat} {J : Nat → Nat → Int64} {a : Nat} {x : Int32} {v : Int64} (j : Nat)  (hK : K a = 24) (hx : x = nI j) (hj : j < N a) (hN : N a < 2 ^ 31) (hdg : decode cc pc = .ok (.lastore, 1)) (kk : ∀ J' : Nat → Nat → Int64, J' = x_u2 J a j v → XW p l e R s m args below meth c G Z k n (K, N, I, Q, J') (pc + 1) lv st) : XW p l e R s m args below meth c G Z k n (K, N, I, Q, J) pc lv (.long v :: .int x :: .ref a :: st) := fun H locs ls w z h => by
  subst hx
  have e0 : (nI j).toNatClampNeg = j := nI_clamp (by omega)
  have hw := x_cell_24 (G := G) (S := (K, N, I, Q, J)) hK
  have hw' := x_cell_24 (G := G) (S := (K, N, I, Q, x_u2 J a j v)) hK
  have hP := w.2.1 _ _ hw
  refine W.last C.1 C.2.1 hP.2 ((C.2.2.2.2.2.1.1.2 3 _ rfl).1 (N a) (fun j => .long (J a j))) (fun q => by cases q) (by show ¬ (nI j < 0 ∨ (arrV _ _ _).slots.size ≤ _); rw [arrV_size]; exact vp_in_nI hj hN) rfl rfl hdg fun H1 e z1 oq => ?_
  refine kk _ rfl H1 _ ls (x_set w hw hw' ?_ z1 oq (fun q hqa => x_cell_congr rfl rfl rfl rfl (x_up_n _ _ hqa)) rfl) (z.put z1 oq hP.1) h
  show H1[a]? = some (vp_cell (G.2.1 24) (N a, .inr (.inl (x_up J a (x_up (J a) j v) a))))
  rw [e, x_up_s]
  rw [vp_cell_l, vp_cell_l, arrV_store, e0]
  congr 2
  funext q
  by_cases hq : q = j
  · subst hq
    simp [updV, x_up]
  · simp [updV, x_up, hq]
theorem x_aast (C : XC p s m args meth c cc nL own rt G) {K N : Nat → Nat} {I : Nat → Nat → Int32} {Q : Nat → Nat → Option Nat} {J : Nat → Nat → Int64} {a v : Nat} {x : Int32} (j : Nat) (hK : K a = 23) (hv : K v = 3) (hx : x = nI j) (hj : j < N a) (hN : N a < 2 ^ 31) (hdg : decode cc pc = .ok (.aastore, 1)) (kk : ∀ Q' : Nat → Nat → Option Nat, Q' = x_u2 Q a j (some v) → XW p l e R s m args below meth c G Z k n (K, N, I, Q', J) (pc + 1) lv st) : XW p l e R s m args below meth c G Z k n (K, N, I, Q, J) pc lv (.ref v :: .int x :: .ref a :: st) := fun H locs ls w z h => by
  subst hx
  have e0 : (nI j).toNatClampNeg = j := nI_clamp (by omega)
  have hw := x_cell_23 (G := G) (S := (K, N, I, Q, J)) hK
  have hw' := x_cell_23 (G := G) (S := (K, N, I, x_u2 Q a j (some v), J)) hK
  have hP := w.2.1 _ _ hw
  have hPv := (w.2.1 _ _ (x_cell_obj (G := G) (S := (K, N, I, Q, J)) (ci := 2) hv (by decide))).2
  obtain ⟨r', hr', cellV, g1, g2, g3, -⟩ := hPv
  have hcls := (C.2.2.2.2.2.1.1.1 2 (RX3, TX3, 5) rfl).2
  obtain ⟨kA, comp, k1, k2, k3, -⟩ := (C.2.2.2.2.2.1.1.2 2 _ rfl).2
  have hcomp : comp = G.1.1 2 := Option.some.inj (k3.symm.trans hcls.1)
  subst hcomp
  obtain ⟨kC, hkC, -⟩ := hcls.2
  refine W.aast C.1 C.2.1 hP.2 (fun q h => by cases h) (fun h => by cases h) k1 k2 rfl hkC ⟨fun q => vp_in_nI hj hN (Or.inl q), by show _ < (arrV _ _ _).slots.size; rw [arrV_size, e0]; exact hj⟩ g1 (fun q h => by rw [g3] at h; cases h) (by rw [g2]; exact hkC) (by rw [g2]; exact va_assign hcls) rfl rfl hdg fun H1 e z1 oq => ?_
  refine kk _ rfl H1 _ ls (x_set w hw hw' ?_ z1 oq (fun q hqa => x_cell_congr rfl rfl rfl (x_up_n _ _ hqa) rfl) rfl) (z.put z1 oq hP.1) h
  show H1[a]? = some (vp_cell (G.2.1 23) (N a, .inr (.inr (.inr (.inr (x_up Q a (x_up (Q a) j (some v)) a))))))
  rw [e, x_up_s]
  rw [vp_cell_q, vp_cell_q, arrV_store, e0]
  congr 2
  funext q
  by_cases hq : q = j
  · subst hq
    simp [updV, x_up, va_rf]
  · simp [updV, x_up, hq]
theorem x_new (C : XC p s m args meth c cc nL own rt G) {K N : Nat → Nat} {I : Nat → Nat → Int32} {Q : Nat → Nat → Option Nat} {J : Nat → Nat → Int64} {ci N0 index : Nat} {T : u_T} {Cn : String} (hc : vwCl[ci]? = some (Cn, T, N0)) (hci : ci < 9) (hin : ∀ w ∈ u_ws Cn T N0, w ∈ ALL) (ty : Nat → FieldType) (hty : ∀ k, k < N0 → parseFieldDescriptor (T k).2.2.1 = some (ty k)) (hlay : ∀ j, j < N0 → defaultValue (ty j) = vp_V (x_fl (x_lay ci) 0 (fun _ => 0) (fun _ => none)) j) (hcl : Cond.classLink own index Cn ∈ ALL) (hins : Cond.instantiable Cn N0 ∈ ALL) (hini : Cond.initialized Cn ∈ ALL) (hcells : k + 1 ≤ R.cells) (hslots : n + N0 ≤ R.slots) (hdg : decode cc pc = .ok (.new index, 3))
    (kk : ∀ (q : Nat) (K' : Nat → Nat) (I' : Nat → Nat → Int32) (Q' : Nat → Nat → Option Nat), K q = 0 → K' = x_up K q (ci + 1) → I' = x_up I q (fun _ => 0) → Q' = x_up Q q (fun _ => none) → XW p l e R s m args below meth c G Z (k + 1) (n + N0) (K', N, I', Q', J) (pc + 3) lv (.ref q :: st)) : XW p l e R s m args below meth c G Z k n (K, N, I, Q, J) pc lv st := fun H locs ls w z h => by
  have hKn := C.2.2.2.2.2.1.1.1 ci _ hc
  have hK0 : K H.size = 0 := x_fresh w
  refine W.newcK C.1 C.2.1 C.2.2.2.1 (C.2.2.2.2.1 _ hcl) (C.2.2.2.2.1 _ hins) (C.2.2.2.2.1 _ hini) rfl hdg hcells hslots hKn.2.1 rfl fun H1 kC hkC e1 z1 o1 => ?_
  have hw' := x_cell_obj (G := G) (S := (x_up K H.size (ci + 1), N, x_up I H.size (fun _ => 0), x_up Q H.size (fun _ => none), J)) (a := H.size) (ci := ci) (x_up_s _ _ _) hci
  refine kk H.size _ _ _ hK0 rfl rfl rfl H1 _ ls (x_push w hw' ⟨_, hc, ?_⟩ z1 o1 (fun q hq => x_cell_congr (x_up_n _ _ hq) rfl (x_up_n _ _ hq) (x_up_n _ _ hq) rfl) (fun q hq => x_up_n _ _ hq)) ⟨Nat.le_trans z.1 (by omega), fun x h1 h2 => (o1 x (Nat.lt_of_lt_of_le h1 z.1)).trans (z.2.1 x h1 h2), z.2.2⟩ h
  have hb0 := (u_born ty C.2.2.2.2.1 hin hKn hkC e1 hty).to hlay
  show t_OB H.size _ _ _ H1 (vp_V (x_fl (x_lay ci) 0 (x_up I H.size (fun _ => 0) H.size) (x_up Q H.size (fun _ => none) H.size)))
  rw [x_up_s, x_up_s]
  exact hb0
theorem x_newI (C : XC p s m args meth c cc nL own rt G) {K N : Nat → Nat} {I : Nat → Nat → Int32} {Q : Nat → Nat → Option Nat} {J : Nat → Nat → Int64} {x : Int32} (j : Nat) (hx : x = nI j) (hj : j < 1048576) (harr : Cond.arrayClass .int ∈ ALL) (hcells : k + 1 ≤ R.cells) (hslots : n + j ≤ R.slots) (hdg : decode cc pc = .ok (.newarray .int, 2))
    (kk : ∀ (q : Nat) (K' N' : Nat → Nat) (I' : Nat → Nat → Int32), K q = 0 → K' = x_up K q 21 → N' = x_up N q j → I' = x_up I q (fun _ => 0) → XW p l e R s m args below meth c G Z (k + 1) (n + j) (K', N', I', Q, J) (pc + 2) lv (.ref q :: st)) : XW p l e R s m args below meth c G Z k n (K, N, I, Q, J) pc lv (.int x :: st) := fun H locs ls w z h => by
  subst hx
  have hK0 : K H.size = 0 := x_fresh w
  have e0 : (nI j).toNatClampNeg = j := nI_clamp (by omega)
  refine va_newaK (atype := .int) (N := j) C.1 C.2.1 (C.2.2.2.2.1 _ harr) rfl hdg rfl (nI_pos (by omega)) e0 (by show j * _ ≤ _; simp [newarray.typeOf, componentBytes]; omega) hcells hslots rfl fun H1 cA e1 z1 o1 hAr hNm => ?_
  have hcA : cA = G.2.1 21 := Option.some.inj (hNm.symm.trans (C.2.2.2.2.2.1.1.2 0 _ rfl).2)
  subst hcA
  have hw' := x_cell_21 (G := G) (S := (x_up K H.size 21, x_up N H.size j, x_up I H.size (fun _ => 0), Q, J)) (a := H.size) (x_up_s _ _ _)
  refine kk H.size _ _ _ hK0 rfl rfl rfl H1 _ ls (x_push w hw' ?_ z1 o1 (fun q hq => x_cell_congr (x_up_n _ _ hq) (x_up_n _ _ hq) (x_up_n _ _ hq) rfl rfl) (fun q hq => x_up_n _ _ hq)) ⟨Nat.le_trans z.1 (by omega), fun x h1 h2 => (o1 x (Nat.lt_of_lt_of_le h1 z.1)).trans (z.2.1 x h1 h2), z.2.2⟩ h
  show H1[H.size]? = some (vp_cell (G.2.1 21) (x_up N H.size j H.size, .inl (x_up I H.size (fun _ => 0) H.size)))
  rw [x_up_s, x_up_s, vp_cell_i]
  exact e1
theorem x_newZ (C : XC p s m args meth c cc nL own rt G) {K N : Nat → Nat} {I : Nat → Nat → Int32} {Q : Nat → Nat → Option Nat} {J : Nat → Nat → Int64} {x : Int32} (j : Nat) (hx : x = nI j) (hj : j < 1048576) (harr : Cond.arrayClass .boolean ∈ ALL) (hcells : k + 1 ≤ R.cells) (hslots : n + j ≤ R.slots) (hdg : decode cc pc = .ok (.newarray .boolean, 2))
    (kk : ∀ (q : Nat) (K' N' : Nat → Nat) (I' : Nat → Nat → Int32), K q = 0 → K' = x_up K q 22 → N' = x_up N q j → I' = x_up I q (fun _ => 0) → XW p l e R s m args below meth c G Z (k + 1) (n + j) (K', N', I', Q, J) (pc + 2) lv (.ref q :: st)) : XW p l e R s m args below meth c G Z k n (K, N, I, Q, J) pc lv (.int x :: st) := fun H locs ls w z h => by
  subst hx
  have hK0 : K H.size = 0 := x_fresh w
  have e0 : (nI j).toNatClampNeg = j := nI_clamp (by omega)
  refine va_newaK (atype := .boolean) (N := j) C.1 C.2.1 (C.2.2.2.2.1 _ harr) rfl hdg rfl (nI_pos (by omega)) e0 (by show j * _ ≤ _; simp [newarray.typeOf, componentBytes]; omega) hcells hslots rfl fun H1 cA e1 z1 o1 hAr hNm => ?_
  have hcA : cA = G.2.1 22 := Option.some.inj (hNm.symm.trans (C.2.2.2.2.2.1.1.2 1 _ rfl).2)
  subst hcA
  have hw' := x_cell_22 (G := G) (S := (x_up K H.size 22, x_up N H.size j, x_up I H.size (fun _ => 0), Q, J)) (a := H.size) (x_up_s _ _ _)
  refine kk H.size _ _ _ hK0 rfl rfl rfl H1 _ ls (x_push w hw' ?_ z1 o1 (fun q hq => x_cell_congr (x_up_n _ _ hq) (x_up_n _ _ hq) (x_up_n _ _ hq) rfl rfl) (fun q hq => x_up_n _ _ hq)) ⟨Nat.le_trans z.1 (by omega), fun x h1 h2 => (o1 x (Nat.lt_of_lt_of_le h1 z.1)).trans (z.2.1 x h1 h2), z.2.2⟩ h
  show H1[H.size]? = some (vp_cell (G.2.1 22) (x_up N H.size j H.size, .inl (x_up I H.size (fun _ => 0) H.size)))
  rw [x_up_s, x_up_s, vp_cell_i]
  exact e1
theorem x_newJ (C : XC p s m args meth c cc nL own rt G) {K N : Nat → Nat} {I : Nat → Nat → Int32} {Q : Nat → Nat → Option Nat} {J : Nat → Nat → Int64} {x : Int32} (j : Nat) (hx : x = nI j) (hj : j < 1048576) (harr : Cond.arrayClass .long ∈ ALL) (hcells : k + 1 ≤ R.cells) (hslots : n + j ≤ R.slots) (hdg : decode cc pc = .ok (.newarray .long, 2))
    (kk : ∀ (q : Nat) (K' N' : Nat → Nat) (J' : Nat → Nat → Int64), K q = 0 → K' = x_up K q 24 → N' = x_up N q j → J' = x_up J q (fun _ => 0) → XW p l e R s m args below meth c G Z (k + 1) (n + j) (K', N', I, Q, J') (pc + 2) lv (.ref q :: st)) : XW p l e R s m args below meth c G Z k n (K, N, I, Q, J) pc lv (.int x :: st) := fun H locs ls w z h => by
  subst hx
  have hK0 : K H.size = 0 := x_fresh w
  have e0 : (nI j).toNatClampNeg = j := nI_clamp (by omega)
  refine va_newaK (atype := .long) (N := j) C.1 C.2.1 (C.2.2.2.2.1 _ harr) rfl hdg rfl (nI_pos (by omega)) e0 (by show j * _ ≤ _; simp [newarray.typeOf, componentBytes]; omega) hcells hslots rfl fun H1 cA e1 z1 o1 hAr hNm => ?_
  have hcA : cA = G.2.1 24 := Option.some.inj (hNm.symm.trans (C.2.2.2.2.2.1.1.2 3 _ rfl).2)
  subst hcA
  have hw' := x_cell_24 (G := G) (S := (x_up K H.size 24, x_up N H.size j, I, Q, x_up J H.size (fun _ => 0))) (a := H.size) (x_up_s _ _ _)
  refine kk H.size _ _ _ hK0 rfl rfl rfl H1 _ ls (x_push w hw' ?_ z1 o1 (fun q hq => x_cell_congr (x_up_n _ _ hq) (x_up_n _ _ hq) rfl rfl (x_up_n _ _ hq)) (fun q hq => x_up_n _ _ hq)) ⟨Nat.le_trans z.1 (by omega), fun x h1 h2 => (o1 x (Nat.lt_of_lt_of_le h1 z.1)).trans (z.2.1 x h1 h2), z.2.2⟩ h
  show H1[H.size]? = some (vp_cell (G.2.1 24) (x_up N H.size j H.size, .inr (.inl (x_up J H.size (fun _ => 0) H.size))))
  rw [x_up_s, x_up_s, vp_cell_l]
  exact e1
theorem x_newQ (C : XC p s m args meth c cc nL own rt G) {K N : Nat → Nat} {I : Nat → Nat → Int32} {Q : Nat → Nat → Option Nat} {J : Nat → Nat → Int64} {x : Int32} {index : Nat} (j : Nat) (hx : x = nI j) (hj : j < 1048576) (hcl : Cond.classLink own index "ScapegoatSpur$Node" ∈ ALL) (hcells : k + 1 ≤ R.cells) (hslots : n + j ≤ R.slots) (hdg : decode cc pc = .ok (.anewarray index, 3))
    (kk : ∀ (q : Nat) (K' N' : Nat → Nat) (Q' : Nat → Nat → Option Nat), K q = 0 → K' = x_up K q 23 → N' = x_up N q j → Q' = x_up Q q (fun _ => none) → XW p l e R s m args below meth c G Z (k + 1) (n + j) (K', N', I, Q', J) (pc + 3) lv (.ref q :: st)) : XW p l e R s m args below meth c G Z k n (K, N, I, Q, J) pc lv (.int x :: st) := fun H locs ls w z h => by
  subst hx
  have hK0 : K H.size = 0 := x_fresh w
  have e0 : (nI j).toNatClampNeg = j := nI_clamp (by omega)
  refine W.anew C.1 C.2.1 C.2.2.2.1 (C.2.2.2.2.1 _ hcl) (va_AO.use C.2.2.2.2.2.1.2.2.2.1) rfl hdg rfl (nI_pos (by omega)) (by rw [e0]; omega) hcells (by rw [e0]; exact hslots) fun cA kA comp f1 f2 f3 f4 => ?_
  rw [e0]
  generalize hH1 : H.push ({ cls := cA, slots := Array.replicate j .null, vm := .none } : Cell) = H1
  have z1 : H1.size = H.size + 1 := by rw [← hH1, Array.size_push]
  have e1 : H1[H.size]? = some (arrV cA j (fun _ => .null)) := by rw [← hH1, Array.getElem?_push_size, ← arrV_new]
  have o1 : ∀ q : Nat, q < H.size → H1[q]? = H[q]? := fun q hq => by rw [← hH1, Array.getElem?_push, if_neg (Nat.ne_of_lt hq)]
  obtain ⟨kA', comp', -, -, -, hNm⟩ := (C.2.2.2.2.2.1.1.2 2 _ rfl).2
  have hcA : cA = G.2.1 23 := Option.some.inj (f1.symm.trans hNm)
  subst hcA
  have hw' := x_cell_23 (G := G) (S := (x_up K H.size 23, x_up N H.size j, I, x_up Q H.size (fun _ => none), J)) (a := H.size) (x_up_s _ _ _)
  refine kk H.size _ _ _ hK0 rfl rfl rfl H1 _ ls (x_push w hw' ?_ z1 o1 (fun q hq => x_cell_congr (x_up_n _ _ hq) (x_up_n _ _ hq) rfl (x_up_n _ _ hq) rfl) (fun q hq => x_up_n _ _ hq)) ⟨Nat.le_trans z.1 (by omega), fun x h1 h2 => (o1 x (Nat.lt_of_lt_of_le h1 z.1)).trans (z.2.1 x h1 h2), z.2.2⟩ h
  show H1[H.size]? = some (vp_cell (G.2.1 23) (x_up N H.size j H.size, .inr (.inr (.inr (.inr (x_up Q H.size (fun _ => none) H.size))))))
  rw [x_up_s, x_up_s, vp_cell_q]
  exact e1
theorem x_callG {α : Type} {ρ : α → Option Value} {post : α → xS → Prop} {mc ms : Nat} {a : Array Value} {st0 rest : List Value} (hr : ∀ (H : Heap) (locs : List Loc), Wd G S H → va_S (gA G) s.heap H locs → ∀ ls : Array Slot, ls.size = lv.length → va_Run p l e R s m args below meth c H locs k n mc ms (F0 m pc ls st0) rest (XQ ρ G post a) (gA G))
    (kk : ∀ (r : α) (S' : xS), post r S' → XW p l e R s m args below meth c G Z (k + mc) (n + ms) S' (pc + 3) lv ((ρ r).toList ++ rest)) : XW p l e R s m args below meth c G Z k n S pc lv st0 := fun H locs ls w z h T hT X => by
  obtain ⟨v, st₀, t, T', L, h0, X', hL, e1, e2, ⟨⟨r, S', hv, hp, hwt⟩, hz, hk⟩, stp⟩ := hr H locs w z ls h.1 T hT X
  injection hv with hv
  subst hv
  rw [h0] at hz hk
  obtain ⟨t2, a1, b1⟩ := kk r S' hp T'.heap (locs ++ L) ls (by rw [e1]; exact hwt) ⟨Nat.le_trans z.1 (by rw [e1]; exact hz), fun q h1 h2 => by rw [e1, hk q (Nat.lt_of_lt_of_le h1 z.1) h2]; exact z.2.1 q h1 h2, fun q hq => by
    rcases List.mem_append.mp hq with h9 | h9
    · exact z.2.2 q h9
    · exact hL q h9⟩ h T' rfl X'
  exact ⟨t2, stp t2 a1, b1⟩
theorem x_callVi (C : XC p s m args meth c cc nL own rt G) {post : Int32 → xS → Prop} {y : MethodName} {rm : Room} {bytes : ByteArray} {maxL nn index : Nat} {ret : Option FieldType} {As rest st0 : List Value} {b ci N0 : Nat} {T : u_T} {Cn : String} (hM : XM l y bytes maxL ret rm G Ri (.ref b :: As) S post) (hb : S.1 b = ci + 1) (hci : ci < 9) (hcl : vwCl[ci]? = some (Cn, T, N0)) (hyc : y.cls = Cn) (hl : Cond.methodLink own index y ∈ ALL) (hi : Cond.instanceMethod y ∈ ALL) (hse : Cond.selects Cn y y ∈ ALL) (hini : Cond.initialized Cn ∈ ALL) (hcd : Cond.code y bytes maxL ret ∈ ALL) (hd : y.cls ≠ "java/lang/invoke/MethodHandle" ∧ y.cls ≠ "java/lang/invoke/VarHandle" ∧ (parseMethodDescriptor y.desc).map (fun d => d.parameters.length) = some nn) (hR : rm.frames + 1 ≤ R.frames ∧ 8 + (maxL + 11) + rm.locals ≤ R.locals) (hnn : As.length = nn) (hcat : (rest.map fun v => v.category).sum ≤ 8) (hnL : lv.length = nL) (hst : st0 = As.reverse ++ .ref b :: rest) (hdg : decode cc pc = .ok (.invokevirtual index, 3)) (hf : k + rm.cells ≤ R.cells ∧ n + rm.slots ≤ R.slots) (kk : ∀ (r : Int32) (S' : xS), post r S' → XW p l e R s m args below meth c G Z (k + rm.cells) (n + rm.slots) S' (pc + 3) lv (.int r :: rest)) : XW p l e R s m args below meth c G Z k n S pc lv st0 :=
  x_callG (fun H locs w z ls hls => va_runV ⟨C.1, C.2.1, C.2.2.1, C.2.2.2.1, C.2.2.2.2.1⟩ hM (cwV nn C.2.2.2.2.1 (all_goodIn (all_c4 hl hi hse hini (all_code hcd))) rfl rfl rfl ⟨hyc, hd⟩ hR) ⟨XP_blind _ _ _, va_recv C.2.2.2.2.2.1.1 (x_P1 w (x_cell_obj hb hci)) hcl (q0 := 0) rfl, fun U hU hW => ⟨rfl, by rw [hU]; exact w, gK.warm hW C.2.2.2.2.2.1⟩⟩ rfl hnn (hls.trans hnL) hst (lv_room hcat) hdg hf) kk
theorem x_callSi (C : XC p s m args meth c cc nL own rt G) {post : Int32 → xS → Prop} {y : MethodName} {rm : Room} {bytes : ByteArray} {maxL nn index : Nat} {ret : Option FieldType} {As rest st0 : List Value} (hM : XM l y bytes maxL ret rm G Ri As S post) (hl : Cond.methodLink own index y ∈ ALL) (hi : Cond.static y ∈ ALL) (hini : Cond.initialized y.cls ∈ ALL) (hcd : Cond.code y bytes maxL ret ∈ ALL) (hd : y.cls ≠ "java/lang/invoke/MethodHandle" ∧ y.cls ≠ "java/lang/invoke/VarHandle" ∧ (parseMethodDescriptor y.desc).map (fun d => d.parameters.length) = some nn) (hR : rm.frames + 1 ≤ R.frames ∧ 8 + (maxL + 11) + rm.locals ≤ R.locals) (hnn : As.length = nn) (hcat : (rest.map fun v => v.category).sum ≤ 8) (hnL : lv.length = nL) (hst : st0 = As.reverse ++ rest) (hdg : decode cc pc = .ok (.invokestatic index, 3)) (hf : k + rm.cells ≤ R.cells ∧ n + rm.slots ≤ R.slots) (kk : ∀ (r : Int32) (S' : xS), post r S' → XW p l e R s m args below meth c G Z (k + rm.cells) (n + rm.slots) S' (pc + 3) lv (.int r :: rest)) : XW p l e R s m args below meth c G Z k n S pc lv st0 :=
  x_callG (fun H locs w z ls hls => va_runS ⟨C.1, C.2.1, C.2.2.1, C.2.2.2.1, C.2.2.2.2.1⟩ hM (va_cwS nn C.2.2.2.2.1 (all_goodIn (all_c3 hl hi hini (all_code hcd))) rfl rfl rfl hd hR) ⟨XP_blind _ _ _, fun U hU hW => ⟨rfl, by rw [hU]; exact w, gK.warm hW C.2.2.2.2.2.1⟩⟩ rfl hnn (hls.trans hnL) hst (lv_room hcat) hdg hf) kk
theorem x_callUi (C : XC p s m args meth c cc nL own rt G) {post : Int32 → xS → Prop} {x y : MethodName} {owner : String} {rm : Room} {bytes : ByteArray} {maxL nn index : Nat} {ret : Option FieldType} {As rest st0 : List Value} {b ci N0 : Nat} {T : u_T} {Cn : String} (hM : XM l y bytes maxL ret rm G Ri (.ref b :: As) S post) (hb : S.1 b = ci + 1) (hci : ci < 9) (hcl : vwCl[ci]? = some (Cn, T, N0)) (hl : Cond.methodLink own index x ∈ ALL) (hsm : Cond.sameMethod x.cls owner x.name x.desc ∈ ALL) (hse : Cond.selects Cn x y ∈ ALL) (hi : Cond.instanceMethod y ∈ ALL) (hini : Cond.initialized y.cls ∈ ALL) (hcd : Cond.code y bytes maxL ret ∈ ALL) (hyx : y = ⟨owner, x.name, x.desc⟩) (hd : owner ≠ "java/lang/invoke/MethodHandle" ∧ owner ≠ "java/lang/invoke/VarHandle" ∧ (parseMethodDescriptor x.desc).map (fun d => d.parameters.length) = some nn) (hR : rm.frames + 1 ≤ R.frames ∧ 8 + (maxL + 11) + rm.locals ≤ R.locals) (hnn : As.length = nn) (hcat : (rest.map fun v => v.category).sum ≤ 8) (hnL : lv.length = nL) (hst : st0 = As.reverse ++ .ref b :: rest) (hdg : decode cc pc = .ok (.invokevirtual index, 3)) (hf : k + rm.cells ≤ R.cells ∧ n + rm.slots ≤ R.slots) (kk : ∀ (r : Int32) (S' : xS), post r S' → XW p l e R s m args below meth c G Z (k + rm.cells) (n + rm.slots) S' (pc + 3) lv (.int r :: rest)) : XW p l e R s m args below meth c G Z k n S pc lv st0 :=
  x_callG (fun H locs w z ls hls => va_runU ⟨C.1, C.2.1, C.2.2.1, C.2.2.2.1, C.2.2.2.2.1⟩ hM (va_cwU nn C.2.2.2.2.1 (all_goodIn (all_c5 hl hsm hse hi hini (all_code hcd))) rfl rfl rfl hyx hd hR) ⟨XP_blind _ _ _, va_recv C.2.2.2.2.2.1.1 (x_P1 w (x_cell_obj hb hci)) hcl (q0 := 0) rfl, fun U hU hW => ⟨rfl, by rw [hU]; exact w, gK.warm hW C.2.2.2.2.2.1⟩⟩ rfl hnn (hls.trans hnL) hst (lv_room hcat) hdg hf) kk
theorem x_callAi (C : XC p s m args meth c cc nL own rt G) {post : Int32 → xS → Prop} {x y : MethodName} {owner : String} {rm : Room} {bytes : ByteArray} {maxL nn index : Nat} {ret : Option FieldType} {As rest st0 : List Value} {b ci N0 : Nat} {T : u_T} {Cn : String} (hM : XM l y bytes maxL ret rm G Ri (.ref b :: As) S post) (hb : S.1 b = ci + 1) (hci : ci < 9) (hcl : vwCl[ci]? = some (Cn, T, N0)) (hl : Cond.methodLink own index x ∈ ALL) (hsm : Cond.sameMethod x.cls owner x.name x.desc ∈ ALL) (hse : Cond.selects Cn x y ∈ ALL) (hi : Cond.instanceMethod y ∈ ALL) (hini : Cond.initialized y.cls ∈ ALL) (hcd : Cond.code y bytes maxL ret ∈ ALL) (hz : va_Nw (.declares ⟨owner, x.name, x.desc⟩) s) (hd : owner ≠ "java/lang/invoke/MethodHandle" ∧ owner ≠ "java/lang/invoke/VarHandle" ∧ (parseMethodDescriptor x.desc).map (fun d => d.parameters.length) = some nn) (hR : rm.frames + 1 ≤ R.frames ∧ 8 + (maxL + 11) + rm.locals ≤ R.locals) (hnn : As.length = nn) (hcat : (rest.map fun v => v.category).sum ≤ 8) (hnL : lv.length = nL) (hst : st0 = As.reverse ++ .ref b :: rest) (hdg : decode cc pc = .ok (.invokevirtual index, 3)) (hf : k + rm.cells ≤ R.cells ∧ n + rm.slots ≤ R.slots) (kk : ∀ (r : Int32) (S' : xS), post r S' → XW p l e R s m args below meth c G Z (k + rm.cells) (n + rm.slots) S' (pc + 3) lv (.int r :: rest)) : XW p l e R s m args below meth c G Z k n S pc lv st0 :=
  x_callG (fun H locs w z ls hls => va_runU ⟨C.1, C.2.1, C.2.2.1, C.2.2.2.1, C.2.2.2.2.1⟩ hM (va_cwA nn C.2.2.2.2.1 (all_goodIn (all_c5 hl hsm hse hi hini (all_code hcd))) rfl rfl rfl hz hd hR) ⟨XP_blind _ _ _, va_recv C.2.2.2.2.2.1.1 (x_P1 w (x_cell_obj hb hci)) hcl (q0 := 0) rfl, fun U hU hW => ⟨rfl, by rw [hU]; exact w, gK.warm hW C.2.2.2.2.2.1⟩⟩ rfl hnn (hls.trans hnL) hst (lv_room hcat) hdg hf) kk
theorem x_callVq (C : XC p s m args meth c cc nL own rt G) {post : Option Nat → xS → Prop} {y : MethodName} {rm : Room} {bytes : ByteArray} {maxL nn index : Nat} {ret : Option FieldType} {As rest st0 : List Value} {b ci N0 : Nat} {T : u_T} {Cn : String} (hM : XM l y bytes maxL ret rm G Rq (.ref b :: As) S post) (hb : S.1 b = ci + 1) (hci : ci < 9) (hcl : vwCl[ci]? = some (Cn, T, N0)) (hyc : y.cls = Cn) (hl : Cond.methodLink own index y ∈ ALL) (hi : Cond.instanceMethod y ∈ ALL) (hse : Cond.selects Cn y y ∈ ALL) (hini : Cond.initialized Cn ∈ ALL) (hcd : Cond.code y bytes maxL ret ∈ ALL) (hd : y.cls ≠ "java/lang/invoke/MethodHandle" ∧ y.cls ≠ "java/lang/invoke/VarHandle" ∧ (parseMethodDescriptor y.desc).map (fun d => d.parameters.length) = some nn) (hR : rm.frames + 1 ≤ R.frames ∧ 8 + (maxL + 11) + rm.locals ≤ R.locals) (hnn : As.length = nn) (hcat : (rest.map fun v => v.category).sum ≤ 8) (hnL : lv.length = nL) (hst : st0 = As.reverse ++ .ref b :: rest) (hdg : decode cc pc = .ok (.invokevirtual index, 3)) (hf : k + rm.cells ≤ R.cells ∧ n + rm.slots ≤ R.slots) (kk : ∀ (r : Option Nat) (S' : xS), post r S' → XW p l e R s m args below meth c G Z (k + rm.cells) (n + rm.slots) S' (pc + 3) lv (va_rf r :: rest)) : XW p l e R s m args below meth c G Z k n S pc lv st0 :=
  x_callG (fun H locs w z ls hls => va_runV ⟨C.1, C.2.1, C.2.2.1, C.2.2.2.1, C.2.2.2.2.1⟩ hM (cwV nn C.2.2.2.2.1 (all_goodIn (all_c4 hl hi hse hini (all_code hcd))) rfl rfl rfl ⟨hyc, hd⟩ hR) ⟨XP_blind _ _ _, va_recv C.2.2.2.2.2.1.1 (x_P1 w (x_cell_obj hb hci)) hcl (q0 := 0) rfl, fun U hU hW => ⟨rfl, by rw [hU]; exact w, gK.warm hW C.2.2.2.2.2.1⟩⟩ rfl hnn (hls.trans hnL) hst (lv_room hcat) hdg hf) kk
theorem x_callSq (C : XC p s m args meth c cc nL own rt G) {post : Option Nat → xS → Prop} {y : MethodName} {rm : Room} {bytes : ByteArray} {maxL nn index : Nat} {ret : Option FieldType} {As rest st0 : List Value} (hM : XM l y bytes maxL ret rm G Rq As S post) (hl : Cond.methodLink own index y ∈ ALL) (hi : Cond.static y ∈ ALL) (hini : Cond.initialized y.cls ∈ ALL) (hcd : Cond.code y bytes maxL ret ∈ ALL) (hd : y.cls ≠ "java/lang/invoke/MethodHandle" ∧ y.cls ≠ "java/lang/invoke/VarHandle" ∧ (parseMethodDescriptor y.desc).map (fun d => d.parameters.length) = some nn) (hR : rm.frames + 1 ≤ R.frames ∧ 8 + (maxL + 11) + rm.locals ≤ R.locals) (hnn : As.length = nn) (hcat : (rest.map fun v => v.category).sum ≤ 8) (hnL : lv.length = nL) (hst : st0 = As.reverse ++ rest) (hdg : decode cc pc = .ok (.invokestatic index, 3)) (hf : k + rm.cells ≤ R.cells ∧ n + rm.slots ≤ R.slots) (kk : ∀ (r : Option Nat) (S' : xS), post r S' → XW p l e R s m args below meth c G Z (k + rm.cells) (n + rm.slots) S' (pc + 3) lv (va_rf r :: rest)) : XW p l e R s m args below meth c G Z k n S pc lv st0 :=
  x_callG (fun H locs w z ls hls => va_runS ⟨C.1, C.2.1, C.2.2.1, C.2.2.2.1, C.2.2.2.2.1⟩ hM (va_cwS nn C.2.2.2.2.1 (all_goodIn (all_c3 hl hi hini (all_code hcd))) rfl rfl rfl hd hR) ⟨XP_blind _ _ _, fun U hU hW => ⟨rfl, by rw [hU]; exact w, gK.warm hW C.2.2.2.2.2.1⟩⟩ rfl hnn (hls.trans hnL) hst (lv_room hcat) hdg hf) kk
theorem x_callUq (C : XC p s m args meth c cc nL own rt G) {post : Option Nat → xS → Prop} {x y : MethodName} {owner : String} {rm : Room} {bytes : ByteArray} {maxL nn index : Nat} {ret : Option FieldType} {As rest st0 : List Value} {b ci N0 : Nat} {T : u_T} {Cn : String} (hM : XM l y bytes maxL ret rm G Rq (.ref b :: As) S post) (hb : S.1 b = ci + 1) (hci : ci < 9) (hcl : vwCl[ci]? = some (Cn, T, N0)) (hl : Cond.methodLink own index x ∈ ALL) (hsm : Cond.sameMethod x.cls owner x.name x.desc ∈ ALL) (hse : Cond.selects Cn x y ∈ ALL) (hi : Cond.instanceMethod y ∈ ALL) (hini : Cond.initialized y.cls ∈ ALL) (hcd : Cond.code y bytes maxL ret ∈ ALL) (hyx : y = ⟨owner, x.name, x.desc⟩) (hd : owner ≠ "java/lang/invoke/MethodHandle" ∧ owner ≠ "java/lang/invoke/VarHandle" ∧ (parseMethodDescriptor x.desc).map (fun d => d.parameters.length) = some nn) (hR : rm.frames + 1 ≤ R.frames ∧ 8 + (maxL + 11) + rm.locals ≤ R.locals) (hnn : As.length = nn) (hcat : (rest.map fun v => v.category).sum ≤ 8) (hnL : lv.length = nL) (hst : st0 = As.reverse ++ .ref b :: rest) (hdg : decode cc pc = .ok (.invokevirtual index, 3)) (hf : k + rm.cells ≤ R.cells ∧ n + rm.slots ≤ R.slots) (kk : ∀ (r : Option Nat) (S' : xS), post r S' → XW p l e R s m args below meth c G Z (k + rm.cells) (n + rm.slots) S' (pc + 3) lv (va_rf r :: rest)) : XW p l e R s m args below meth c G Z k n S pc lv st0 :=
  x_callG (fun H locs w z ls hls => va_runU ⟨C.1, C.2.1, C.2.2.1, C.2.2.2.1, C.2.2.2.2.1⟩ hM (va_cwU nn C.2.2.2.2.1 (all_goodIn (all_c5 hl hsm hse hi hini (all_code hcd))) rfl rfl rfl hyx hd hR) ⟨XP_blind _ _ _, va_recv C.2.2.2.2.2.1.1 (x_P1 w (x_cell_obj hb hci)) hcl (q0 := 0) rfl, fun U hU hW => ⟨rfl, by rw [hU]; exact w, gK.warm hW C.2.2.2.2.2.1⟩⟩ rfl hnn (hls.trans hnL) hst (lv_room hcat) hdg hf) kk
theorem x_callAq (C : XC p s m args meth c cc nL own rt G) {post : Option Nat → xS → Prop} {x y : MethodName} {owner : String} {rm : Room} {bytes : ByteArray} {maxL nn index : Nat} {ret : Option FieldType} {As rest st0 : List Value} {b ci N0 : Nat} {T : u_T} {Cn : String} (hM : XM l y bytes maxL ret rm G Rq (.ref b :: As) S post) (hb : S.1 b = ci + 1) (hci : ci < 9) (hcl : vwCl[ci]? = some (Cn, T, N0)) (hl : Cond.methodLink own index x ∈ ALL) (hsm : Cond.sameMethod x.cls owner x.name x.desc ∈ ALL) (hse : Cond.selects Cn x y ∈ ALL) (hi : Cond.instanceMethod y ∈ ALL) (hini : Cond.initialized y.cls ∈ ALL) (hcd : Cond.code y bytes maxL ret ∈ ALL) (hz : va_Nw (.declares ⟨owner, x.name, x.desc⟩) s) (hd : owner ≠ "java/lang/invoke/MethodHandle" ∧ owner ≠ "java/lang/invoke/VarHandle" ∧ (parseMethodDescriptor x.desc).map (fun d => d.parameters.length) = some nn) (hR : rm.frames + 1 ≤ R.frames ∧ 8 + (maxL + 11) + rm.locals ≤ R.locals) (hnn : As.length = nn) (hcat : (rest.map fun v => v.category).sum ≤ 8) (hnL : lv.length = nL) (hst : st0 = As.reverse ++ .ref b :: rest) (hdg : decode cc pc = .ok (.invokevirtual index, 3)) (hf : k + rm.cells ≤ R.cells ∧ n + rm.slots ≤ R.slots) (kk : ∀ (r : Option Nat) (S' : xS), post r S' → XW p l e R s m args below meth c G Z (k + rm.cells) (n + rm.slots) S' (pc + 3) lv (va_rf r :: rest)) : XW p l e R s m args below meth c G Z k n S pc lv st0 :=
  x_callG (fun H locs w z ls hls => va_runU ⟨C.1, C.2.1, C.2.2.1, C.2.2.2.1, C.2.2.2.2.1⟩ hM (va_cwA nn C.2.2.2.2.1 (all_goodIn (all_c5 hl hsm hse hi hini (all_code hcd))) rfl rfl rfl hz hd hR) ⟨XP_blind _ _ _, va_recv C.2.2.2.2.2.1.1 (x_P1 w (x_cell_obj hb hci)) hcl (q0 := 0) rfl, fun U hU hW => ⟨rfl, by rw [hU]; exact w, gK.warm hW C.2.2.2.2.2.1⟩⟩ rfl hnn (hls.trans hnL) hst (lv_room hcat) hdg hf) kk
theorem x_callVv (C : XC p s m args meth c cc nL own rt G) {post : Unit → xS → Prop} {y : MethodName} {rm : Room} {bytes : ByteArray} {maxL nn index : Nat} {ret : Option FieldType} {As rest st0 : List Value} {b ci N0 : Nat} {T : u_T} {Cn : String} (hM : XM l y bytes maxL ret rm G Rv (.ref b :: As) S post) (hb : S.1 b = ci + 1) (hci : ci < 9) (hcl : vwCl[ci]? = some (Cn, T, N0)) (hyc : y.cls = Cn) (hl : Cond.methodLink own index y ∈ ALL) (hi : Cond.instanceMethod y ∈ ALL) (hse : Cond.selects Cn y y ∈ ALL) (hini : Cond.initialized Cn ∈ ALL) (hcd : Cond.code y bytes maxL ret ∈ ALL) (hd : y.cls ≠ "java/lang/invoke/MethodHandle" ∧ y.cls ≠ "java/lang/invoke/VarHandle" ∧ (parseMethodDescriptor y.desc).map (fun d => d.parameters.length) = some nn) (hR : rm.frames + 1 ≤ R.frames ∧ 8 + (maxL + 11) + rm.locals ≤ R.locals) (hnn : As.length = nn) (hcat : (rest.map fun v => v.category).sum ≤ 8) (hnL : lv.length = nL) (hst : st0 = As.reverse ++ .ref b :: rest) (hdg : decode cc pc = .ok (.invokevirtual index, 3)) (hf : k + rm.cells ≤ R.cells ∧ n + rm.slots ≤ R.slots) (kk : ∀ (r : Unit) (S' : xS), post r S' → XW p l e R s m args below meth c G Z (k + rm.cells) (n + rm.slots) S' (pc + 3) lv rest) : XW p l e R s m args below meth c G Z k n S pc lv st0 :=
  x_callG (fun H locs w z ls hls => va_runV ⟨C.1, C.2.1, C.2.2.1, C.2.2.2.1, C.2.2.2.2.1⟩ hM (cwV nn C.2.2.2.2.1 (all_goodIn (all_c4 hl hi hse hini (all_code hcd))) rfl rfl rfl ⟨hyc, hd⟩ hR) ⟨XP_blind _ _ _, va_recv C.2.2.2.2.2.1.1 (x_P1 w (x_cell_obj hb hci)) hcl (q0 := 0) rfl, fun U hU hW => ⟨rfl, by rw [hU]; exact w, gK.warm hW C.2.2.2.2.2.1⟩⟩ rfl hnn (hls.trans hnL) hst (lv_room hcat) hdg hf) kk
theorem x_callSv (C : XC p s m args meth c cc nL own rt G) {post : Unit → xS → Prop} {y : MethodName} {rm : Room} {bytes : ByteArray} {maxL nn index : Nat} {ret : Option FieldType} {As rest st0 : List Value} (hM : XM l y bytes maxL ret rm G Rv As S post) (hl : Cond.methodLink own index y ∈ ALL) (hi : Cond.static y ∈ ALL) (hini : Cond.initialized y.cls ∈ ALL) (hcd : Cond.code y bytes maxL ret ∈ ALL) (hd : y.cls ≠ "java/lang/invoke/MethodHandle" ∧ y.cls ≠ "java/lang/invoke/VarHandle" ∧ (parseMethodDescriptor y.desc).map (fun d => d.parameters.length) = some nn) (hR : rm.frames + 1 ≤ R.frames ∧ 8 + (maxL + 11) + rm.locals ≤ R.locals) (hnn : As.length = nn) (hcat : (rest.map fun v => v.category).sum ≤ 8) (hnL : lv.length = nL) (hst : st0 = As.reverse ++ rest) (hdg : decode cc pc = .ok (.invokestatic index, 3)) (hf : k + rm.cells ≤ R.cells ∧ n + rm.slots ≤ R.slots) (kk : ∀ (r : Unit) (S' : xS), post r S' → XW p l e R s m args below meth c G Z (k + rm.cells) (n + rm.slots) S' (pc + 3) lv rest) : XW p l e R s m args below meth c G Z k n S pc lv st0 :=
  x_callG (fun H locs w z ls hls => va_runS ⟨C.1, C.2.1, C.2.2.1, C.2.2.2.1, C.2.2.2.2.1⟩ hM (va_cwS nn C.2.2.2.2.1 (all_goodIn (all_c3 hl hi hini (all_code hcd))) rfl rfl rfl hd hR) ⟨XP_blind _ _ _, fun U hU hW => ⟨rfl, by rw [hU]; exact w, gK.warm hW C.2.2.2.2.2.1⟩⟩ rfl hnn (hls.trans hnL) hst (lv_room hcat) hdg hf) kk
theorem x_callUv (C : XC p s m args meth c cc nL own rt G) {post : Unit → xS → Prop} {x y : MethodName} {owner : String} {rm : Room} {bytes : ByteArray} {maxL nn index : Nat} {ret : Option FieldType} {As rest st0 : List Value} {b ci N0 : Nat} {T : u_T} {Cn : String} (hM : XM l y bytes maxL ret rm G Rv (.ref b :: As) S post) (hb : S.1 b = ci + 1) (hci : ci < 9) (hcl : vwCl[ci]? = some (Cn, T, N0)) (hl : Cond.methodLink own index x ∈ ALL) (hsm : Cond.sameMethod x.cls owner x.name x.desc ∈ ALL) (hse : Cond.selects Cn x y ∈ ALL) (hi : Cond.instanceMethod y ∈ ALL) (hini : Cond.initialized y.cls ∈ ALL) (hcd : Cond.code y bytes maxL ret ∈ ALL) (hyx : y = ⟨owner, x.name, x.desc⟩) (hd : owner ≠ "java/lang/invoke/MethodHandle" ∧ owner ≠ "java/lang/invoke/VarHandle" ∧ (parseMethodDescriptor x.desc).map (fun d => d.parameters.length) = some nn) (hR : rm.frames + 1 ≤ R.frames ∧ 8 + (maxL + 11) + rm.locals ≤ R.locals) (hnn : As.length = nn) (hcat : (rest.map fun v => v.category).sum ≤ 8) (hnL : lv.length = nL) (hst : st0 = As.reverse ++ .ref b :: rest) (hdg : decode cc pc = .ok (.invokevirtual index, 3)) (hf : k + rm.cells ≤ R.cells ∧ n + rm.slots ≤ R.slots) (kk : ∀ (r : Unit) (S' : xS), post r S' → XW p l e R s m args below meth c G Z (k + rm.cells) (n + rm.slots) S' (pc + 3) lv rest) : XW p l e R s m args below meth c G Z k n S pc lv st0 :=
  x_callG (fun H locs w z ls hls => va_runU ⟨C.1, C.2.1, C.2.2.1, C.2.2.2.1, C.2.2.2.2.1⟩ hM (va_cwU nn C.2.2.2.2.1 (all_goodIn (all_c5 hl hsm hse hi hini (all_code hcd))) rfl rfl rfl hyx hd hR) ⟨XP_blind _ _ _, va_recv C.2.2.2.2.2.1.1 (x_P1 w (x_cell_obj hb hci)) hcl (q0 := 0) rfl, fun U hU hW => ⟨rfl, by rw [hU]; exact w, gK.warm hW C.2.2.2.2.2.1⟩⟩ rfl hnn (hls.trans hnL) hst (lv_room hcat) hdg hf) kk
theorem x_callAv (C : XC p s m args meth c cc nL own rt G) {post : Unit → xS → Prop} {x y : MethodName} {owner : String} {rm : Room} {bytes : ByteArray} {maxL nn index : Nat} {ret : Option FieldType} {As rest st0 : List Value} {b ci N0 : Nat} {T : u_T} {Cn : String} (hM : XM l y bytes maxL ret rm G Rv (.ref b :: As) S post) (hb : S.1 b = ci + 1) (hci : ci < 9) (hcl : vwCl[ci]? = some (Cn, T, N0)) (hl : Cond.methodLink own index x ∈ ALL) (hsm : Cond.sameMethod x.cls owner x.name x.desc ∈ ALL) (hse : Cond.selects Cn x y ∈ ALL) (hi : Cond.instanceMethod y ∈ ALL) (hini : Cond.initialized y.cls ∈ ALL) (hcd : Cond.code y bytes maxL ret ∈ ALL) (hz : va_Nw (.declares ⟨owner, x.name, x.desc⟩) s) (hd : owner ≠ "java/lang/invoke/MethodHandle" ∧ owner ≠ "java/lang/invoke/VarHandle" ∧ (parseMethodDescriptor x.desc).map (fun d => d.parameters.length) = some nn) (hR : rm.frames + 1 ≤ R.frames ∧ 8 + (maxL + 11) + rm.locals ≤ R.locals) (hnn : As.length = nn) (hcat : (rest.map fun v => v.category).sum ≤ 8) (hnL : lv.length = nL) (hst : st0 = As.reverse ++ .ref b :: rest) (hdg : decode cc pc = .ok (.invokevirtual index, 3)) (hf : k + rm.cells ≤ R.cells ∧ n + rm.slots ≤ R.slots) (kk : ∀ (r : Unit) (S' : xS), post r S' → XW p l e R s m args below meth c G Z (k + rm.cells) (n + rm.slots) S' (pc + 3) lv rest) : XW p l e R s m args below meth c G Z k n S pc lv st0 :=
  x_callG (fun H locs w z ls hls => va_runU ⟨C.1, C.2.1, C.2.2.1, C.2.2.2.1, C.2.2.2.2.1⟩ hM (va_cwA nn C.2.2.2.2.1 (all_goodIn (all_c5 hl hsm hse hi hini (all_code hcd))) rfl rfl rfl hz hd hR) ⟨XP_blind _ _ _, va_recv C.2.2.2.2.2.1.1 (x_P1 w (x_cell_obj hb hci)) hcl (q0 := 0) rfl, fun U hU hW => ⟨rfl, by rw [hU]; exact w, gK.warm hW C.2.2.2.2.2.1⟩⟩ rfl hnn (hls.trans hnL) hst (lv_room hcat) hdg hf) kk
theorem x_callI (C : XC p s m args meth c cc nL own rt G) {post : Unit → xS → Prop} {y : MethodName} {rm : Room} {bytes : ByteArray} {maxL nn index : Nat} {ret : Option FieldType} {As rest st0 : List Value} {b : Nat} (hM : XM l y bytes maxL none rm G Rv (.ref b :: As) S post) (hcd : Cond.code y bytes maxL none ∈ ALL) (hini : Cond.initialized y.cls ∈ ALL) (hl : Cond.methodLink own index y ∈ ALL) (hi : Cond.instanceMethod y ∈ ALL) (hy1 : y.name = "<init>") (hd : y.cls ≠ "java/lang/invoke/MethodHandle" ∧ y.cls ≠ "java/lang/invoke/VarHandle" ∧ (parseMethodDescriptor y.desc).map (fun d => d.parameters.length) = some nn) (hR : rm.frames + 1 ≤ R.frames ∧ 8 + (maxL + 11) + rm.locals ≤ R.locals) (hnn : As.length = nn) (hcat : (rest.map fun v => v.category).sum ≤ 8) (hnL : lv.length = nL) (hst : st0 = As.reverse ++ .ref b :: rest) (hdg : decode cc pc = .ok (.invokespecial index, 3)) (hf : k + rm.cells ≤ R.cells ∧ n + rm.slots ≤ R.slots) (kk : ∀ (r : Unit) (S' : xS), post r S' → XW p l e R s m args below meth c G Z (k + rm.cells) (n + rm.slots) S' (pc + 3) lv rest) : XW p l e R s m args below meth c G Z k n S pc lv st0 :=
  x_callG (fun H locs w z ls hls => va_runI ⟨C.1, C.2.1, C.2.2.1, C.2.2.2.1, C.2.2.2.2.1⟩ hM (cwI nn C.2.2.2.2.1 (all_goodIn (all_code hcd)) rfl rfl rfl (C.2.2.2.2.1 _ hini) (C.2.2.2.2.1 _ hl) (C.2.2.2.2.1 _ hi) hy1 hd hR) ⟨XP_blind _ _ _, fun U hU hW => ⟨rfl, by rw [hU]; exact w, gK.warm hW C.2.2.2.2.2.1⟩⟩ rfl hnn (hls.trans hnL) hst (lv_room hcat) hdg hf) kk
theorem x_callIN (C : XC p s m args meth c cc nL own rt G) {post : Unit → xS → Prop} {y : MethodName} {rm : Room} {bytes : ByteArray} {maxL nn index : Nat} {ret : Option FieldType} {As rest st0 : List Value} {b : Nat} (hM : XM l y bytes maxL none rm G Rv (.ref b :: As) S post) (hcd : Cond.code y bytes maxL none ∈ ALL) (hini : Cond.initialized y.cls ∈ ALL) {host : String} (hl : va_Nw (.methodLinkNest own index y host) s) (hi : Cond.instanceMethod y ∈ ALL) (hy1 : y.name = "<init>") (hd : y.cls ≠ "java/lang/invoke/MethodHandle" ∧ y.cls ≠ "java/lang/invoke/VarHandle" ∧ (parseMethodDescriptor y.desc).map (fun d => d.parameters.length) = some nn) (hR : rm.frames + 1 ≤ R.frames ∧ 8 + (maxL + 11) + rm.locals ≤ R.locals) (hnn : As.length = nn) (hcat : (rest.map fun v => v.category).sum ≤ 8) (hnL : lv.length = nL) (hst : st0 = As.reverse ++ .ref b :: rest) (hdg : decode cc pc = .ok (.invokespecial index, 3)) (hf : k + rm.cells ≤ R.cells ∧ n + rm.slots ≤ R.slots) (kk : ∀ (r : Unit) (S' : xS), post r S' → XW p l e R s m args below meth c G Z (k + rm.cells) (n + rm.slots) S' (pc + 3) lv rest) : XW p l e R s m args below meth c G Z k n S pc lv st0 :=
  x_callG (fun H locs w z ls hls => va_runIN ⟨C.1, C.2.1, C.2.2.1, C.2.2.2.1, C.2.2.2.2.1⟩ hM ⟨va_cnB nn C.2.2.2.2.1 (all_goodIn (all_code hcd)) rfl rfl rfl hl (C.2.2.2.2.1 _ hini) hd hR, hy1, C.2.2.2.2.1 _ hi⟩ ⟨XP_blind _ _ _, fun U hU hW => ⟨rfl, by rw [hU]; exact w, gK.warm hW C.2.2.2.2.2.1⟩⟩ rfl hnn (hls.trans hnL) hst (lv_room hcat) hdg hf) kk
theorem x_callVz (C : XC p s m args meth c cc nL own rt G) {post : Bool → xS → Prop} {y : MethodName} {rm : Room} {bytes : ByteArray} {maxL nn index : Nat} {ret : Option FieldType} {As rest st0 : List Value} {b ci N0 : Nat} {T : u_T} {Cn : String} (hM : XM l y bytes maxL ret rm G Rz (.ref b :: As) S post) (hb : S.1 b = ci + 1) (hci : ci < 9) (hcl : vwCl[ci]? = some (Cn, T, N0)) (hyc : y.cls = Cn) (hl : Cond.methodLink own index y ∈ ALL) (hi : Cond.instanceMethod y ∈ ALL) (hse : Cond.selects Cn y y ∈ ALL) (hini : Cond.initialized Cn ∈ ALL) (hcd : Cond.code y bytes maxL ret ∈ ALL) (hd : y.cls ≠ "java/lang/invoke/MethodHandle" ∧ y.cls ≠ "java/lang/invoke/VarHandle" ∧ (parseMethodDescriptor y.desc).map (fun d => d.parameters.length) = some nn) (hR : rm.frames + 1 ≤ R.frames ∧ 8 + (maxL + 11) + rm.locals ≤ R.locals) (hnn : As.length = nn) (hcat : (rest.map fun v => v.category).sum ≤ 8) (hnL : lv.length = nL) (hst : st0 = As.reverse ++ .ref b :: rest) (hdg : decode cc pc = .ok (.invokevirtual index, 3)) (hf : k + rm.cells ≤ R.cells ∧ n + rm.slots ≤ R.slots) (kk : ∀ (r : Bool) (S' : xS), post r S' → XW p l e R s m args below meth c G Z (k + rm.cells) (n + rm.slots) S' (pc + 3) lv (.int (xb r) :: rest)) : XW p l e R s m args below meth c G Z k n S pc lv st0 :=
  x_callG (fun H locs w z ls hls => va_runV ⟨C.1, C.2.1, C.2.2.1, C.2.2.2.1, C.2.2.2.2.1⟩ hM (cwV nn C.2.2.2.2.1 (all_goodIn (all_c4 hl hi hse hini (all_code hcd))) rfl rfl rfl ⟨hyc, hd⟩ hR) ⟨XP_blind _ _ _, va_recv C.2.2.2.2.2.1.1 (x_P1 w (x_cell_obj hb hci)) hcl (q0 := 0) rfl, fun U hU hW => ⟨rfl, by rw [hU]; exact w, gK.warm hW C.2.2.2.2.2.1⟩⟩ rfl hnn (hls.trans hnL) hst (lv_room hcat) hdg hf) kk
theorem x_callSz (C : XC p s m args meth c cc nL own rt G) {post : Bool → xS → Prop} {y : MethodName} {rm : Room} {bytes : ByteArray} {maxL nn index : Nat} {ret : Option FieldType} {As rest st0 : List Value} (hM : XM l y bytes maxL ret rm G Rz As S post) (hl : Cond.methodLink own index y ∈ ALL) (hi : Cond.static y ∈ ALL) (hini : Cond.initialized y.cls ∈ ALL) (hcd : Cond.code y bytes maxL ret ∈ ALL) (hd : y.cls ≠ "java/lang/invoke/MethodHandle" ∧ y.cls ≠ "java/lang/invoke/VarHandle" ∧ (parseMethodDescriptor y.desc).map (fun d => d.parameters.length) = some nn) (hR : rm.frames + 1 ≤ R.frames ∧ 8 + (maxL + 11) + rm.locals ≤ R.locals) (hnn : As.length = nn) (hcat : (rest.map fun v => v.category).sum ≤ 8) (hnL : lv.length = nL) (hst : st0 = As.reverse ++ rest) (hdg : decode cc pc = .ok (.invokestatic index, 3)) (hf : k + rm.cells ≤ R.cells ∧ n + rm.slots ≤ R.slots) (kk : ∀ (r : Bool) (S' : xS), post r S' → XW p l e R s m args below meth c G Z (k + rm.cells) (n + rm.slots) S' (pc + 3) lv (.int (xb r) :: rest)) : XW p l e R s m args below meth c G Z k n S pc lv st0 :=
  x_callG (fun H locs w z ls hls => va_runS ⟨C.1, C.2.1, C.2.2.1, C.2.2.2.1, C.2.2.2.2.1⟩ hM (va_cwS nn C.2.2.2.2.1 (all_goodIn (all_c3 hl hi hini (all_code hcd))) rfl rfl rfl hd hR) ⟨XP_blind _ _ _, fun U hU hW => ⟨rfl, by rw [hU]; exact w, gK.warm hW C.2.2.2.2.2.1⟩⟩ rfl hnn (hls.trans hnL) hst (lv_room hcat) hdg hf) kk
theorem x_callUz (C : XC p s m args meth c cc nL own rt G) {post : Bool → xS → Prop} {x y : MethodName} {owner : String} {rm : Room} {bytes : ByteArray} {maxL nn index : Nat} {ret : Option FieldType} {As rest st0 : List Value} {b ci N0 : Nat} {T : u_T} {Cn : String} (hM : XM l y bytes maxL ret rm G Rz (.ref b :: As) S post) (hb : S.1 b = ci + 1) (hci : ci < 9) (hcl : vwCl[ci]? = some (Cn, T, N0)) (hl : Cond.methodLink own index x ∈ ALL) (hsm : Cond.sameMethod x.cls owner x.name x.desc ∈ ALL) (hse : Cond.selects Cn x y ∈ ALL) (hi : Cond.instanceMethod y ∈ ALL) (hini : Cond.initialized y.cls ∈ ALL) (hcd : Cond.code y bytes maxL ret ∈ ALL) (hyx : y = ⟨owner, x.name, x.desc⟩) (hd : owner ≠ "java/lang/invoke/MethodHandle" ∧ owner ≠ "java/lang/invoke/VarHandle" ∧ (parseMethodDescriptor x.desc).map (fun d => d.parameters.length) = some nn) (hR : rm.frames + 1 ≤ R.frames ∧ 8 + (maxL + 11) + rm.locals ≤ R.locals) (hnn : As.length = nn) (hcat : (rest.map fun v => v.category).sum ≤ 8) (hnL : lv.length = nL) (hst : st0 = As.reverse ++ .ref b :: rest) (hdg : decode cc pc = .ok (.invokevirtual index, 3)) (hf : k + rm.cells ≤ R.cells ∧ n + rm.slots ≤ R.slots) (kk : ∀ (r : Bool) (S' : xS), post r S' → XW p l e R s m args below meth c G Z (k + rm.cells) (n + rm.slots) S' (pc + 3) lv (.int (xb r) :: rest)) : XW p l e R s m args below meth c G Z k n S pc lv st0 :=
  x_callG (fun H locs w z ls hls => va_runU ⟨C.1, C.2.1, C.2.2.1, C.2.2.2.1, C.2.2.2.2.1⟩ hM (va_cwU nn C.2.2.2.2.1 (all_goodIn (all_c5 hl hsm hse hi hini (all_code hcd))) rfl rfl rfl hyx hd hR) ⟨XP_blind _ _ _, va_recv C.2.2.2.2.2.1.1 (x_P1 w (x_cell_obj hb hci)) hcl (q0 := 0) rfl, fun U hU hW => ⟨rfl, by rw [hU]; exact w, gK.warm hW C.2.2.2.2.2.1⟩⟩ rfl hnn (hls.trans hnL) hst (lv_room hcat) hdg hf) kk
theorem x_callAz (C : XC p s m args meth c cc nL own rt G) {post : Bool → xS → Prop} {x y : MethodName} {owner : String} {rm : Room} {bytes : ByteArray} {maxL nn index : Nat} {ret : Option FieldType} {As rest st0 : List Value} {b ci N0 : Nat} {T : u_T} {Cn : String} (hM : XM l y bytes maxL ret rm G Rz (.ref b :: As) S post) (hb : S.1 b = ci + 1) (hci : ci < 9) (hcl : vwCl[ci]? = some (Cn, T, N0)) (hl : Cond.methodLink own index x ∈ ALL) (hsm : Cond.sameMethod x.cls owner x.name x.desc ∈ ALL) (hse : Cond.selects Cn x y ∈ ALL) (hi : Cond.instanceMethod y ∈ ALL) (hini : Cond.initialized y.cls ∈ ALL) (hcd : Cond.code y bytes maxL ret ∈ ALL) (hz : va_Nw (.declares ⟨owner, x.name, x.desc⟩) s) (hd : owner ≠ "java/lang/invoke/MethodHandle" ∧ owner ≠ "java/lang/invoke/VarHandle" ∧ (parseMethodDescriptor x.desc).map (fun d => d.parameters.length) = some nn) (hR : rm.frames + 1 ≤ R.frames ∧ 8 + (maxL + 11) + rm.locals ≤ R.locals) (hnn : As.length = nn) (hcat : (rest.map fun v => v.category).sum ≤ 8) (hnL : lv.length = nL) (hst : st0 = As.reverse ++ .ref b :: rest) (hdg : decode cc pc = .ok (.invokevirtual index, 3)) (hf : k + rm.cells ≤ R.cells ∧ n + rm.slots ≤ R.slots) (kk : ∀ (r : Bool) (S' : xS), post r S' → XW p l e R s m args below meth c G Z (k + rm.cells) (n + rm.slots) S' (pc + 3) lv (.int (xb r) :: rest)) : XW p l e R s m args below meth c G Z k n S pc lv st0 :=
  x_callG (fun H locs w z ls hls => va_runU ⟨C.1, C.2.1, C.2.2.1, C.2.2.2.1, C.2.2.2.2.1⟩ hM (va_cwA nn C.2.2.2.2.1 (all_goodIn (all_c5 hl hsm hse hi hini (all_code hcd))) rfl rfl rfl hz hd hR) ⟨XP_blind _ _ _, va_recv C.2.2.2.2.2.1.1 (x_P1 w (x_cell_obj hb hci)) hcl (q0 := 0) rfl, fun U hU hW => ⟨rfl, by rw [hU]; exact w, gK.warm hW C.2.2.2.2.2.1⟩⟩ rfl hnn (hls.trans hnL) hst (lv_room hcat) hdg hf) kk
theorem x_iret (C : XC p s m args meth c cc nL own rt G) {post : Int32 → xS → Prop} {mc ms : Nat} {v : Int32} (hr : rt = some .int) (hk : k ≤ mc) (hn : n ≤ ms) (hdg : decode cc pc = .ok (.ireturn, 1)) (hp : post v S) : XW p l e R s m args below meth c G (MQ below (XQ Ri G post) args s mc ms (gA G)) k n S pc lv [.int v] := fun H locs ls w z h => W.widen hk hn (W.iret C.1 C.2.1 (C.2.2.2.2.2.2.2.2.trans hr) (fun t ht hW => ⟨⟨v, S, rfl, hp, by rw [ht]; exact w⟩, z.F ht⟩) z.2.2 hdg C.2.2.2.2.2.2.2.1)
theorem x_zret (C : XC p s m args meth c cc nL own rt G) {post : Bool → xS → Prop} {mc ms : Nat} {v : Int32} (bb : Bool) (hr : rt = some .boolean) (hv : v = xb bb) (hk : k ≤ mc) (hn : n ≤ ms) (hdg : decode cc pc = .ok (.ireturn, 1)) (hp : post bb S) : XW p l e R s m args below meth c G (MQ below (XQ Rz G post) args s mc ms (gA G)) k n S pc lv [.int v] := fun H locs ls w z h => by
  subst hv
  exact W.widen hk hn (W.zret (ty := .boolean) C.1 C.2.1 (C.2.2.2.2.2.2.2.2.trans hr) (by cases bb <;> rfl) (fun t ht hW => ⟨⟨bb, S, rfl, hp, by rw [ht]; exact w⟩, z.F ht⟩) z.2.2 hdg C.2.2.2.2.2.2.2.1)
theorem x_vret (C : XC p s m args meth c cc nL own rt G) {post : Unit → xS → Prop} {mc ms : Nat} (hr : rt = none) (hk : k ≤ mc) (hn : n ≤ ms) (hdg : decode cc pc = .ok (.return_, 1)) (hp : post () S) : XW p l e R s m args below meth c G (MQ below (XQ Rv G post) args s mc ms (gA G)) k n S pc lv [] := fun H locs ls w z h => W.widen hk hn (W.vret C.1 C.2.1 (C.2.2.2.2.2.2.2.2.trans hr) (fun t ht hW => ⟨⟨(), S, rfl, hp, by rw [ht]; exact w⟩, z.F ht⟩) z.2.2 hdg C.2.2.2.2.2.2.2.1)
theorem x_aret (C : XC p s m args meth c cc nL own rt G) {post : Option Nat → xS → Prop} {mc ms : Nat} {v : Value} {o : Option Nat} {nmR : String} (ho : v = va_rf o) (hr : rt = some (.object nmR)) (hk : k ≤ mc) (hn : n ≤ ms) (hdg : decode cc pc = .ok (.areturn, 1)) (hp : post o S) : XW p l e R s m args below meth c G (MQ below (XQ Rq G post) args s mc ms (gA G)) k n S pc lv [v] := fun H locs ls w z h => by
  subst ho
  exact W.widen hk hn (W.aret C.1 C.2.1 (C.2.2.2.2.2.2.2.2.trans hr) (Or.inl ⟨_, rfl⟩) (va_rf_or o) (fun t ht hW => ⟨⟨o, S, rfl, hp, by rw [ht]; exact w⟩, z.F ht⟩) z.2.2 hdg C.2.2.2.2.2.2.2.1)
theorem x_objInit (C : XC p s m args meth c cc nL own rt G) {index : Nat} {a : Nat} {rest : List Value} (hl : Cond.methodLink own index objectInit ∈ ALL) (hi : Cond.instanceMethod objectInit ∈ ALL) (hcd : Cond.code objectInit ⟨#[0xb1]⟩ 1 none ∈ ALL) (hnL : lv.length = nL) (hd : decode cc pc = .ok (.invokespecial index, 3)) (hfr : 1 ≤ R.frames) (hlo : (rest.map fun v => v.category).sum + 12 ≤ R.locals) (kk : XW p l e R s m args below meth c G Z k n S (pc + 3) lv rest) : XW p l e R s m args below meth c G Z k n S pc lv (.ref a :: rest) := fun H locs ls w z h => W.objInit C.1 C.2.1 C.2.2.2.1 (C.2.2.2.2.1 _ hl) (C.2.2.2.2.1 _ hi) (C.2.2.2.2.1 _ hcd) rfl (h.1.trans (hnL.trans C.2.2.1.symm)) rfl hd hfr (by simpa [JFrame.monitorRoom] using hlo) (kk H locs ls w z h)
theorem x_mmax (C : XC p s m args meth c cc nL own rt G) {index : Nat} {x y : Int32} (hl : Cond.methodLink own index Lib.Math.max.name ∈ ALL) (hs : Cond.static Lib.Math.max.name ∈ ALL) (hini : Cond.initialized "java/lang/Math" ∈ ALL) (hcd : Cond.code Lib.Math.max.name Lib.Math.max.code 2 (some .int) ∈ ALL) (hnL : lv.length = nL) (hfr : 1 ≤ R.frames) (hlo : (st.map fun v => v.category).sum + 13 ≤ R.locals) (hc : k ≤ R.cells) (hn : n ≤ R.slots) (hdg : decode cc pc = .ok (.invokestatic index, 3)) (kk : XW p l e R s m args below meth c G Z k n S (pc + 3) lv (.int (if x < y then y else x) :: st)) : XW p l e R s m args below meth c G Z k n S pc lv (.int y :: .int x :: st) := fun H locs ls w z h => va_mmax C.1 C.2.1 (C.2.2.1.trans (hnL.symm.trans h.1.symm)) C.2.2.2.1 (C.2.2.2.2.1 _ hl) (C.2.2.2.2.1 _ hs) (C.2.2.2.2.1 _ hini) (C.2.2.2.2.1 _ hcd) hfr hlo hc hn hdg (kk H locs ls w z h)
end XR
theorem x_meti {l : Launch} {y : MethodName} {rm : Room} {G : xG} {av : List Value} {S : xS} {post : Int32 → xS → Prop} {cc : ByteArray} {maxL : Nat} {ret : Option FieldType} {lv : List (Option Value)} 
    (hy : plainName y.cls = true) (hc : x_cat1 av) (hn : av.length ≤ maxL) (hlv : av.map some ++ List.replicate (maxL - av.length) none = lv)
    (body : ∀ (p : Program) (e : Env) (s : State) (m : MethodId) (args : Array Value) (below : List Frame) (meth : Method) (c : Code) (Z : State → Prop), XC p s m args meth c cc maxL y.cls ret G → (y.name = "<init>" → meth.name = "<init>") → (∀ (k n : Nat) (S : xS) (pc : Nat) (lv : List (Option Value)) (v : Int32), ret = some .int → decode cc pc = .ok (.ireturn, 1) → k ≤ rm.cells → n ≤ rm.slots → post v S → XW p l e rm s m args below meth c G Z k n S pc lv [.int v]) → XW p l e rm s m args below meth c G Z 0 0 S 0 lv []) : XM l y cc maxL ret rm G Ri av S post := by
  refine Met.ofW (cc := cc) (maxL := maxL) (ret := ret) hy rfl ?_
  intro p e s m args below meth c s₁ B hml hv
  obtain ⟨rfl, hW, hK⟩ := hv
  have hts0 := atoms_spec (ws := Cond.code y cc maxL ret :: ALL) B.pre
  have hts : ∀ w ∈ ALL, w.before av.toArray s = true := fun w hw => hts0 w (List.mem_cons_of_mem _ hw)
  rw [lg_entry_eq]
  have C : XC p s m av.toArray meth c cc maxL y.cls ret G := ⟨B.exec, B.bytes, hml, findClass_of_methodNamed B.named, hts, hK, hW.1, B.notSynchronized, B.returns⟩
  exact body p e s m _ below meth c _ C (fun h => by rw [← h]; exact (name_of_methodNamed B.named B.method).1) (fun k n S pc lv v h1 h2 h3 h4 h5 => x_iret C h1 h3 h4 h2 h5) s.heap [] _ hW va_S.rf (x_ls_entry hc hn hlv)
theorem x_metz {l : Launch} {y : MethodName} {rm : Room} {G : xG} {av : List Value} {S : xS} {post : Bool → xS → Prop} {cc : ByteArray} {maxL : Nat} {ret : Option FieldType} {lv : List (Option Value)} 
    (hy : plainName y.cls = true) (hc : x_cat1 av) (hn : av.length ≤ maxL) (hlv : av.map some ++ List.replicate (maxL - av.length) none = lv)
    (body : ∀ (p : Program) (e : Env) (s : State) (m : MethodId) (args : Array Value) (below : List Frame) (meth : Method) (c : Code) (Z : State → Prop), XC p s m args meth c cc maxL y.cls ret G → (y.name = "<init>" → meth.name = "<init>") → (∀ (k n : Nat) (S : xS) (pc : Nat) (lv : List (Option Value)) (v : Int32) (bb : Bool), ret = some .boolean → decode cc pc = .ok (.ireturn, 1) → k ≤ rm.cells → n ≤ rm.slots → v = xb bb → post bb S → XW p l e rm s m args below meth c G Z k n S pc lv [.int v]) → XW p l e rm s m args below meth c G Z 0 0 S 0 lv []) : XM l y cc maxL ret rm G Rz av S post := by
  refine Met.ofW (cc := cc) (maxL := maxL) (ret := ret) hy rfl ?_
  intro p e s m args below meth c s₁ B hml hv
  obtain ⟨rfl, hW, hK⟩ := hv
  have hts0 := atoms_spec (ws := Cond.code y cc maxL ret :: ALL) B.pre
  have hts : ∀ w ∈ ALL, w.before av.toArray s = true := fun w hw => hts0 w (List.mem_cons_of_mem _ hw)
  rw [lg_entry_eq]
  have C : XC p s m av.toArray meth c cc maxL y.cls ret G := ⟨B.exec, B.bytes, hml, findClass_of_methodNamed B.named, hts, hK, hW.1, B.notSynchronized, B.returns⟩
  exact body p e s m _ below meth c _ C (fun h => by rw [← h]; exact (name_of_methodNamed B.named B.method).1) (fun k n S pc lv v bb h1 h2 h3 h4 h5 h6 => x_zret C bb h1 h5 h3 h4 h2 h6) s.heap [] _ hW va_S.rf (x_ls_entry hc hn hlv)
theorem x_metv {l : Launch} {y : MethodName} {rm : Room} {G : xG} {av : List Value} {S : xS} {post : Unit → xS → Prop} {cc : ByteArray} {maxL : Nat} {ret : Option FieldType} {lv : List (Option Value)} 
    (hy : plainName y.cls = true) (hc : x_cat1 av) (hn : av.length ≤ maxL) (hlv : av.map some ++ List.replicate (maxL - av.length) none = lv)
    (body : ∀ (p : Program) (e : Env) (s : State) (m : MethodId) (args : Array Value) (below : List Frame) (meth : Method) (c : Code) (Z : State → Prop), XC p s m args meth c cc maxL y.cls ret G → (y.name = "<init>" → meth.name = "<init>") → (∀ (k n : Nat) (S : xS) (pc : Nat) (lv : List (Option Value)), ret = none → decode cc pc = .ok (.return_, 1) → k ≤ rm.cells → n ≤ rm.slots → post () S → XW p l e rm s m args below meth c G Z k n S pc lv []) → XW p l e rm s m args below meth c G Z 0 0 S 0 lv []) : XM l y cc maxL ret rm G Rv av S post := by
  refine Met.ofW (cc := cc) (maxL := maxL) (ret := ret) hy rfl ?_
  intro p e s m args below meth c s₁ B hml hv
  obtain ⟨rfl, hW, hK⟩ := hv
  have hts0 := atoms_spec (ws := Cond.code y cc maxL ret :: ALL) B.pre
  have hts : ∀ w ∈ ALL, w.before av.toArray s = true := fun w hw => hts0 w (List.mem_cons_of_mem _ hw)
  rw [lg_entry_eq]
  have C : XC p s m av.toArray meth c cc maxL y.cls ret G := ⟨B.exec, B.bytes, hml, findClass_of_methodNamed B.named, hts, hK, hW.1, B.notSynchronized, B.returns⟩
  exact body p e s m _ below meth c _ C (fun h => by rw [← h]; exact (name_of_methodNamed B.named B.method).1) (fun k n S pc lv h1 h2 h3 h4 h5 => x_vret C h1 h3 h4 h2 h5) s.heap [] _ hW va_S.rf (x_ls_entry hc hn hlv)
theorem x_metq {l : Launch} {y : MethodName} {rm : Room} {G : xG} {av : List Value} {S : xS} {post : Option Nat → xS → Prop} {cc : ByteArray} {maxL : Nat} {ret : Option FieldType} {lv : List (Option Value)} 
    (hy : plainName y.cls = true) (hc : x_cat1 av) (hn : av.length ≤ maxL) (hlv : av.map some ++ List.replicate (maxL - av.length) none = lv)
    (body : ∀ (p : Program) (e : Env) (s : State) (m : MethodId) (args : Array Value) (below : List Frame) (meth : Method) (c : Code) (Z : State → Prop), XC p s m args meth c cc maxL y.cls ret G → (y.name = "<init>" → meth.name = "<init>") → (∀ (k n : Nat) (S : xS) (pc : Nat) (lv : List (Option Value)) (v : Value) (o : Option Nat), (∃ nm, ret = some (.object nm)) → decode cc pc = .ok (.areturn, 1) → k ≤ rm.cells → n ≤ rm.slots → v = va_rf o → post o S → XW p l e rm s m args below meth c G Z k n S pc lv [v]) → XW p l e rm s m args below meth c G Z 0 0 S 0 lv []) : XM l y cc maxL ret rm G Rq av S post := by
  refine Met.ofW (cc := cc) (maxL := maxL) (ret := ret) hy rfl ?_
  intro p e s m args below meth c s₁ B hml hv
  obtain ⟨rfl, hW, hK⟩ := hv
  have hts0 := atoms_spec (ws := Cond.code y cc maxL ret :: ALL) B.pre
  have hts : ∀ w ∈ ALL, w.before av.toArray s = true := fun w hw => hts0 w (List.mem_cons_of_mem _ hw)
  rw [lg_entry_eq]
  have C : XC p s m av.toArray meth c cc maxL y.cls ret G := ⟨B.exec, B.bytes, hml, findClass_of_methodNamed B.named, hts, hK, hW.1, B.notSynchronized, B.returns⟩
  exact body p e s m _ below meth c _ C (fun h => by rw [← h]; exact (name_of_methodNamed B.named B.method).1) (fun k n S pc lv v o h1 h2 h3 h4 h5 h6 => by
    obtain ⟨nm, hnm⟩ := h1
    exact x_aret C h5 hnm h3 h4 h2 h6) s.heap [] _ hW va_S.rf (x_ls_entry hc hn hlv)
section XN
variable {p : Program} {l : Launch} {e : Env} {R : Room} {s : State} {m : MethodId} {args : Array Value} {below : List Frame} {meth : Method} {c : Code} {G : xG} {Z : State → Prop} {k n : Nat} {S : xS} {pc : Nat} {lv : List (Option Value)} {st : List Value}
theorem x_nmq {o : Option Nat} (kk : ∀ o', o' = o → XW p l e R s m args below meth c G Z k n S pc lv (va_rf o' :: st)) : XW p l e R s m args below meth c G Z k n S pc lv (va_rf o :: st) := kk o rfl
theorem x_eqq {o : Option Nat} (o' : Option Nat) (h : o = o') (kk : XW p l e R s m args below meth c G Z k n S pc lv (va_rf o' :: st)) : XW p l e R s m args below meth c G Z k n S pc lv (va_rf o :: st) := h ▸ kk
theorem x_eqr {o : Option Nat} {b : Nat} (h : o = some b) (kk : XW p l e R s m args below meth c G Z k n S pc lv (.ref b :: st)) : XW p l e R s m args below meth c G Z k n S pc lv (va_rf o :: st) := by
  subst h
  exact kk
theorem x_nmi {x : Int32} (kk : ∀ y, y = x → XW p l e R s m args below meth c G Z k n S pc lv (.int y :: st)) : XW p l e R s m args below meth c G Z k n S pc lv (.int x :: st) := kk x rfl
theorem x_eqi {x : Int32} (y : Int32) (h : x = y) (kk : XW p l e R s m args below meth c G Z k n S pc lv (.int y :: st)) : XW p l e R s m args below meth c G Z k n S pc lv (.int x :: st) := h ▸ kk
theorem x_lv {lv0 : List (Option Value)} (h : lv0 = lv) (kk : XW p l e R s m args below meth c G Z k n S pc lv st) : XW p l e R s m args below meth c G Z k n S pc lv0 st := h ▸ kk
end XN
theorem x_inc_1 (x : Int32) : x + Int32.ofInt 1 = x + nI 1 := rfl
theorem x_inc_5 (x : Int32) : x + Int32.ofInt 5 = x + nI 5 := rfl
theorem x_inc_m1 (x : Int32) : x + Int32.ofInt (-1) = x + (-1) := rfl
theorem x_narq (nm : String) (o : Option Nat) : narrow (.object nm) (va_rf o) = va_rf o := by cases o <;> rfl
theorem x_fitq (nm : String) (o : Option Nat) : fits (.object nm) (va_rf o) = true := by cases o <;> rfl
theorem x_layX0 : ∀ j, j < 4 → defaultValue (tyX0 j) = vp_V (x_fl (x_lay 0) 0 (fun _ => 0) (fun _ => none)) j := by
  intro j hj
  rcases (show j = 0 ∨ j = 1 ∨ j = 2 ∨ j = 3 by omega) with rfl | rfl | rfl | rfl <;> rfl
theorem x_layX1 : ∀ j, j < 6 → defaultValue (tyX1 j) = vp_V (x_fl (x_lay 1) 0 (fun _ => 0) (fun _ => none)) j := by
  intro j hj
  rcases (show j = 0 ∨ j = 1 ∨ j = 2 ∨ j = 3 ∨ j = 4 ∨ j = 5 by omega) with rfl | rfl | rfl | rfl | rfl | rfl <;> rfl
theorem x_layX3 : ∀ j, j < 5 → defaultValue (tyX3 j) = vp_V (x_fl (x_lay 2) 0 (fun _ => 0) (fun _ => none)) j := by
  intro j hj
  rcases (show j = 0 ∨ j = 1 ∨ j = 2 ∨ j = 3 ∨ j = 4 by omega) with rfl | rfl | rfl | rfl | rfl <;> rfl
theorem x_layX4 : ∀ j, j < 2 → defaultValue (tyX4 j) = vp_V (x_fl (x_lay 3) 0 (fun _ => 0) (fun _ => none)) j := by
  intro j hj
  rcases (show j = 0 ∨ j = 1 by omega) with rfl | rfl <;> rfl
theorem x_layX5 : ∀ j, j < 6 → defaultValue (tyX5 j) = vp_V (x_fl (x_lay 4) 0 (fun _ => 0) (fun _ => none)) j := by
  intro j hj
  rcases (show j = 0 ∨ j = 1 ∨ j = 2 ∨ j = 3 ∨ j = 4 ∨ j = 5 by omega) with rfl | rfl | rfl | rfl | rfl | rfl <;> rfl
theorem x_layX6 : ∀ j, j < 4 → defaultValue (tyX6 j) = vp_V (x_fl (x_lay 5) 0 (fun _ => 0) (fun _ => none)) j := by
  intro j hj
  rcases (show j = 0 ∨ j = 1 ∨ j = 2 ∨ j = 3 by omega) with rfl | rfl | rfl | rfl <;> rfl
theorem x_layX7 : ∀ j, j < 3 → defaultValue (tyX7 j) = vp_V (x_fl (x_lay 6) 0 (fun _ => 0) (fun _ => none)) j := by
  intro j hj
  rcases (show j = 0 ∨ j = 1 ∨ j = 2 by omega) with rfl | rfl | rfl <;> rfl
theorem x_layX8 : ∀ j, j < 4 → defaultValue (tyX8 j) = vp_V (x_fl (x_lay 7) 0 (fun _ => 0) (fun _ => none)) j := by
  intro j hj
  rcases (show j = 0 ∨ j = 1 ∨ j = 2 ∨ j = 3 by omega) with rfl | rfl | rfl | rfl <;> rfl
theorem x_layX9 : ∀ j, j < 19 → defaultValue (tyX9 j) = vp_V (x_fl (x_lay 8) 0 (fun _ => 0) (fun _ => none)) j := by
  intro j hj
  rcases (show j = 0 ∨ j = 1 ∨ j = 2 ∨ j = 3 ∨ j = 4 ∨ j = 5 ∨ j = 6 ∨ j = 7 ∨ j = 8 ∨ j = 9 ∨ j = 10 ∨ j = 11 ∨ j = 12 ∨ j = 13 ∨ j = 14 ∨ j = 15 ∨ j = 16 ∨ j = 17 ∨ j = 18 by omega) with rfl | rfl | rfl | rfl | rfl | rfl | rfl | rfl | rfl | rfl | rfl | rfl | rfl | rfl | rfl | rfl | rfl | rfl | rfl <;> rfl
