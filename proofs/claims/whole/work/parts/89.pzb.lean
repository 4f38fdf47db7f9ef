theorem rise_ext {l1 l2 : List Nat} (h1 : l1.Pairwise (fun a b => a < b)) (h2 : l2.Pairwise (fun a b => a < b)) (hm : ∀ x, x ∈ l1 ↔ x ∈ l2) : l1 = l2 := by
  refine rise_eq h1 h2 ?_
  exact (List.perm_ext_iff_of_nodup (h1.imp (fun h => Nat.ne_of_lt h)) (h2.imp (fun h => Nat.ne_of_lt h))).mpr hm
theorem SRT_filter {cd : Nat → Nat} {A : Tr} (h : SRT cd A) (p : Nat → Bool) : (((ino A).filter p).map cd).Pairwise (fun a b => a < b) := List.Pairwise.sublist (List.Sublist.map _ List.filter_sublist) h
/-- some rows stay, and the tree is laid out of their nodes -/
theorem SI_drop {n : Nat} {c sp cd : Nat → Nat} {A : Tr} {al p : Nat → Bool} (h : SI n c sp cd A) (hn : n ≤ 201) (hal : ∀ i, i < n → ∀ a ∈ ino A, cd a = c i → p a = al i) :
    ((ino A).filter p).length = cn al n ∧ SI (cn al n) (fun j => c (selF al n j)) (fun j => layA 8 j 0 (cn al n) 1) cd (kdl od1 cd 8 0 ((ino A).filter p)) := by
  have hszA := SI_sz h
  obtain ⟨hR, hS, hnd, hup, hsp, hht⟩ := h
  have hu : ∀ i j, i < n → j < n → c i = c j → i = j := fun i j hi hj e => UP_inj hup hi hj e
  have hL : ((List.range n).filter al).map c = ((ino A).filter p).map cd := by
    refine rise_ext (UP_filter hup al) (SRT_filter hS p) (fun x => ?_)
    constructor
    · intro hx
      obtain ⟨i, hi, rfl⟩ := List.mem_map.mp hx
      obtain ⟨h1, h2⟩ := List.mem_filter.mp hi
      have hin := List.mem_range.mp h1
      obtain ⟨a, ha, e⟩ := (RT_pos hR hu hin).mp (hsp i hin)
      exact List.mem_map.mpr ⟨a, List.mem_filter.mpr ⟨ha, by rw [hal i hin a ha e]; exact h2⟩, e⟩
    · intro hx
      obtain ⟨a, ha, rfl⟩ := List.mem_map.mp hx
      obtain ⟨h1, h2⟩ := List.mem_filter.mp ha
      obtain ⟨k, k1, k2, k3, -⟩ := RT_row hR h1
      exact List.mem_map.mpr ⟨k, List.mem_filter.mpr ⟨List.mem_range.mpr k1, by rw [← hal k k1 a h1 k3.symm]; exact h2⟩, k3⟩
  have hlen : ((ino A).filter p).length ≤ n := by
    have := List.length_filter_le p (ino A)
    rw [ino_len, hszA] at this; exact this
  obtain ⟨l1, l2⟩ := lay_rows (U := 1) 0 (by omega) (SRT_filter hS p) hL
  have hkr : ino (kdl od1 cd 8 0 ((ino A).filter p)) = (ino A).filter p := kdl_rise 8 0 _ (by omega) (SRT_filter hS p)
  have hszk : sz (kdl od1 cd 8 0 ((ino A).filter p)) = cn al n := by rw [← ino_len, hkr, l1]
  refine ⟨l1.symm, ?_, ?_, ?_, UP_sel hup, fun i hi => layA_pos (by omega), ?_⟩
  · unfold RT
    rw [← l2, ← sel_list]
    refine List.Perm.of_eq ?_
    unfold rwl
    rw [List.filter_eq_self.mpr (fun i hi => decide_eq_true (layA_pos (by omega)))]
    refine List.map_congr_left (fun j hj => ?_)
    rw [(selF_ok (List.mem_range.mp hj)).2.2]
  · unfold SRT
    rw [hkr]; exact SRT_filter hS p
  · rw [hkr]; exact hnd.sublist List.filter_sublist
  · rw [hszk]
    exact kdl_low _ 8 0 _ (by rw [← l1]; exact bnd_pw _ (by omega))
theorem TI_sel {n : Nat} {c tu cd : Nat → Nat} {A : Tr} {al : Nat → Bool} (h : TI n c tu cd A) (hal : ∀ i, i < n → (al i = true ↔ 0 < tu i)) : TI (cn al n) (fun j => c (selF al n j)) (fun j => tu (selF al n j)) cd A := by
  obtain ⟨hR, hS, hW, hz, hn, hup⟩ := h
  refine ⟨?_, hS, hW, hz, hn, UP_sel hup⟩
  unfold RT
  rw [rwl_sel hal]; exact hR
theorem TI_ins0 {n : Nat} {c tu cd : Nat → Nat} {A : Tr} {cc : Nat} (h : TI n c tu cd A) (hn : ∀ i, i < n → c i ≠ cc) : TI (n + 1) (ins c (insP (fun k => decide (cc < c k)) n) cc) (ins tu (insP (fun k => decide (cc < c k)) n) 0) cd A := by
  obtain ⟨hR, hS, hW, hz, hnd, hup⟩ := h
  refine ⟨?_, hS, hW, hz, hnd, UP_ins hup hn⟩
  unfold RT
  rw [rwl_ins0 (insP_le _ _)]; exact hR
/-! counts of the living rows -/
theorem cn_set {al : Nat → Bool} {k : Nat} : ∀ {n : Nat}, k < n → al k = false → cn (x_up al k true) n = cn al n + 1
  | 0, h, _ => by omega
  | n + 1, h, h0 => by
    simp only [cn]
    by_cases e : k = n
    · subst e
      rw [x_up_s, h0, cn_congr (q := al) (fun i hi => x_up_n _ _ (by omega))]; simp
    · rw [x_up_n _ _ (fun z => e z.symm), cn_set (n := n) (by omega) h0]; omega
theorem cn_clr {al : Nat → Bool} {k n : Nat} (hk : k < n) (h1 : al k = true) : cn (x_up al k false) n + 1 = cn al n := by
  have h := cn_set (al := x_up al k false) hk (x_up_s _ _ _)
  rw [x_up_up] at h
  have e : x_up al k true = al := by rw [← h1]; exact x_up_id al k
  rw [e] at h
  exact h.symm
theorem map_ins {α : Type} {n a : Nat} {g : Nat → α} {v : α} (ha : a ≤ n) : (List.range (n + 1)).map (ins g a v) = ((List.range n).map g).take a ++ v :: ((List.range n).map g).drop a := by
  refine List.ext_getElem? (fun i => ?_)
  have hl : ((List.range n).map g).length = n := by simp
  by_cases h1 : i < n + 1
  · rw [List.getElem?_map, List.getElem?_range h1]
    by_cases h2 : i < a
    · rw [List.getElem?_append_left (by rw [List.length_take, hl]; omega), List.getElem?_take, if_pos h2, List.getElem?_map, List.getElem?_range (by omega)]
      simp only [Option.map_some]
      unfold ins
      rw [if_pos h2]
    · rw [List.getElem?_append_right (by rw [List.length_take, hl]; omega), List.length_take, hl, Nat.min_eq_left ha]
      by_cases h3 : i = a
      · subst h3
        rw [Nat.sub_self, Option.map_some, ins_at]; rfl
      · rw [show i - a = (i - 1 - a) + 1 by omega, List.getElem?_cons_succ, List.getElem?_drop, show a + (i - 1 - a) = i - 1 by omega, List.getElem?_map, List.getElem?_range (by omega)]
        simp only [Option.map_some]
        unfold ins
        rw [if_neg h2, if_neg h3]
  · rw [List.getElem?_eq_none (by simp; omega), List.getElem?_eq_none (by simp; omega)]
theorem cn_ins {al : Nat → Bool} {n a : Nat} {b : Bool} (ha : a ≤ n) : cn (ins al a b) (n + 1) = cn al n + (if b = true then 1 else 0) := by
  have key : ∀ (f : Nat → Bool) (m : Nat), cn f m = ((List.range m).map f).countP id := fun f m => by
    rw [cn_countP, List.countP_map]; rfl
  rw [key, key, map_ins ha, List.countP_append, List.countP_cons]
  have h2 := congrArg (List.countP id) (List.take_append_drop a ((List.range n).map al))
  rw [List.countP_append] at h2
  simp only [id]
  omega
/-! the chain of entries and the model's rows -/
def EI (n : Nat) (c : Nat → Nat) (al : Nat → Bool) (pt cd : Nat → Nat) (av : Nat → Bool) (pr : Nat → Nat) (lst : List Nat) : Prop := lst.map (fun a => (cd a, av a, pr a)) = (List.range n).map (fun i => (c i, al i, pt i))
section EI
variable {n : Nat} {c : Nat → Nat} {al : Nat → Bool} {pt cd : Nat → Nat} {av : Nat → Bool} {pr : Nat → Nat} {lst : List Nat}
theorem EI_len (h : EI n c al pt cd av pr lst) : lst.length = n := by
  have := congrArg List.length h
  simpa using this
theorem EI_get (h : EI n c al pt cd av pr lst) {i a : Nat} (ha : lst[i]? = some a) : i < n ∧ cd a = c i ∧ av a = al i ∧ pr a = pt i := by
  have hi : i < n := by
    rw [← EI_len h]; exact (List.getElem?_eq_some_iff.mp ha).1
  have h1 := congrArg (fun l => l[i]?) h
  rw [List.getElem?_map, ha, List.getElem?_map, List.getElem?_range hi] at h1
  simp only [Option.map_some, Option.some.injEq, Prod.mk.injEq] at h1
  exact ⟨hi, h1⟩
theorem EI_at (h : EI n c al pt cd av pr lst) {i : Nat} (hi : i < n) : ∃ a, lst[i]? = some a ∧ a ∈ lst ∧ cd a = c i ∧ av a = al i ∧ pr a = pt i := by
  have hl : i < lst.length := by rw [EI_len h]; exact hi
  have h1 := List.getElem?_eq_getElem hl
  exact ⟨lst[i], h1, List.getElem_mem hl, (EI_get h h1).2⟩
theorem EI_mem (h : EI n c al pt cd av pr lst) {a : Nat} (ha : a ∈ lst) : ∃ i, i < n ∧ lst[i]? = some a ∧ cd a = c i ∧ av a = al i ∧ pr a = pt i := by
  obtain ⟨i, hi⟩ := List.getElem?_of_mem ha
  have := EI_get h hi
  exact ⟨i, this.1, hi, this.2⟩
theorem ccnt_countP (f : Nat → Bool) : ∀ l : List Nat, ccnt f l = l.countP f
  | [] => rfl
  | a :: l => by
    rw [List.countP_cons, ← ccnt_countP f l]
    simp only [ccnt]; omega
theorem EI_cnt (h : EI n c al pt cd av pr lst) {f : Nat → Bool} {g : Nat → Bool} (hfg : ∀ i a, i < n → a ∈ lst → cd a = c i → av a = al i → pr a = pt i → f a = g i) : ccnt f lst = cn g n := by
  rw [ccnt_countP, cn_countP]
  have h1 : lst.map f = (List.range n).map g := by
    refine List.ext_getElem? (fun i => ?_)
    by_cases hi : i < n
    · obtain ⟨a, a1, a2, a3, a4, a5⟩ := EI_at h hi
      rw [List.getElem?_map, a1, List.getElem?_map, List.getElem?_range hi]
      simp only [Option.map_some]
      rw [hfg i a hi a2 a3 a4 a5]
    · rw [List.getElem?_eq_none (by rw [List.length_map, EI_len h]; omega), List.getElem?_eq_none (by simp; omega)]
  have h2 := congrArg (List.countP id) h1
  rw [List.countP_map, List.countP_map] at h2
  exact h2
theorem EI_upd (h : EI n c al pt cd av pr lst) {cd' : Nat → Nat} {av' al' : Nat → Bool} {pr' pt' : Nat → Nat} (hx : ∀ i a, i < n → lst[i]? = some a → cd' a = c i ∧ av' a = al' i ∧ pr' a = pt' i) : EI n c al' pt' cd' av' pr' lst := by
  unfold EI
  refine List.ext_getElem? (fun i => ?_)
  by_cases hi : i < n
  · obtain ⟨a, a1, a2, a3⟩ := EI_at h hi
    rw [List.getElem?_map, a1, List.getElem?_map, List.getElem?_range hi]
    simp only [Option.map_some]
    obtain ⟨b1, b2, b3⟩ := hx i a hi a1
    rw [b1, b2, b3]
  · rw [List.getElem?_eq_none (by rw [List.length_map, EI_len h]; omega), List.getElem?_eq_none (by simp; omega)]
theorem EI_mrg : ∀ (f j : Nat) (pr pt : Nat → Nat), EI n c al pt cd av pr lst → EI n c al (mrg (List.range n) f j pt).1 cd av (mrg lst f j pr).1 lst ∧ (mrg lst f j pr).2 = (mrg (List.range n) f j pt).2
  | 0, j, pr, pt, h => ⟨h, rfl⟩
  | f + 1, j, pr, pt, h => by
    have h1 : ccnt (fun a => decide (pr a = j)) lst = ccnt (fun i => decide (pt i = j)) (List.range n) := by
      rw [← cn_ccnt]
      exact EI_cnt h (fun i a _ _ _ _ e => by rw [e])
    by_cases e : 2 ^ j < ccnt (fun a => decide (pr a = j)) lst
    · rw [mrg_go e, mrg_go (by rw [← h1]; exact e)]
      have h2 : EI n c al (fun a => if pt a = j then j + 1 else pt a) cd av (fun a => if pr a = j then j + 1 else pr a) lst := EI_upd h (fun i a hi ha => by
        obtain ⟨-, b1, b2, b3⟩ := EI_get h ha
        exact ⟨b1, b2, by rw [b3]⟩)
      obtain ⟨i1, i2⟩ := EI_mrg f (j + 1) _ _ h2
      exact ⟨i1, by rw [i2]⟩
    · rw [mrg_stop (lst := lst) (by omega), mrg_stop (lst := List.range n) (by rw [← h1]; omega)]
      exact ⟨h, rfl⟩
theorem insC_split {f : Nat → Bool} {v : Nat} : ∀ {l : List Nat} {a : Nat}, a ≤ l.length → (∀ i x, i < a → l[i]? = some x → f x = true) → (∀ x, l[a]? = some x → f x = false) → insC f v l = l.take a ++ v :: l.drop a
  | [], a, h, _, _ => by
    have : a = 0 := by simpa using h
    subst this; rfl
  | x :: l, 0, _, _, h2 => by
    simp only [insC]
    rw [if_neg (by rw [h2 x (by simp)]; decide)]; rfl
  | x :: l, a + 1, h, h1, h2 => by
    simp only [insC]
    rw [if_pos (h1 0 x (by omega) (by simp)), insC_split (a := a) (by simpa using h) (fun i y hi hy => h1 (i + 1) y (by omega) (by simpa using hy)) (fun y hy => h2 y (by simpa using hy))]
    rfl
theorem insP_ok {n : Nat} {c : Nat → Nat} {v : Nat} (h : UP n c) (hn : ∀ i, i < n → c i ≠ v) : (∀ i, i < insP (fun k => decide (v < c k)) n → c i < v) ∧ (∀ i, insP (fun k => decide (v < c k)) n ≤ i → i < n → v < c i) := by
  have ha := insP_le (fun k => decide (v < c k)) n
  have hU := UP_ins h hn
  obtain ⟨a, ea⟩ : ∃ a, a = insP (fun k => decide (v < c k)) n := ⟨_, rfl⟩
  rw [← ea] at ha hU ⊢
  refine ⟨fun i hi => ?_, fun i hi hin => ?_⟩
  · have h1 := hU i a (by omega) (by omega)
    rw [ins_at] at h1
    unfold ins at h1
    rwa [if_pos hi] at h1
  · have h1 := hU a (i + 1) (by omega) (by omega)
    rw [ins_at] at h1
    unfold ins at h1
    rw [if_neg (by omega), if_neg (by omega), Nat.add_sub_cancel] at h1
    exact h1
theorem EI_ins (h : EI n c al pt cd av pr lst) (hup : UP n c) {cc v : Nat} (hn : ∀ i, i < n → c i ≠ cc) {cd' : Nat → Nat} {av' : Nat → Bool} {pr' : Nat → Nat} (hv : cd' v = cc ∧ av' v = true ∧ pr' v = 0) (hx : ∀ a ∈ lst, cd' a = cd a ∧ av' a = av a ∧ pr' a = pr a) :
    EI (n + 1) (ins c (insP (fun k => decide (cc < c k)) n) cc) (ins al (insP (fun k => decide (cc < c k)) n) true) (ins pt (insP (fun k => decide (cc < c k)) n) 0) cd' av' pr' (insC (fun a => decide (cd a < cc)) v lst) := by
  obtain ⟨p1, p2⟩ := insP_ok hup hn
  have ha := insP_le (fun k => decide (cc < c k)) n
  obtain ⟨a, ea⟩ : ∃ a, a = insP (fun k => decide (cc < c k)) n := ⟨_, rfl⟩
  rw [← ea] at p1 p2 ha ⊢
  have hs : insC (fun a => decide (cd a < cc)) v lst = lst.take a ++ v :: lst.drop a := by
    refine insC_split (by rw [EI_len h]; exact ha) (fun i x hi hxx => ?_) (fun x hxx => ?_)
    · obtain ⟨b0, b1, -⟩ := EI_get h hxx
      rw [b1]; exact decide_eq_true (p1 i hi)
    · obtain ⟨b0, b1, -⟩ := EI_get h hxx
      rw [b1]; exact decide_eq_false (by have := p2 a (Nat.le_refl _) b0; omega)
  have e1 : (fun i => (ins c a cc i, ins al a true i, ins pt a 0 i)) = ins (fun i => (c i, al i, pt i)) a (cc, true, 0) := by
    funext i
    unfold ins
    split
    · rfl
    · split <;> rfl
  unfold EI
  rw [e1, map_ins ha, ← (show lst.map (fun a => (cd a, av a, pr a)) = (List.range n).map (fun i => (c i, al i, pt i)) from h), hs, List.map_append, List.map_cons, hv.1, hv.2.1, hv.2.2, ← List.map_take, ← List.map_drop]
  congr 1
  · exact List.map_congr_left (fun x hxx => by obtain ⟨b1, b2, b3⟩ := hx x (List.mem_of_mem_take hxx); rw [b1, b2, b3])
  · congr 1
    exact List.map_congr_left (fun x hxx => by obtain ⟨b1, b2, b3⟩ := hx x (List.mem_of_mem_drop hxx); rw [b1, b2, b3])
theorem EI_fil (h : EI n c al pt cd av pr lst) : (lst.filter av).map (fun a => (cd a, av a, pr a)) = (List.range (cn al n)).map (fun j => (c (selF al n j), al (selF al n j), pt (selF al n j))) := by
  rw [sel_list (fun i => (c i, al i, pt i)) n]
  have h1 := congrArg (List.filter (fun x => x.2.1)) h
  rw [List.filter_map, List.filter_map] at h1
  exact h1
theorem dls_9 {n : Nat} (h : n < 256) : dls n 9 = dls n 8 := by
  simp only [dls]
  rw [if_neg (by omega)]; rfl
theorem EI_drop (h : EI n c al pt cd av pr lst) (hn : n < 256) {pr' : Nat → Nat} {av' : Nat → Bool} (hav : ∀ a ∈ lst.filter av, av' a = true) (hp : ∀ i a, (lst.filter av)[i]? = some a → pr' a = (dls (lst.filter av).length 9).getD i 0) :
    (lst.filter av).length = cn al n ∧ EI (cn al n) (fun j => c (selF al n j)) (fun _ => true) (fun j => (dls (cn al n) 8).getD j 0) cd av' pr' (lst.filter av) := by
  have h1 := EI_fil h
  have hl : (lst.filter av).length = cn al n := by
    have := congrArg List.length h1
    simpa using this
  have h2 : EI (cn al n) (fun j => c (selF al n j)) (fun j => al (selF al n j)) (fun j => pt (selF al n j)) cd av pr (lst.filter av) := h1
  refine ⟨hl, EI_upd h2 (fun i a hi ha => ?_)⟩
  obtain ⟨-, b1, -, -⟩ := EI_get h2 ha
  have hc := cn_le al n
  exact ⟨b1, hav a (List.mem_of_getElem? ha), by rw [hp i a ha, hl, dls_9 (by omega)]⟩
theorem nths_fil (g : Nat → Bool) {j : Nat} (hj : j < 2 ^ 31) : ∀ (l : List Nat) (s : Nat), s ≤ j → nths g (nI j) l s = (l.filter g)[j - s]?
  | [], s, _ => by simp [nths]
  | a :: l, s, hs => by
    simp only [nths, List.filter_cons]
    by_cases e : g a = true
    · rw [if_pos e, if_pos e]
      by_cases e2 : s = j
      · subst e2
        rw [if_pos rfl, Nat.sub_self]; rfl
      · rw [if_neg (fun z => e2 ((nI_eq (by omega) (by omega)).mp z)), nths_fil g hj l (s + 1) (by omega), show j - s = (j - (s + 1)) + 1 by omega, List.getElem?_cons_succ]
    · rw [if_neg e, if_neg e, nths_fil g hj l s hs]
theorem ccw_cnt {f g : Nat → Bool} : ∀ {l : List Nat}, l.Pairwise (fun a b => f b = true → f a = true) → ccw f g l = ccnt (fun a => g a && f a) l
  | [], _ => rfl
  | a :: l, h => by
    rw [List.pairwise_cons] at h
    simp only [ccw, ccnt]
    by_cases e : f a = true
    · rw [if_pos e, ccw_cnt h.2]
      simp [e]
    · rw [if_neg e]
      have e2 : ∀ b ∈ l, (g b && f b) = false := fun b hb => by
        cases ef : f b with
        | false => simp
        | true => exact absurd (h.1 b hb ef) e
      rw [ccnt_countP, List.countP_eq_zero.mpr (fun b hb => by rw [e2 b hb]; decide)]
      have e3 : f a = false := by simpa using e
      simp [e3]
end EI
