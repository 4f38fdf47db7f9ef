/-! the scapegoat tree of the class and the model's rows -/
theorem rise_eq {l1 l2 : List Nat} (h1 : l1.Pairwise (fun a b => a < b)) (h2 : l2.Pairwise (fun a b => a < b)) (hp : l1.Perm l2) : l1 = l2 :=
  hp.eq_of_pairwise (le := fun a b => a < b) (fun a b _ _ h3 h4 => by exfalso; have h5 : a < b := h3; have h6 : b < a := h4; omega) h1 h2
theorem kdl_rise {cd : Nat → Nat} : ∀ (f d : Nat) (lst : List Nat), lst.length < 2 ^ f → (lst.map cd).Pairwise (fun a b => a < b) → ino (kdl od1 cd f d lst) = lst
  | 0, d, lst, h, _ => by
    have : lst = [] := by cases lst with | nil => rfl | cons a l => simp at h
    subst this; rfl
  | f + 1, d, lst, h, hs => by
    simp only [kdl]
    by_cases h0 : lst = []
    · rw [if_pos h0, h0]; rfl
    · rw [if_neg h0]
      have hl : 0 < lst.length := by cases lst with | nil => exact absurd rfl h0 | cons a l => simp
      obtain ⟨m, em⟩ : ∃ m, m = lst.length / 2 := ⟨_, rfl⟩
      rw [msr_rise hs, ← em]
      have hm : m < lst.length := by omega
      have e1 : (lst.take m).length = m := by rw [List.length_take]; omega
      have e2 : (lst.drop (m + 1)).length = lst.length - m - 1 := by rw [List.length_drop]; omega
      have s1 : ((lst.take m).map cd).Pairwise (fun a b => a < b) := hs.sublist (List.Sublist.map _ (List.take_sublist _ _))
      have s2 : ((lst.drop (m + 1)).map cd).Pairwise (fun a b => a < b) := hs.sublist (List.Sublist.map _ (List.drop_sublist _ _))
      simp only [ino]
      rw [kdl_rise f (d + 1) (lst.take m) (by rw [e1, em]; exact half_lt h) s1, kdl_rise f (d + 1) (lst.drop (m + 1)) (by rw [e2]; have := half_lt2 h hl; omega) s2]
      rw [List.getD_eq_getElem?_getD, List.getElem?_eq_getElem hm]
      simp
theorem UP_filter {n : Nat} {c : Nat → Nat} (h : UP n c) (b : Nat → Bool) : (((List.range n).filter b).map c).Pairwise (fun x y => x < y) := by
  rw [List.pairwise_map]
  have h1 : (List.range n).Pairwise (fun a b => c a < c b) := by
    rw [List.pairwise_iff_getElem]
    intro i j hi hj hij
    simp only [List.length_range] at hi hj
    rw [List.getElem_range, List.getElem_range]
    exact h i j hij hj
  exact h1.sublist List.filter_sublist
theorem lay_rows {n U : Nat} {b : Nat → Bool} {c cd : Nat → Nat} {ls : List Nat} (d : Nat) (h8 : ls.length < 2 ^ 8) (hs : (ls.map cd).Pairwise (fun a b => a < b)) (hL : ((List.range n).filter b).map c = ls.map cd) :
    cn b n = ls.length ∧ ((List.range n).filter b).map (fun i => (c i, layA 8 (cn b i) 0 (cn b n) U)) = plc cd (kdl od1 cd 8 d ls) U := by
  have hl : cn b n = ls.length := by
    have := congrArg List.length hL
    rw [List.length_map, List.length_map, ← List.countP_eq_length_filter, ← cn_countP] at this
    exact this
  refine ⟨hl, ?_⟩
  rw [plc_kdl 8 d ls U h8 hs, ← sel_list, hl]
  refine List.map_congr_left (fun t ht => ?_)
  have ht2 := List.mem_range.mp ht
  obtain ⟨-, -, s3⟩ := selF_ok (al := b) (n := n) (j := t) (by omega)
  rw [s3]
  congr 1
  have h1 := congrArg (fun l => l[t]?) hL
  rw [← sel_list, List.getElem?_map, List.getElem?_range (by omega), List.getElem?_map, List.getElem?_eq_getElem ht2] at h1
  simp only [Option.map_some, Option.some.injEq] at h1
  rw [h1, List.getD_eq_getElem?_getD, List.getElem?_eq_getElem ht2]; rfl
theorem rwl_split {n : Nat} {c f : Nat → Nat} (U : Nat) (hU : 0 < U) (g : Nat → Nat) (hg : ∀ i, bel (f i) U = true → 0 < g i) : (rwl n c (fun i => if bel (f i) U = true then g i else f i)).Perm ((rwl n c f).filter (fun x => !bel x.2 U) ++ ((List.range n).filter (fun i => bel (f i) U)).map (fun i => (c i, g i))) := by
  induction n with
  | zero => exact List.Perm.refl _
  | succ n ih =>
    rw [rwl_succ, rwl_succ, List.range_succ, List.filter_append, List.filter_append, List.map_append]
    by_cases e : bel (f n) U = true
    · have hf : 0 < f n := by
        have := bel_ge e; omega
      rw [if_pos e, if_pos (hg n e), if_pos hf]
      simp only [List.filter_cons, e, if_true, List.filter_nil, List.map_cons, List.map_nil, Bool.not_true, Bool.false_eq_true, if_false, List.append_nil]
      rw [← List.append_assoc]
      exact ih.append_right _
    · rw [if_neg e]
      have e2 : bel (f n) U = false := by simpa using e
      simp only [List.filter_cons, e2, Bool.false_eq_true, if_false, List.filter_nil, List.map_nil, List.append_nil]
      have e3 : ((if 0 < f n then [(c n, f n)] else []) : List (Nat × Nat)).filter (fun x => !bel x.2 U) = if 0 < f n then [(c n, f n)] else [] := by
        split
        · simp [List.filter_cons, e2]
        · rfl
      rw [e3]
      refine (ih.append_right _).trans ?_
      rw [List.append_assoc, List.append_assoc]
      exact List.perm_append_comm.append_left _
theorem layA_pos : ∀ {f b low n U : Nat}, 0 < U → 0 < layA f b low n U
  | 0, _, _, _, _, h => h
  | f + 1, b, low, n, U, h => by
    simp only [layA]
    split
    · exact h
    · split
      · exact layA_pos (by omega)
      · exact layA_pos (by omega)
/-- a subtree laid out anew -/
theorem RT_lay {n : Nat} {c f cd : Nat → Nat} {F : List Fr} {S : Tr} (d : Nat) (h : RT n c f cd (plug F S)) (hup : UP n c) (hS : SRT cd S) (h8 : sz S < 2 ^ 8) :
    cn (fun i => bel (f i) (hpl F 1)) n = sz S ∧ RT n c (fun i => if bel (f i) (hpl F 1) = true then layA 8 (cn (fun j => bel (f j) (hpl F 1)) i) 0 (cn (fun j => bel (f j) (hpl F 1)) n) (hpl F 1) else f i) cd (plug F (kdl od1 cd 8 d (ino S))) := by
  have hU := hpl_pos F (p := 1) (by omega)
  obtain ⟨U, eU⟩ : ∃ U, U = hpl F 1 := ⟨_, rfl⟩
  have hL : ((List.range n).filter (fun i => bel (f i) U)).map c = (ino S).map cd := by
    refine rise_eq (UP_filter hup _) hS ?_
    have h1 : (((rwl n c f).filter (fun x => bel x.2 U)).map Prod.fst).Perm (((plc cd (plug F S) 1).filter (fun x => bel x.2 U)).map Prod.fst) := (h.filter _).map _
    have e1 : ((rwl n c f).filter (fun x => bel x.2 U)).map Prod.fst = ((List.range n).filter (fun i => bel (f i) U)).map c := by
      unfold rwl
      rw [List.filter_map, List.map_map, List.filter_filter]
      congr 1
      refine List.filter_congr (fun i _ => ?_)
      simp only [Function.comp]
      cases e : bel (f i) U with
      | false => rfl
      | true => have := bel_ge e; simp; omega
    rw [e1] at h1
    refine h1.trans ?_
    refine (((plc_plug cd S F 1).filter _).map _).trans ?_
    rw [List.filter_append, List.filter_eq_nil_iff.mpr (fun x hx => by rw [eU, pfr_nb (by omega) x hx]; decide), List.nil_append, List.filter_eq_self.mpr (fun x hx => by rw [eU]; exact plc_bel hU x hx), plc_fst]
  obtain ⟨l1, l2⟩ := lay_rows (U := U) d (by rw [ino_len]; exact h8) hS hL
  rw [← eU]
  refine ⟨by rw [l1, ino_len], ?_⟩
  unfold RT
  refine (rwl_split U (by rw [eU]; exact hU) (fun i => layA 8 (cn (fun j => bel (f j) U) i) 0 (cn (fun j => bel (f j) U) n) U) (fun i _ => layA_pos (by rw [eU]; exact hU))).trans ?_
  rw [l2]
  refine List.Perm.trans ?_ (plc_plug cd _ F 1).symm
  rw [← eU]
  refine List.Perm.append_right _ ?_
  refine (h.filter _).trans ?_
  refine ((plc_plug cd S F 1).filter _).trans ?_
  rw [List.filter_append, List.filter_eq_self.mpr (fun x hx => by rw [eU, pfr_nb (by omega) x hx]; rfl), ← eU, List.filter_eq_nil_iff.mpr (fun x hx => by rw [plc_bel (by rw [eU]; exact hU) x hx]; decide), List.append_nil]
/-! upwards to the first that is too deep -/
theorem upW_scw {ok : Nat → Bool} {w u : Nat → Nat} {ld : Nat} : ∀ (j f : Nat), j ≤ f → (∀ i, i ≤ j → ok (u i) = decide (ld - i ≤ bnd (w i))) → (∀ i, i < j → u (i + 1) / 2 = u i) → bnd (w 0) < ld → ∃ k, k ≤ j ∧ upW ok f (u j) = u k ∧ scw w ld (j + 1) = some k ∧ bnd (w k) < ld - k
  | 0, f, _, h1, _, h0 => by
    refine ⟨0, Nat.le_refl _, upW_stop (by rw [h1 0 (Nat.le_refl _)]; exact decide_eq_false (by omega)), ?_, by omega⟩
    simp only [scw]
    rw [if_pos (by omega)]
  | j + 1, f, hf, h1, h2, h0 => by
    by_cases e : bnd (w (j + 1)) < ld - (j + 1)
    · refine ⟨j + 1, Nat.le_refl _, upW_stop (by rw [h1 _ (Nat.le_refl _)]; exact decide_eq_false (by omega)), ?_, e⟩
      simp only [scw]
      rw [if_pos e]
    · obtain ⟨fv, rfl⟩ : ∃ fv, f = fv + 1 := ⟨f - 1, by omega⟩
      obtain ⟨k, k1, k2, k3, k4⟩ := upW_scw (ok := ok) (w := w) (u := u) (ld := ld) j fv (by omega) (fun i hi => h1 i (by omega)) (fun i hi => h2 i (by omega)) h0
      refine ⟨k, by omega, ?_, ?_, k4⟩
      · rw [upW_go (by rw [h1 _ (Nat.le_refl _)]; exact decide_eq_true (by omega)), h2 j (by omega)]; exact k2
      · rw [scw, if_neg e]; exact k3
theorem bnd_up1 : ∀ m, m < 255 → bnd m ≤ bnd (m + 1) := by decide +kernel
theorem bnd_pw : ∀ m, m < 255 → m < 2 ^ (bnd m + 1) := by decide +kernel
theorem bnd_201 : ∀ m, m < 255 → bnd m ≤ 13 := by decide +kernel
/-- the scapegoat tree of the class and the model's rows -/
def SI (n : Nat) (c sp cd : Nat → Nat) (A : Tr) : Prop := RT n c sp cd A ∧ SRT cd A ∧ (ino A).Nodup ∧ UP n c ∧ (∀ i, i < n → 0 < sp i) ∧ ht A ≤ bnd (sz A) + 1
theorem RT_full {n : Nat} {c f cd : Nat → Nat} {A : Tr} (h : RT n c f cd A) (hp : ∀ i, i < n → 0 < f i) : sz A = n := by
  have h1 := h.length_eq
  rw [plc_len] at h1
  unfold rwl at h1
  rw [List.length_map, List.filter_eq_self.mpr (fun i hi => decide_eq_true (hp i (List.mem_range.mp hi))), List.length_range] at h1
  exact h1.symm
theorem SI_sz {n : Nat} {c sp cd : Nat → Nat} {A : Tr} (h : SI n c sp cd A) : sz A = n := RT_full h.1 h.2.2.2.2.1
theorem SI_add {n : Nat} {c sp cd : Nat → Nat} {A : Tr} {cc v : Nat} (h : SI n c sp cd A) (hn : n ≤ 200) (hv : v ∉ ino A) (hcode : ∀ a ∈ ino A, cd a ≠ cc) :
    leafW (fun p => lastF (fun i => decide (sp i = p)) n) (fun j => decide (cc < c j)) 28 1 = some (hpl (fpF cd cc A) 1) ∧ 0 < hpl (fpF cd cc A) 1 ∧ hpl (fpF cd cc A) 1 < 2 ^ 20 ∧
    SI (n + 1) (ins c (insP (fun k => decide (cc < c k)) n) cc) (grS (n + 1) (ins sp (insP (fun k => decide (cc < c k)) n) (hpl (fpF cd cc A) 1)) (insP (fun k => decide (cc < c k)) n)) (x_up cd v cc) (rebt od1 (x_up cd v cc) cc (insA od1 cd cc v A 0) (rdep1 (x_up cd v cc) cc (insA od1 cd cc v A 0) (spath od1 cd cc A 0).length)) ∧
    grW (n + 1) (ins sp (insP (fun k => decide (cc < c k)) n) (hpl (fpF cd cc A) 1)) (insP (fun k => decide (cc < c k)) n) = rebw od1 (x_up cd v cc) cc (insA od1 cd cc v A 0) (rdep1 (x_up cd v cc) cc (insA od1 cd cc v A 0) (spath od1 cd cc A 0).length) := by
  have hszA := SI_sz h
  obtain ⟨hR, hS, hnd, hup, hsp, hht⟩ := h
  have hb := bnd_201 (sz A) (by omega)
  obtain ⟨a, ea⟩ : ∃ a, a = insP (fun k => decide (cc < c k)) n := ⟨_, rfl⟩
  have ha : a ≤ n := by rw [ea]; exact insP_le _ _
  obtain ⟨F, eF⟩ : ∃ F, F = fpF cd cc A := ⟨_, rfl⟩
  obtain ⟨X, eX⟩ : ∃ X : Tr, X = .branch v (.leaf ()) (.leaf ()) := ⟨_, rfl⟩
  obtain ⟨cd1, ec⟩ : ∃ cd1, cd1 = x_up cd v cc := ⟨_, rfl⟩
  obtain ⟨A1, eA1⟩ : ∃ A1, A1 = insA od1 cd cc v A 0 := ⟨_, rfl⟩
  obtain ⟨p1, p2⟩ := insA_plug (od := od1) (v := v) A 0 hcode
  rw [fpG_1, ← eF] at p1 p2
  rw [← eA1, ← eX] at p1
  have hld := fpG_spath (od := od1) A 0 hcode
  rw [fpG_1, ← eF] at hld
  have hleaf := leaf_ok (lt := fun j => decide (cc < c j)) (fun j _ => rfl) A [] 28 hR hcode (by omega)
  simp only [List.nil_append] at hleaf
  rw [← eF] at hleaf
  have hFl := plug_ht F (.leaf ())
  rw [p2] at hFl
  simp only [ht] at hFl
  have hvF : v ∉ fad F := fun hm => hv (by rw [← p2]; exact (plug_ino F _).mem_iff.mpr (List.mem_append_left _ hm))
  have cdv : ∀ q ∈ ino A, cd1 q = cd q := fun q hq => by rw [ec]; exact x_up_n _ _ (fun e => hv (e ▸ hq))
  have cdF : ∀ q ∈ fad F, cd1 q = cd q := fun q hq => cdv q (by rw [← p2]; exact (plug_ino F _).mem_iff.mpr (List.mem_append_left _ hq))
  have hpp := hpl_pos F (p := 1) (by omega)
  have hR1 : RT (n + 1) (ins c a cc) (ins sp a (hpl F 1)) cd1 A1 := by
    unfold RT
    refine (rwl_ins ha hpp).trans ?_
    rw [p1]
    refine List.Perm.trans ?_ (plc_plug cd1 X F 1).symm
    have h1 := hR
    unfold RT at h1
    rw [← p2] at h1
    have h2 := h1.trans (plc_plug cd _ F 1)
    simp only [plc, List.append_nil] at h2
    rw [eX]
    simp only [plc, List.nil_append]
    rw [pfr_cd cdF, show cd1 v = cc by rw [ec, x_up_s]]
    exact (h2.cons _).trans (List.perm_append_singleton _ _).symm
  have hup1 : UP (n + 1) (ins c a cc) := by
    rw [ea]
    refine UP_ins hup (fun i hi e => ?_)
    obtain ⟨q, hq, e2⟩ := (RT_pos hR (fun i j hi hj e => UP_inj hup hi hj e) hi).mp (hsp i hi)
    exact hcode q hq (e2.trans e)
  have hsp1 : ∀ i, i < n + 1 → 0 < ins sp a (hpl F 1) i := ins_bp hsp hpp ha
  have hS1 : SRT cd1 A1 := by
    have h1 : fpF cd1 cc A = F := by rw [eF]; exact fpF_cd cdv
    have h2 := SRT_ins (v := v) (SRT_cd hS cdv) (fun q hq => by rw [cdv q hq]; exact hcode q hq) (by rw [ec]; exact x_up_s _ _ _)
    rw [h1, ← eX, ← p1] at h2
    exact h2
  have hnd1 : (ino A1).Nodup := by rw [eA1]; exact insA_nodup A 0 hnd hv
  have hsz1 : sz A1 = n + 1 := by rw [eA1, insA_sz, hszA]
  have hX1 : ht X = 1 := by rw [eX]; rfl
  have hht1 : ht A1 ≤ max (ht A) (F.length + 1) := by
    have h9 := ht_plug_max F (.leaf ()) X
    rw [p2, hX1, ← p1] at h9
    exact h9
  have hbu : bnd (sz A) ≤ bnd (n + 1) := by rw [hszA]; exact bnd_up1 n (by omega)
  have hat : ins sp a (hpl F 1) a = hpl F 1 := ins_at
  have hdep : dep (hpl F 1) = F.length := by rw [hpl_dep F (by omega), dep_one]; omega
  have hpl20 : hpl F 1 < 2 ^ 20 := by
    have h1 := RT_lt hR1 (k := 20) (by omega) a (by omega)
    rwa [hat] at h1
  rw [← ea, ← eF, ← ec, ← eA1, hld]
  refine ⟨hleaf, hpp, hpl20, ?_⟩
  have hFOL : FOL od1 cd1 cc F 0 := by
    have h1 := fpG_FOL (od := od1) (cd := cd) (c := cc) A 0
    rw [fpG_1, ← eF] at h1
    exact FOL_cd h1 cdF
  by_cases c1 : F.length ≤ bnd (n + 1)
  · have e1 : rdep1 cd1 cc A1 F.length = none := by unfold rdep1; rw [if_pos (by rw [hsz1]; exact c1)]
    have e2 : grS (n + 1) (ins sp a (hpl F 1)) a = ins sp a (hpl F 1) := by
      funext i
      unfold grS
      rw [if_neg (by rw [hat, hdep]; omega)]
    rw [e1, e2]
    refine ⟨⟨hR1, hS1, hnd1, hup1, hsp1, ?_⟩, ?_⟩
    · show ht A1 ≤ bnd (sz A1) + 1
      rw [hsz1]; omega
    · unfold grW
      rw [if_neg (by rw [hat, hdep]; omega)]; rfl
  · obtain ⟨ld, eld⟩ : ∃ ld, F.length = ld + 1 := ⟨F.length - 1, by omega⟩
    have hw : ∀ i, i ≤ F.length → subp od1 cd1 cc A1 0 i = plug (F.drop i) X := fun i hi => by rw [p1]; exact subp_plug hFOL hi
    have hsplit : ∀ i, A1 = plug (F.take i) (plug (F.drop i) X) := fun i => by rw [p1]; exact plug_td F X i
    have hcnt : ∀ i, i ≤ F.length → cn (fun j => bel (ins sp a (hpl F 1) j) (hpl (F.take i) 1)) (n + 1) = sz (plug (F.drop i) X) := fun i hi => by
      have h1 := hR1
      rw [hsplit i] at h1
      have h2 := RT_hole h1
      unfold cnW at h2
      rw [← h2]
      exact cn_congr (fun j hj => by rw [decide_eq_true (hsp1 j hj), Bool.true_and])
    have hdu : ∀ i, i ≤ F.length → dep (hpl (F.take i) 1) = i := fun i hi => by
      rw [hpl_dep _ (by omega), dep_one, List.length_take]; omega
    obtain ⟨k, k1, k2, k3, k4⟩ := upW_scw (ok := fun u => decide (dep (ins sp a (hpl F 1) a) - dep u ≤ bnd (cn (fun j => bel (ins sp a (hpl F 1) j) u) (n + 1)))) (w := fun j => sz (subp od1 cd1 cc A1 0 j)) (u := fun i => hpl (F.take i) 1) (ld := F.length) ld 20 (by omega) (fun i hi => by
        rw [hat, hdep, hdu i (by omega), hcnt i (by omega), hw i (by omega)]) (fun i hi => hpl_half (by omega)) (by
        rw [hw 0 (by omega)]
        simp only [List.drop_zero]
        rw [← p1, hsz1]; omega)
    have hU : grU (n + 1) (ins sp a (hpl F 1)) a = hpl (F.take k) 1 := by
      unfold grU
      rw [← k2]
      congr 1
      rw [hat]
      have h9 := hpl_half (F := F) (j := ld) (by omega)
      rw [← h9, List.take_of_length_le (by omega)]
    have e1 : rdep1 cd1 cc A1 F.length = some k := by
      unfold rdep1
      rw [if_neg (by rw [hsz1]; exact c1), scw, if_neg (by omega)]
      rw [← eld] at k3
      exact k3
    obtain ⟨S, eS⟩ : ∃ S, S = plug (F.drop k) X := ⟨_, rfl⟩
    have hsk := hsplit k
    rw [← eS] at hsk
    have hszS : sz S ≤ n + 1 := by
      have h9 := sz_plug (F.take k) S
      rw [← hsk, hsz1] at h9; omega
    have hR2 := hR1
    rw [hsk] at hR2
    have hSS : SRT cd1 S := by
      have h9 := hS1
      rw [hsk] at h9
      exact SRT_plug h9
    obtain ⟨l1, l2⟩ := RT_lay (F := F.take k) k hR2 hup1 hSS (by omega)
    have hdeep : bnd (n + 1) < dep (ins sp a (hpl F 1) a) := by rw [hat, hdep]; omega
    have e2 : grS (n + 1) (ins sp a (hpl F 1)) a = fun i => if bel (ins sp a (hpl F 1) i) (hpl (F.take k) 1) = true then layA 8 (cn (fun j => bel (ins sp a (hpl F 1) j) (hpl (F.take k) 1)) i) 0 (cn (fun j => bel (ins sp a (hpl F 1) j) (hpl (F.take k) 1)) (n + 1)) (hpl (F.take k) 1) else ins sp a (hpl F 1) i := by
      funext i
      unfold grS
      rw [if_pos hdeep, hU]
    have e3 : rebt od1 cd1 cc A1 (some k) = plug (F.take k) (kdl od1 cd1 8 k (ino S)) := by
      show updp od1 cd1 cc (kdl od1 cd1 8 k (ino (subp od1 cd1 cc A1 0 k))) A1 0 k = _
      rw [hw k (by omega), ← eS, p1]
      exact updp_plug hFOL (by omega)
    have hkr : ino (kdl od1 cd1 8 k (ino S)) = ino S := kdl_rise 8 k _ (by rw [ino_len]; omega) hSS
    have hino : ino (plug (F.take k) (kdl od1 cd1 8 k (ino S))) = ino A1 := by rw [hsk, plug_ino_e, plug_ino_e, hkr]
    have hszk : sz (plug (F.take k) (kdl od1 cd1 8 k (ino S))) = n + 1 := by rw [← ino_len, hino, ino_len, hsz1]
    rw [e1, e2, e3]
    refine ⟨⟨l2, ?_, ?_, hup1, ?_, ?_⟩, ?_⟩
    · unfold SRT
      rw [hino]; exact hS1
    · rw [hino]; exact hnd1
    · intro i hi
      simp only []
      split
      · exact layA_pos (hpl_pos _ (by omega))
      · exact hsp1 i hi
    · rw [hszk]
      have h1 := ht_plug_max (F.take k) (plug (F.drop k) (.leaf ())) (kdl od1 cd1 8 k (ino S))
      rw [← plug_td, p2, List.length_take] at h1
      have h2 := kdl_low (od := od1) (cd := cd1) (bnd (sz S) + 1) 8 k (ino S) (by rw [ino_len]; exact bnd_pw _ (by omega))
      have h3 : bnd (sz S) < F.length - k := by
        have h9 := k4
        rw [hw k (by omega), ← eS] at h9
        exact h9
      omega
    · unfold grW
      rw [if_pos hdeep, hU, l1]
      show sz S = sz (subp od1 cd1 cc A1 0 k)
      rw [hw k (by omega), ← eS]
