def rowl (n : Nat) (c f : Nat → Nat) : List (Nat × Nat) := (List.range n).map (fun i => (c i, f i))
theorem rwl_rowl (n : Nat) (c f : Nat → Nat) : rwl n c f = (rowl n c f).filter (fun x => decide (0 < x.2)) := by
  unfold rwl rowl
  rw [List.filter_map]
  rfl
theorem rowl_get {n : Nat} {c f : Nat → Nat} {i : Nat} (h : i < n) : (rowl n c f)[i]? = some (c i, f i) := by
  unfold rowl
  rw [List.getElem?_map, List.getElem?_range h]
  rfl
theorem rowl_len (n : Nat) (c f : Nat → Nat) : (rowl n c f).length = n := by simp [rowl]
theorem rowl_ins {n a : Nat} {c f : Nat → Nat} {v p : Nat} (ha : a ≤ n) : rowl (n + 1) (ins c a v) (ins f a p) = (rowl n c f).take a ++ (v, p) :: (rowl n c f).drop a := by
  refine List.ext_getElem? (fun i => ?_)
  by_cases h1 : i < n + 1
  · rw [rowl_get h1]
    by_cases h2 : i < a
    · rw [List.getElem?_append_left (by rw [List.length_take, rowl_len]; omega), List.getElem?_take, if_pos h2, rowl_get (by omega)]
      unfold ins
      rw [if_pos h2, if_pos h2]
    · rw [List.getElem?_append_right (by rw [List.length_take, rowl_len]; omega), List.length_take, rowl_len, Nat.min_eq_left ha]
      by_cases h3 : i = a
      · subst h3
        rw [Nat.sub_self, ins_at, ins_at]; rfl
      · rw [show i - a = (i - 1 - a) + 1 by omega, List.getElem?_cons_succ, List.getElem?_drop, show a + (i - 1 - a) = i - 1 by omega, rowl_get (by omega)]
        unfold ins
        rw [if_neg h2, if_neg h3, if_neg h2, if_neg h3]
  · rw [List.getElem?_eq_none (by rw [rowl_len]; omega), List.getElem?_eq_none (by simp [rowl_len]; omega)]
theorem rwl_ins0 {n a : Nat} {c f : Nat → Nat} {v : Nat} (ha : a ≤ n) : rwl (n + 1) (ins c a v) (ins f a 0) = rwl n c f := by
  rw [rwl_rowl, rowl_ins ha, List.filter_append, List.filter_cons, if_neg (by simp), ← List.filter_append, List.take_append_drop, ← rwl_rowl]
theorem rwl_ins {n a : Nat} {c f : Nat → Nat} {v p : Nat} (ha : a ≤ n) (hp : 0 < p) : (rwl (n + 1) (ins c a v) (ins f a p)).Perm ((v, p) :: rwl n c f) := by
  rw [rwl_rowl, rowl_ins ha, List.filter_append, List.filter_cons, if_pos (by simpa using hp)]
  refine List.perm_middle.trans ?_
  rw [← List.filter_append, List.take_append_drop, ← rwl_rowl]
theorem UP_ins {n : Nat} {c : Nat → Nat} {v : Nat} (h : UP n c) (hn : ∀ i, i < n → c i ≠ v) : UP (n + 1) (ins c (insP (fun k => decide (v < c k)) n) v) := by
  obtain ⟨a, ea⟩ : ∃ a, a = insP (fun k => decide (v < c k)) n := ⟨_, rfl⟩
  have ha : a ≤ n := by rw [ea]; exact insP_le _ _
  have hs : ∀ m, m ≤ n → (∀ i, i < insP (fun k => decide (v < c k)) m → i < m → c i < v) ∧ (∀ i, insP (fun k => decide (v < c k)) m ≤ i → i < m → v < c i) := by
    intro m
    induction m with
    | zero => intro _; exact ⟨fun i _ h => by omega, fun i _ h => by omega⟩
    | succ m ih =>
      intro hm
      obtain ⟨i1, i2⟩ := ih (by omega)
      simp only [insP]
      by_cases e : v < c m
      · rw [if_pos (decide_eq_true e)]
        refine ⟨fun i h1 h2 => i1 i h1 (by have := insP_le (fun k => decide (v < c k)) m; omega), fun i h1 h2 => ?_⟩
        by_cases e2 : i = m
        · rw [e2]; exact e
        · exact i2 i h1 (by omega)
      · rw [if_neg (by simp [e])]
        refine ⟨fun i h1 h2 => ?_, fun i h1 h2 => by omega⟩
        have h3 := hn m (by omega)
        by_cases e2 : i = m
        · rw [e2]; omega
        · have := h i m (by omega) (by omega); omega
  obtain ⟨s1, s2⟩ := hs n (Nat.le_refl _)
  rw [← ea] at s1 s2 ⊢
  intro i j hij hj
  unfold ins
  by_cases h1 : i < a
  · rw [if_pos h1]
    by_cases h2 : j < a
    · rw [if_pos h2]; exact h i j hij (by omega)
    · rw [if_neg h2]
      have := s1 i h1 (by omega)
      by_cases h3 : j = a
      · rw [if_pos h3]; exact this
      · rw [if_neg h3]; have := s2 (j - 1) (by omega) (by omega); omega
  · rw [if_neg h1]
    by_cases h2 : i = a
    · rw [if_pos h2, if_neg (by omega), if_neg (by omega)]; exact s2 (j - 1) (by omega) (by omega)
    · rw [if_neg h2, if_neg (by omega), if_neg (by omega)]; exact h _ _ (by omega) (by omega)
/-- the living rows, one behind the other -/
theorem sel_list {al : Nat → Bool} {α : Type} (g : Nat → α) : ∀ n, (List.range (cn al n)).map (fun j => g (selF al n j)) = ((List.range n).filter al).map g
  | 0 => rfl
  | n + 1 => by
    rw [List.range_succ, List.filter_append, List.map_append, ← sel_list g n]
    by_cases e : al n = true
    · have e1 : cn al (n + 1) = cn al n + 1 := by simp [cn, e]
      rw [e1, List.range_succ, List.map_append]
      congr 1
      · refine List.map_congr_left (fun j hj => ?_)
        have hj2 := List.mem_range.mp hj
        simp only [selF]
        rw [if_neg (fun z => by omega)]
      · simp [selF, e]
    · have e1 : cn al (n + 1) = cn al n := by simp [cn, e]
      rw [e1]
      simp only [List.filter_cons, e, Bool.false_eq_true, if_false, List.filter_nil, List.map_nil, List.append_nil]
      refine List.map_congr_left (fun j hj => ?_)
      simp only [selF]
      rw [if_neg (fun z => e z.1)]
theorem rwl_sel {n : Nat} {al : Nat → Bool} {c f : Nat → Nat} (h : ∀ i, i < n → (al i = true ↔ 0 < f i)) : rwl (cn al n) (fun j => c (selF al n j)) (fun j => f (selF al n j)) = rwl n c f := by
  rw [rwl_rowl]
  unfold rowl
  rw [sel_list (fun i => (c i, f i)) n]
  unfold rwl
  rw [List.filter_eq_self.mpr]
  · congr 1
    refine List.filter_congr (fun i hi => ?_)
    have := h i (List.mem_range.mp hi)
    rw [Bool.eq_iff_iff, this, decide_eq_true_iff]
  · intro x hx
    obtain ⟨i, hi, rfl⟩ := List.mem_map.mp hx
    obtain ⟨h1, h2⟩ := List.mem_filter.mp hi
    exact decide_eq_true ((h i (List.mem_range.mp h1)).mp h2)
theorem selF_mono {al : Nat → Bool} {n i j : Nat} (h : i < j) (hj : j < cn al n) : selF al n i < selF al n j := by
  obtain ⟨a1, a2, a3⟩ := selF_ok (al := al) (n := n) (j := i) (by omega)
  obtain ⟨b1, b2, b3⟩ := selF_ok (al := al) (n := n) (j := j) hj
  rcases Nat.lt_or_ge (selF al n i) (selF al n j) with h1 | h1
  · exact h1
  · have := cn_mono al h1
    omega
theorem UP_sel {n : Nat} {al : Nat → Bool} {c : Nat → Nat} (h : UP n c) : UP (cn al n) (fun j => c (selF al n j)) := fun i j hij hj => h _ _ (selF_mono hij hj) (selF_ok hj).1
theorem RT_pos {n : Nat} {c f cd : Nat → Nat} {A : Tr} (h : RT n c f cd A) (hu : ∀ i j, i < n → j < n → c i = c j → i = j) {i : Nat} (hi : i < n) : 0 < f i ↔ ∃ a ∈ ino A, cd a = c i := by
  constructor
  · intro hp
    exact plc_ino (RT_mem h hi hp)
  · rintro ⟨a, ha, e⟩
    obtain ⟨k, h1, h2, h3, -⟩ := RT_row h ha
    have := hu k i h1 hi (by rw [h3, e])
    rw [← this]; exact h2
theorem fpF_cd {cd cd' : Nat → Nat} {cc : Nat} : ∀ {A : Tr}, (∀ a ∈ ino A, cd' a = cd a) → fpF cd' cc A = fpF cd cc A
  | .leaf _, _ => rfl
  | .branch q l r, h => by
    simp only [fpF]
    rw [h q (by simp [ino]), fpF_cd (A := l) (fun a ha => h a (by simp [ino, ha])), fpF_cd (A := r) (fun a ha => h a (by simp [ino, ha]))]
/-- the turning tree of the class and the model's rows -/
def TI (n : Nat) (c tu cd : Nat → Nat) (A : Tr) : Prop := RT n c tu cd A ∧ SRT cd A ∧ WB A ∧ sz A ≤ 100 ∧ (ino A).Nodup ∧ UP n c
theorem TI_add {n : Nat} {c tu cd : Nat → Nat} {A : Tr} {k v : Nat} (h : TI n c tu cd A) (hk : k < n) (h0 : tu k = 0) (hsz : sz A < 100) (hv : v ∉ ino A) :
    (∀ a ∈ ino A, cd a ≠ c k) ∧ leafW (fun p => lastF (fun i => decide (tu i = p)) n) (fun j => decide (c k < c j)) 28 1 = some (hpl (fpF cd (c k) A) 1) ∧ hpl (fpF cd (c k) A) 1 < 2 ^ 20 ∧ balOK n 26 (x_up tu k (hpl (fpF cd (c k) A) 1)) (hpl (fpF cd (c k) A) 1 / 2) ∧
    (balsM n 26 (x_up tu k (hpl (fpF cd (c k) A) 1)) (hpl (fpF cd (c k) A) 1 / 2)).2 = balC (fpF cd (c k) A) (.branch v (.leaf ()) (.leaf ())) ∧
    TI n c (balsM n 26 (x_up tu k (hpl (fpF cd (c k) A) 1)) (hpl (fpF cd (c k) A) 1 / 2)).1 (x_up cd v (c k)) (balF (fpF cd (c k) A) (.branch v (.leaf ()) (.leaf ()))) ∧ fpT cd (c k) A = .leaf () := by
  obtain ⟨hR, hS, hW, hz, hn, hup⟩ := h
  have hu : ∀ i j, i < n → j < n → c i = c j → i = j := fun i j hi hj e => UP_inj hup hi hj e
  have hcode : ∀ a ∈ ino A, cd a ≠ c k := fun a ha e => by
    have := (RT_pos hR hu hk).mpr ⟨a, ha, e⟩; omega
  have hht := wb_ht hW (by omega)
  obtain ⟨F, eF⟩ : ∃ F, F = fpF cd (c k) A := ⟨_, rfl⟩
  have hlf : fpT cd (c k) A = .leaf () := by
    cases e : fpT cd (c k) A with
    | leaf u => rfl
    | branch q l r =>
      exfalso
      have h1 := fpT_code e
      have h2 : q ∈ ino A := by
        have := fp_plug cd (c k) A
        rw [e] at this
        rw [← this]
        exact (plug_ino _ _).mem_iff.mpr (List.mem_append_right _ (by simp [ino]))
      exact hcode q h2 h1
  have hA : plug F (.leaf ()) = A := by rw [eF, ← hlf]; exact fp_plug cd (c k) A
  have hleaf := leaf_ok (lt := fun j => decide (c k < c j)) (fun j _ => rfl) A [] 28 hR hcode (by omega)
  simp only [List.nil_append] at hleaf
  have hvF : v ∉ fad F := fun hm => hv (by rw [← hA]; exact (plug_ino F _).mem_iff.mpr (List.mem_append_left _ hm))
  have cdv : ∀ a ∈ ino A, x_up cd v (c k) a = cd a := fun a ha => x_up_n _ _ (fun e => hv (e ▸ ha))
  have hR1 : RT n c (x_up tu k (hpl F 1)) (x_up cd v (c k)) (plug F (.branch v (.leaf ()) (.leaf ()))) := by
    rw [← hA] at hR
    exact RT_leaf hR hk h0 (x_up_s _ _ _) (fun a ha => x_up_n _ _ (fun e => hvF (e ▸ ha)))
  have hWB : WB (.branch v (.leaf ()) (.leaf ()) : Tr) := by simp [WB, sz]
  have hWF : WB (plug F (.leaf ())) := by rw [hA]; exact hW
  have hszs : sz (.branch v (.leaf ()) (.leaf ()) : Tr) = sz (.leaf () : Tr) + 1 := rfl
  obtain ⟨b1, b2, b3⟩ := bals_ok F.length F (.branch v (.leaf ()) (.leaf ())) _ 26 rfl (by
    have := plug_ht F (.leaf ())
    rw [hA] at this; omega) hR1 (fun F1 F2 e => by
    have h9 := wb_mid (F1 := F1) (F2 := F2) (X := .branch v (.leaf ()) (.leaf ())) (X0 := .leaf ()) (by rw [← e]; exact hWF) hWB (Or.inr (Or.inl hszs)) (by rw [← e, hA]; omega)
    omega)
  rw [← eF] at hleaf ⊢
  have hpl20 : hpl F 1 < 2 ^ 20 := by
    have h1 := RT_lt hR1 (k := 20) (by
      have h9 := wb_mid (F1 := F) (F2 := []) (X := .branch v (.leaf ()) (.leaf ())) (X0 := .leaf ()) (by rw [List.append_nil]; exact hWF) hWB (Or.inr (Or.inl hszs)) (by rw [List.append_nil, hA]; omega)
      simp only [balF] at h9
      omega) k hk
    rwa [x_up_s] at h1
  have hSn : SRT (x_up cd v (c k)) (plug F (.branch v (.leaf ()) (.leaf ()))) := by
    have h1 : fpF (x_up cd v (c k)) (c k) A = F := by rw [eF]; exact fpF_cd cdv
    have h2 := SRT_ins (v := v) (SRT_cd hS cdv) (fun a ha => by rw [cdv a ha]; exact hcode a ha) (x_up_s _ _ _)
    rwa [h1] at h2
  refine ⟨hcode, hleaf, hpl20, b3, b2, ⟨b1, ?_, ?_, ?_, ?_, hup⟩, hlf⟩
  · unfold SRT
    rw [balF_ino_e]; exact hSn
  · exact wb_balF hWF hWB (Or.inr (Or.inl hszs))
  · have e1 := sz_balF F (.branch v (.leaf ()) (.leaf ()))
    have e2 := sz_plug F (.leaf ())
    rw [hA] at e2
    rw [e1]
    simp only [sz] at e2 ⊢
    omega
  · refine (balF_ino F _).nodup_iff.mpr ?_
    have h1 := (plug_ino F (.leaf ())).nodup_iff.mp (by rw [hA]; exact hn)
    simp only [ino, List.append_nil] at h1
    simp only [ino, List.nil_append]
    rw [List.nodup_append]
    exact ⟨h1, by simp, fun a ha b hb e => by
      simp only [List.mem_cons, List.not_mem_nil, or_false] at hb
      exact hvF (by rw [← hb, ← e]; exact ha)⟩
