theorem apd_true (I : Nat → Nat → Int32) (A : Tr) : apd true I A = ino A := by simp [apd]
theorem kdl_perm {od : Nat → Nat → Nat} {cd : Nat → Nat} : ∀ (f d : Nat) (lst : List Nat), lst.length < 2 ^ f → (ino (kdl od cd f d lst)).Perm lst
  | 0, d, lst, h => by
    have : lst = [] := by cases lst with | nil => rfl | cons a l => simp at h
    simp [kdl, ino, this]
  | f + 1, d, lst, h => by
    simp only [kdl]
    split
    · rename_i h0; simp [ino, h0]
    · rename_i h0
      have hl : 0 < lst.length := by cases lst with | nil => exact absurd rfl h0 | cons a l => simp
      have hs := split_mid (msr od cd d lst) (lst.length / 2) (by rw [msr_len]; omega)
      have e1 := kdl_perm (od := od) (cd := cd) f (d + 1) ((msr od cd d lst).take (lst.length / 2)) (by rw [List.length_take, msr_len]; have := half_lt h; omega)
      have e2 := kdl_perm (od := od) (cd := cd) f (d + 1) ((msr od cd d lst).drop (lst.length / 2 + 1)) (by rw [List.length_drop, msr_len]; exact half_lt2 h hl)
      simp only [ino]
      refine List.Perm.trans ?_ (msr_perm od cd d lst)
      rw (occs := .pos [4]) [hs]
      exact e1.append (e2.cons _)
theorem updp_perm {od : Nat → Nat → Nat} {cd : Nat → Nat} {c : Nat} {new : Tr} : ∀ (t : Tr) (d k : Nat), (ino new).Perm (ino (subp od cd c t d k)) → (ino (updp od cd c new t d k)).Perm (ino t)
  | t, d, 0, h => by cases t <;> simpa [updp, subp] using h
  | .leaf u, d, k + 1, h => by simp [updp]
  | .branch q l r, d, k + 1, h => by
    simp only [updp, subp] at h ⊢
    by_cases hc : od d c < od d (cd q)
    · simp only [if_pos hc, ino] at h ⊢
      exact (updp_perm l (d + 1) k h).append_right _
    · simp only [if_neg hc, ino] at h ⊢
      exact ((updp_perm r (d + 1) k h).cons _).append_left _
theorem updp_sz {od : Nat → Nat → Nat} {cd : Nat → Nat} {c : Nat} {new : Tr} (t : Tr) (d k : Nat) (h : (ino new).Perm (ino (subp od cd c t d k))) : sz (updp od cd c new t d k) = sz t := by
  rw [← ino_len, ← ino_len]; exact (updp_perm t d k h).length_eq
theorem updp_WT {I I1 : Nat → Nat → Int32} {od : Nat → Nat → Nat} {cd : Nat → Nat} {c : Nat} {new : Tr} (hw : WT I1 new) : ∀ (t : Tr) (d k : Nat), WT I t → (ino t).Nodup → (ino new).Perm (ino (subp od cd c t d k)) → (∀ a ∈ ino t, a ∉ ino (subp od cd c t d k) → I1 a 2 = I a 2) → WT I1 (updp od cd c new t d k)
  | t, d, 0, _, _, _, _ => by cases t <;> simpa [updp] using hw
  | .leaf u, d, k + 1, _, _, _, _ => by simp [updp, WT]
  | .branch q l r, d, k + 1, hW, hn, hp, hI => by
    obtain ⟨h1, h2, h3⟩ := hW
    simp only [ino] at hn
    rw [List.nodup_append] at hn
    obtain ⟨nl, nr, nd⟩ := hn
    rw [List.nodup_cons] at nr
    simp only [updp, subp] at hp hI ⊢
    by_cases hc : od d c < od d (cd q)
    · simp only [if_pos hc] at hp hI ⊢
      refine ⟨?_, updp_WT hw l (d + 1) k h2 nl hp (fun a ha hs => hI a (by simp [ino, ha]) hs), h3.congr (fun a ha => hI a (by simp [ino, ha]) (fun hm => nd a (subp_sub _ _ _ _ hm) a (by simp [ha]) rfl))⟩
      rw [hI q (by simp [ino]) (fun hm => nd q (subp_sub _ _ _ _ hm) q (by simp) rfl), h1, updp_sz l (d + 1) k hp]
    · simp only [if_neg hc] at hp hI ⊢
      refine ⟨?_, h2.congr (fun a ha => hI a (by simp [ino, ha]) (fun hm => nd a ha a (by simp [subp_sub _ _ _ _ hm]) rfl)), updp_WT hw r (d + 1) k h3 nr.2 hp (fun a ha hs => hI a (by simp [ino, ha]) hs)⟩
      rw [hI q (by simp [ino]) (fun hm => nr.1 (subp_sub _ _ _ _ hm)), h1, updp_sz r (d + 1) k hp]
/-- a lazy tree and its cells -/
def LTI (cv : Nat → Int32) (B : Nat) (K N : Nat → Nat) (I : Nat → Nat → Int32) (Q : Nat → Nat → Option Nat) (t kd pq pn rw rn cap : Nat) (cd : Nat → Nat) (A : Tr) : Prop :=
  LZ K N Q t kd pq pn rw rn cap ∧ TP K Q A (Q t 2) ∧ WT I A ∧ (ino A).Nodup ∧ ND cv B K I cd (ino A) ∧ (∀ u ∈ ino A, ∀ v ∈ ino A, cd u = cd v → u = v) ∧ sz A ≤ cap ∧ cap < 256
/-- what a lazy tree's calls don't touch -/
def FRL (K : Nat → Nat) (t pq pn rw rn : Nat) (as : List Nat) (I I1 : Nat → Nat → Int32) (Q Q1 : Nat → Nat → Option Nat) : Prop := ∀ q, K q ≠ 0 → q ∉ as → q ≠ t → q ≠ pq → q ≠ pn → q ≠ rw → q ≠ rn → I1 q = I q ∧ Q1 q = Q q
theorem LZ.ne {K N : Nat → Nat} {Q : Nat → Nat → Option Nat} {t kd pq pn rw rn cap : Nat} (h : LZ K N Q t kd pq pn rw rn cap) : t ≠ pq ∧ t ≠ pn ∧ t ≠ rw ∧ t ≠ rn ∧ pq ≠ pn ∧ pq ≠ rw ∧ pq ≠ rn ∧ rw ≠ pn ∧ rw ≠ rn ∧ pn ≠ rn := by
  obtain ⟨hk, hkd, h0, h1, hp, hrw, hpr, hpn⟩ := h
  have a1 := hp.1
  have a2 := hp.2.2.1
  have a3 := hrw.1
  have a4 := hrw.2.2.1
  have ne : ∀ a b : Nat, K a ≠ K b → a ≠ b := fun a b h e => h (by rw [e])
  exact ⟨ne _ _ (by omega), ne _ _ (by omega), ne _ _ (by omega), ne _ _ (by omega), ne _ _ (by omega), hpr, ne _ _ (by omega), ne _ _ (by omega), ne _ _ (by omega), hpn⟩
theorem LZ.nn {K N : Nat → Nat} {Q : Nat → Nat → Option Nat} {t kd pq pn rw rn cap : Nat} (h : LZ K N Q t kd pq pn rw rn cap) {q : Nat} (hq : K q = 3) : q ≠ t ∧ q ≠ pq ∧ q ≠ pn ∧ q ≠ rw ∧ q ≠ rn := by
  obtain ⟨hk, hkd, h0, h1, hp, hrw, hpr, hpn⟩ := h
  have a1 := hp.1
  have a2 := hp.2.2.1
  have a3 := hrw.1
  have a4 := hrw.2.2.1
  have ne : ∀ a b : Nat, K a ≠ K b → a ≠ b := fun a b h e => h (by rw [e])
  exact ⟨ne _ _ (by omega), ne _ _ (by omega), ne _ _ (by omega), ne _ _ (by omega), ne _ _ (by omega)⟩
/-- the tree with a part laid out anew: what holds of it by the cells -/
theorem LTI.upd {cv : Nat → Int32} {B : Nat} {K N : Nat → Nat} {I I1 I3 : Nat → Nat → Int32} {Q Q2 Q3 Q4 : Nat → Nat → Option Nat} {t kd pq pn rw rn cap : Nat} {od : Nat → Nat → Nat} {cd : Nat → Nat} {c k : Nat} {A new : Tr} {g : Nat → Option Nat} {r : Option Nat}
    (h : LTI cv B K N I Q t kd pq pn rw rn cap cd A) (hk : k < (spath od cd c A 0).length) (hp : (ino new).Perm (ino (subp od cd c A 0 k)))
    (hl : LAYP K I1 I3 Q2 Q3 rn 0 (ino (subp od cd c A 0 k)) new r) (eQ2 : Q2 = x_up Q rn g) (hI1 : ∀ q, q ≠ t → q ≠ rw → I1 q = I q)
    (hQ4 : ∀ q j, q ∉ ino (subp od cd c A 0 k) → q ≠ rn → ¬ (q = t ∧ j = 2) → plink od cd c A 0 k ≠ some (q, j) → Q4 q j = Q3 q j) (hQ4n : ∀ q ∈ ino (subp od cd c A 0 k), Q4 q = Q3 q)
    (hx : ∀ x, plink od cd c A 0 k = some x → Q4 x.1 x.2 = r ∧ (x.2 = 3 ∨ x.2 = 4) ∧ k ≠ 0) (hr : Q4 t 2 = if k = 0 then r else Q t 2) :
    LTI cv B K N I3 Q4 t kd pq pn rw rn cap cd (updp od cd c new A 0 k) ∧ (∀ q ∈ ino A, I3 q 0 = I q 0 ∧ I3 q 1 = I q 1) := by
  obtain ⟨hz, hT, hW, hn, hN, hinj, hsz, hcap⟩ := h
  have hne := hz.ne
  have hnn : ∀ q ∈ ino A, q ≠ t ∧ q ≠ pq ∧ q ≠ pn ∧ q ≠ rw ∧ q ≠ rn := fun q hq => hz.nn (hN q hq).1
  obtain ⟨a1, a2, a3, a4, a5, a6, a7⟩ := hl
  have hsub := subp_sub (od := od) (cd := cd) (c := c) A 0 k
  have hperm := updp_perm (od := od) (cd := cd) (c := c) (new := new) A 0 k hp
  have hmem : ∀ q, q ∈ ino (updp od cd c new A 0 k) ↔ q ∈ ino A := fun q => hperm.mem_iff
  have hi3 : ∀ q ∈ ino A, ∀ j, j ≠ 2 → I3 q j = I q j := fun q hq j hj => by rw [a6 q j hj, hI1 q (hnn q hq).1 (hnn q hq).2.2.2.1]
  have hlk : ∀ x, plink od cd c A 0 k = some x → x.1 ∈ ino A := fun x hx1 => plink_mem A 0 k x hx1
  have hq3 : ∀ q, q ∉ ino (subp od cd c A 0 k) → q ≠ rn → Q3 q = Q q := fun q h1 h2 => by rw [a3 q h1 h2, eQ2, x_up_n _ _ h2]
  refine ⟨⟨?_, ?_, ?_, hperm.nodup_iff.mpr hn, ?_, ?_, ?_, hcap⟩, fun q hq => ⟨hi3 q hq 0 (by omega), hi3 q hq 1 (by omega)⟩⟩
  · refine hz.congr (fun a h3 h23 => ?_)
    have haA : a ∉ ino A := fun hm => h3 (hN a hm).1
    have harn : a ≠ rn := fun e => h23 (by rw [e]; exact hz.2.2.2.2.2.1.2.2.1)
    have hs : a ∉ ino (subp od cd c A 0 k) := fun hm => haA (hsub a hm)
    rw [hQ4 a 0 hs harn (fun e => by omega) (fun e => haA (hlk _ e)), hQ4 a 1 hs harn (fun e => by omega) (fun e => haA (hlk _ e)), hq3 a hs harn]
    exact ⟨rfl, rfl⟩
  · rw [hr]
    refine updp_TP (K := K) (Q := Q) (rr := r) ?_ A 0 k _ hT hn hk ?_ (fun x hx1 => (hx x hx1).1)
    · exact a1.congr (fun a ha => by rw [hQ4n a (hp.mem_iff.mp ha)]; exact ⟨rfl, rfl, rfl⟩)
    · intro a ha hs j hj hp2
      rw [hQ4 a j hs (hnn a ha).2.2.2.2 (fun e => (hnn a ha).1 e.1) hp2, hq3 a hs (hnn a ha).2.2.2.2]
  · refine updp_WT a2 A 0 k hW hn hp (fun a ha hs => ?_)
    rw [a5 a hs, hI1 a (hnn a ha).1 (hnn a ha).2.2.2.1]
  · intro q hq
    have hqA := (hmem q).mp hq
    have h9 := hN q hqA
    exact ⟨h9.1, by rw [hi3 q hqA 0 (by omega)]; exact h9.2.1, h9.2.2⟩
  · exact fun u hu v hv => hinj u ((hmem u).mp hu) v ((hmem v).mp hv)
  · rw [updp_sz A 0 k hp]; exact hsz
theorem x_eqq2 {p : Program} {l : Launch} {e : Env} {R : Room} {s : State} {m : MethodId} {args : Array Value} {below : List Frame} {meth : Method} {c : Code} {G : xG} {Z : State → Prop} {k n : Nat} {S : xS} {pc : Nat} {lv : List (Option Value)} {st : List Value} {v : Value} (o : Option Nat) (h : va_rf o = v) (kk : XW p l e R s m args below meth c G Z k n S pc lv (va_rf o :: st)) : XW p l e R s m args below meth c G Z k n S pc lv (v :: st) := h ▸ kk
theorem x_ok_q {lv : List (Option Value)} {i : Nat} {o : Option Nat} (h : lv[i]? = some (some (va_rf o))) : x_ok lv (i + 1) = true := by
  simp only [x_ok, h]
  cases o <;> rfl
