theorem ccnt_app (p : Nat → Bool) : ∀ (l1 l2 : List Nat), ccnt p (l1 ++ l2) = ccnt p l1 + ccnt p l2
  | [], l2 => by simp [ccnt]
  | a :: l1, l2 => by
    simp only [List.cons_append, ccnt, ccnt_app p l1 l2]
    omega
theorem cn_ccnt (p : Nat → Bool) : ∀ n, cn p n = ccnt p (List.range n)
  | 0 => rfl
  | k + 1 => by
    rw [List.range_succ, ccnt_app, ← cn_ccnt p k]
    simp only [cn, ccnt]
    omega
theorem dep_one : dep 1 = 0 := by rw [dep_def]; rfl
theorem bel_one {x : Nat} (h : 0 < x) : bel x 1 = true := by
  refine (bel_iff (by omega)).mpr ⟨dep x, x - 2 ^ dep x, ?_, ?_⟩
  · have h1 : x < 2 ^ (dep x + 1) := Nat.lt_log2_self
    rw [Nat.pow_succ] at h1
    have h2 := Nat.two_pow_pos (dep x)
    omega
  · have h1 : 2 ^ dep x ≤ x := Nat.log2_self_le (by omega)
    omega
theorem cn_all {p : Nat → Bool} : ∀ {n : Nat}, (∀ i, i < n → p i = true) → cn p n = n
  | 0, _ => rfl
  | k + 1, h => by
    simp only [cn]
    rw [h k (by omega), cn_all (fun i hi => h i (by omega))]
    simp
theorem upW_stop {ok : Nat → Bool} {f u : Nat} (h : ok u = false) : upW ok f u = u := by
  cases f with
  | zero => rfl
  | succ f => simp only [upW, h, Bool.false_eq_true, if_false]
theorem upW_go {ok : Nat → Bool} {f u : Nat} (h : ok u = true) : upW ok (f + 1) u = upW ok f (u / 2) := by simp only [upW, h, if_true]
theorem shl_pw2 {j : Nat} (h : j < 9) : nI 1 <<< (nI j &&& 31) = nI (2 ^ j) := shl_pw h
theorem mrg_stop {lst : List Nat} {f j : Nat} {pr : Nat → Nat} (h : ccnt (fun a => decide (pr a = j)) lst ≤ 2 ^ j) : mrg lst f j pr = (pr, 0) := by
  cases f with
  | zero => rfl
  | succ f => simp only [mrg, if_neg (Nat.not_lt.mpr h)]
theorem mrg_go {lst : List Nat} {f j : Nat} {pr : Nat → Nat} (h : 2 ^ j < ccnt (fun a => decide (pr a = j)) lst) : mrg lst (f + 1) j pr = ((mrg lst f (j + 1) (fun a => if pr a = j then j + 1 else pr a)).1, (mrg lst f (j + 1) (fun a => if pr a = j then j + 1 else pr a)).2 + 1) := by simp only [mrg, if_pos h]
