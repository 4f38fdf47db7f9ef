theorem KK7.ins0 {ow : xO} {S : xS} {t n cc : Nat} {c tu : Nat → Nat} (h : KK7 ow S t n c tu) (hn : ∀ i, i < n → c i ≠ cc) : KK7 ow S t (n + 1) (ins c (insP (fun k => decide (cc < c k)) n) cc) (ins tu (insP (fun k => decide (cc < c k)) n) 0) := by
  obtain ⟨cd, A, pq, pn, h1, h2⟩ := h
  exact ⟨cd, A, pq, pn, h1, TI_ins0 h2 hn⟩
theorem KK7.sel {ow : xO} {S : xS} {t n : Nat} {c tu : Nat → Nat} {al : Nat → Bool} (h : KK7 ow S t n c tu) (hal : ∀ i, i < n → (al i = true ↔ 0 < tu i)) : KK7 ow S t (cn al n) (fun j => c (selF al n j)) (fun j => tu (selF al n j)) := by
  obtain ⟨cd, A, pq, pn, h1, h2⟩ := h
  exact ⟨cd, A, pq, pn, h1, TI_sel h2 hal⟩
theorem cn_tu {al : Nat → Bool} {tu : Nat → Nat} {n : Nat} (h : ∀ i, i < n → (al i = true ↔ 0 < tu i)) : cn (fun i => decide (0 < tu i)) n = cn al n := cn_congr (fun i hi => by rw [Bool.eq_iff_iff, h i hi, decide_eq_true_iff])
theorem cn_tu0 {tu : Nat → Nat} {n a : Nat} (ha : a ≤ n) : cn (fun i => decide (0 < ins tu a 0 i)) (n + 1) = cn (fun i => decide (0 < tu i)) n := by
  have e : (fun i => decide (0 < ins tu a 0 i)) = ins (fun i => decide (0 < tu i)) a false := by
    funext i
    unfold ins
    split
    · rfl
    · split
      · rfl
      · rfl
  rw [e, cn_ins ha]
  simp
theorem k7_insertE (l : Launch) (G : xG) {K N : Nat → Nat} {I : Nat → Nat → Int32} {Q : Nat → Nat → Option Nat} {J : Nat → Nat → Int64} {t n k cc : Nat} {c tu : Nat → Nat} {ow : xO} (h : KK7 ow (K, N, I, Q, J) t n c tu) (hk : k < n) (e : c k = cc) (hcb : cc < 1999) (h0 : tu k = 0) (hcl : cn (fun i => decide (0 < tu i)) n < 100) : XM l yX7_insert cX7_insert 4 none rm_X7_insertN G Rv [.ref t, .int (cv1 cc)] (K, N, I, Q, J) (fun _ S1 => ∃ ow1, FRO 7 ow ow1 (K, N, I, Q, J) S1 ∧ KK7 ow1 S1 t n c (balsM n 26 (x_up tu k (hplT n c tu k)) (hplT n c tu k / 2)).1 ∧ S1.2.2.1 t 2 = I t 2 + nI (balsM n 26 (x_up tu k (hplT n c tu k)) (hplT n c tu k / 2)).2) := by
  subst e
  exact k7_insert l G h hk hcb h0 hcl
abbrev rm_X8_addR : Room := { frames := 6, cells := 1, slots := 6, locals := 90 }
set_option maxHeartbeats 4000000 in
set_option maxRecDepth 100000 in
theorem c_X8_addR (l : Launch) (G : xG) {K N : Nat → Nat} {I : Nat → Nat → Int32} {Q : Nat → Nat → Option Nat} {J : Nat → Nat → Int64} (ow : xO) (x n m : Nat) (c : Nat → Nat) (al : Nat → Bool) (sp tu pt pc ps : Nat → Nat) (pa : Nat → Bool) (r d u g w : Int32) (y : Int32) (hlt : l.stackTraces = false) (hS : SY ow (K, N, I, Q, J) x n c al sp tu pt m pc pa ps r d u g w) (hy : y < -999 ∨ nI 999 < y)  : XMT l yX8_add cX8_add 2 (some .boolean) rm_X8_addR G Rz [.ref x, .int y] (K, N, I, Q, J) (fun _ _ => False) (fun E S1 => E = eIA ∧ ∃ ow1, FR8 ow ow1 (K, N, I, Q, J) S1 ∧ SY ow1 S1 x n c al sp tu pt m pc pa ps r d u g w) := by
  refine x_metTz (lv := [_, _]) hlt rfl ⟨(Nat.le_of_ble_eq_true rfl), (Nat.le_of_ble_eq_true rfl)⟩ (by decide +kernel) (x_cc (by first | rfl | exact x_crf _) (x_cc (by first | rfl | exact x_crf _) x_cn)) (Nat.le_of_ble_eq_true rfl) rfl ?_
  intro pP eE sS mM aA bB hH cC Z C hini ret thr
  obtain ⟨t1, t7, t6, t5, hX0, H1, H7, H6, H5, hE0, hn, hb⟩ := id hS
  obtain ⟨hx, hox, hq1, hq7, hq6, hq5⟩ := id hX0
  obtain ⟨e1, e2, e3, e4, e5⟩ := id hE0
  have hx : K x = 8 := hx
  have hq1 : Q x 0 = some t1 := hq1
  have hq7 : Q x 1 = some t7 := hq7
  have hq6 : Q x 2 = some t6 := hq6
  have hq5 : Q x 3 = some t5 := hq5
  have kt1 : K t1 = 2 := H1.kc.1
  have kt7 : K t7 = 7 := H7.kc
  have kt6 : K t6 = 6 := H6.kc
  have kt5 : K t5 = 5 := H5.kc.1
  have l1 : I t1 3 = nI (cn al n) := H1.kc.2
  have l5 : I t5 3 = nI (cn pa m) := H5.kc.2.1
  have hm120 := H5.kc.2.2
  have l6 : I t6 1 = nI n := H6.cnt.1
  have l62 : I t6 2 = nI (cn al n) := H6.cnt.2.1
  have hup := H6.cnt.2.2.1
  have hcl := cn_le al n
  have hcm := cn_le pa m
  have e1 : I t1 4 = r := e1
  have e2 : I t1 5 = d := e2
  have e3 : I t7 2 = u := e3
  have e4 : I t6 3 = g := e4
  have e5 : I t5 4 = w := e5
  refine x_iload_n C D_X8_add_0.1 rfl rfl ?_
  refine x_sipush C (v := (-999)) D_X8_add_0.2.1 (by decide +kernel) ?_
  refine x_icmp_lt C 14 D_X8_add_0.2.2.1 (by decide) (fun c_4 => ?_) (fun c_4 => ?_)
  · skip
    refine thr _ _ _ _ _ _ _ 39 _ _ "key is out of range" thr_IA (by decide +kernel) D_X8_add_0.2.2.2.2.2.2.1 D_X8_add_0.2.2.2.2.2.2.2.1 D_X8_add_0.2.2.2.2.2.2.2.2.1 D_X8_add_0.2.2.2.2.2.2.2.2.2.1 D_X8_add_0.2.2.2.2.2.2.2.2.2.2.1 (by first | exact Nat.le_of_ble_eq_true rfl | simp [x_crf, Value.category]) rfl (Nat.le_of_ble_eq_true rfl) (Nat.le_of_ble_eq_true rfl) ?_
    exact ⟨rfl, ow, FR8.refl _ _, hS⟩
  · skip
    refine x_iload_n C D_X8_add_0.2.2.2.1 rfl rfl ?_
    refine x_sipush C (v := nI 999) D_X8_add_0.2.2.2.2.1 (by decide +kernel) ?_
    refine x_icmp_le C 24 D_X8_add_0.2.2.2.2.2.1 (by decide) (fun c_11 => ?_) (fun c_11 => ?_)
    · skip
      rcases hy with h | h
      · exact absurd h c_4
      · exfalso; rw [i32_lt] at h; rw [i32_le] at c_11; omega
      --end
    · skip
      refine thr _ _ _ _ _ _ _ 39 _ _ "key is out of range" thr_IA (by decide +kernel) D_X8_add_0.2.2.2.2.2.2.1 D_X8_add_0.2.2.2.2.2.2.2.1 D_X8_add_0.2.2.2.2.2.2.2.2.1 D_X8_add_0.2.2.2.2.2.2.2.2.2.1 D_X8_add_0.2.2.2.2.2.2.2.2.2.2.1 (by first | exact Nat.le_of_ble_eq_true rfl | simp [x_crf, Value.category]) rfl (Nat.le_of_ble_eq_true rfl) (Nat.le_of_ble_eq_true rfl) ?_
      exact ⟨rfl, ow, FR8.refl _ _, hS⟩
abbrev rm_X8_addT : Room := { frames := 6, cells := 1, slots := 6, locals := 90 }
set_option maxHeartbeats 4000000 in
set_option maxRecDepth 100000 in
theorem c_X8_addT (l : Launch) (G : xG) {K N : Nat → Nat} {I : Nat → Nat → Int32} {Q : Nat → Nat → Option Nat} {J : Nat → Nat → Int64} (ow : xO) (x n m : Nat) (c : Nat → Nat) (al : Nat → Bool) (sp tu pt pc ps : Nat → Nat) (pa : Nat → Bool) (r d u g w : Int32) (k : Nat) (hlt : l.stackTraces = false) (hS : SY ow (K, N, I, Q, J) x n c al sp tu pt m pc pa ps r d u g w) (hk : k < n) (hal : al k = true)  : XMT l yX8_add cX8_add 2 (some .boolean) rm_X8_addT G Rz [.ref x, .int (cv1 (c k))] (K, N, I, Q, J) (fun r_ S1 => r_ = false ∧ ∃ ow1, FR8 ow ow1 (K, N, I, Q, J) S1 ∧ SY ow1 S1 x n c al sp tu pt m pc pa ps r d u g w) (fun _ _ => False) := by
  refine x_metTz (lv := [_, _]) hlt rfl ⟨(Nat.le_of_ble_eq_true rfl), (Nat.le_of_ble_eq_true rfl)⟩ (by decide +kernel) (x_cc (by first | rfl | exact x_crf _) (x_cc (by first | rfl | exact x_crf _) x_cn)) (Nat.le_of_ble_eq_true rfl) rfl ?_
  intro pP eE sS mM aA bB hH cC Z C hini ret thr
  obtain ⟨t1, t7, t6, t5, hX0, H1, H7, H6, H5, hE0, hn, hb⟩ := id hS
  obtain ⟨hx, hox, hq1, hq7, hq6, hq5⟩ := id hX0
  obtain ⟨e1, e2, e3, e4, e5⟩ := id hE0
  have hx : K x = 8 := hx
  have hq1 : Q x 0 = some t1 := hq1
  have hq7 : Q x 1 = some t7 := hq7
  have hq6 : Q x 2 = some t6 := hq6
  have hq5 : Q x 3 = some t5 := hq5
  have kt1 : K t1 = 2 := H1.kc.1
  have kt7 : K t7 = 7 := H7.kc
  have kt6 : K t6 = 6 := H6.kc
  have kt5 : K t5 = 5 := H5.kc.1
  have l1 : I t1 3 = nI (cn al n) := H1.kc.2
  have l5 : I t5 3 = nI (cn pa m) := H5.kc.2.1
  have hm120 := H5.kc.2.2
  have l6 : I t6 1 = nI n := H6.cnt.1
  have l62 : I t6 2 = nI (cn al n) := H6.cnt.2.1
  have hup := H6.cnt.2.2.1
  have hcl := cn_le al n
  have hcm := cn_le pa m
  have e1 : I t1 4 = r := e1
  have e2 : I t1 5 = d := e2
  have e3 : I t7 2 = u := e3
  have e4 : I t6 3 = g := e4
  have e5 : I t5 4 = w := e5
  have hrg := rng_in (hb k hk)
  refine x_iload_n C D_X8_add_0.1 rfl rfl ?_
  refine x_sipush C (v := (-999)) D_X8_add_0.2.1 (by decide +kernel) ?_
  refine x_icmp_lt C 14 D_X8_add_0.2.2.1 (by decide) (fun c_4 => ?_) (fun c_4 => ?_)
  · skip
    exact absurd c_4 hrg.1
    --end
  · skip
    refine x_iload_n C D_X8_add_0.2.2.2.1 rfl rfl ?_
    refine x_sipush C (v := nI 999) D_X8_add_0.2.2.2.2.1 (by decide +kernel) ?_
    refine x_icmp_le C 24 D_X8_add_0.2.2.2.2.2.1 (by decide) (fun c_11 => ?_) (fun c_11 => ?_)
    · skip
      refine x_aload_n C D_X8_add_0.2.2.2.2.2.2.2.2.2.2.2 rfl rfl (by first | exact Or.inr ⟨_, rfl⟩ | exact va_rf_or _ | exact Or.inl rfl) ?_
      refine x_getQ C (ci := 7) (k0 := 2) hx (by decide) rfl (by decide) in_X8 k_181 rfl rfl D_X8_add_1.1 ?_
      refine x_eqr hq6 ?_
      refine x_iload_n C D_X8_add_1.2.1 rfl rfl ?_
      refine x_callVz C (y := yX6_holds) (k6_holdsY l G H6 hn hk (hb k hk)) (ci := 5) kt6 (by decide) rfl rfl k_196 k_197 k_198 k_65 k_199 hd_X6_holds ⟨(Nat.le_of_ble_eq_true rfl), (Nat.le_of_ble_eq_true rfl)⟩ rfl (by first | exact Nat.le_of_ble_eq_true rfl | simp [x_crf, Value.category]) rfl rfl D_X8_add_1.2.2.1 ⟨(Nat.le_of_ble_eq_true rfl), (Nat.le_of_ble_eq_true rfl)⟩ (fun r_29 S_29 h_29 => ?_)
      obtain ⟨rfl, rfl⟩ := h_29
      rw [hal]
      refine x_if_eq C 37 D_X8_add_1.2.2.2.1 (by decide) (fun c_32 => ?_) (fun c_32 => ?_)
      · skip
        exact absurd c_32 (by decide)
        --end
      · skip
        refine x_iconst C (v := nI 0) D_X8_add_1.2.2.2.2.1 (by decide +kernel) ?_
        refine ret _ _ _ _ _ _ false rfl D_X8_add_1.2.2.2.2.2.1 (Nat.le_of_ble_eq_true rfl) (Nat.le_of_ble_eq_true rfl) rfl ?_
        exact ⟨rfl, ow, FR8.refl _ _, hS⟩
    · skip
      exact absurd hrg.2 c_11
      --end
abbrev rm_X8_addG : Room := { frames := 6, cells := 1, slots := 6, locals := 90 }
set_option maxHeartbeats 4000000 in
set_option maxRecDepth 100000 in
theorem c_X8_addG (l : Launch) (G : xG) {K N : Nat → Nat} {I : Nat → Nat → Int32} {Q : Nat → Nat → Option Nat} {J : Nat → Nat → Int64} (ow : xO) (x n m : Nat) (c : Nat → Nat) (al : Nat → Bool) (sp tu pt pc ps : Nat → Nat) (pa : Nat → Bool) (r d u g w : Int32) (k : Nat) (hlt : l.stackTraces = false) (hS : SY ow (K, N, I, Q, J) x n c al sp tu pt m pc pa ps r d u g w) (hk : k < n) (hal : al k = false) (hlv : cn al n = 100)  : XMT l yX8_add cX8_add 2 (some .boolean) rm_X8_addG G Rz [.ref x, .int (cv1 (c k))] (K, N, I, Q, J) (fun _ _ => False) (fun E S1 => E = eIS ∧ ∃ ow1, FR8 ow ow1 (K, N, I, Q, J) S1 ∧ SY ow1 S1 x n c al sp tu pt m pc pa ps r d u g w) := by
  refine x_metTz (lv := [_, _]) hlt rfl ⟨(Nat.le_of_ble_eq_true rfl), (Nat.le_of_ble_eq_true rfl)⟩ (by decide +kernel) (x_cc (by first | rfl | exact x_crf _) (x_cc (by first | rfl | exact x_crf _) x_cn)) (Nat.le_of_ble_eq_true rfl) rfl ?_
  intro pP eE sS mM aA bB hH cC Z C hini ret thr
  obtain ⟨t1, t7, t6, t5, hX0, H1, H7, H6, H5, hE0, hn, hb⟩ := id hS
  obtain ⟨hx, hox, hq1, hq7, hq6, hq5⟩ := id hX0
  obtain ⟨e1, e2, e3, e4, e5⟩ := id hE0
  have hx : K x = 8 := hx
  have hq1 : Q x 0 = some t1 := hq1
  have hq7 : Q x 1 = some t7 := hq7
  have hq6 : Q x 2 = some t6 := hq6
  have hq5 : Q x 3 = some t5 := hq5
  have kt1 : K t1 = 2 := H1.kc.1
  have kt7 : K t7 = 7 := H7.kc
  have kt6 : K t6 = 6 := H6.kc
  have kt5 : K t5 = 5 := H5.kc.1
  have l1 : I t1 3 = nI (cn al n) := H1.kc.2
  have l5 : I t5 3 = nI (cn pa m) := H5.kc.2.1
  have hm120 := H5.kc.2.2
  have l6 : I t6 1 = nI n := H6.cnt.1
  have l62 : I t6 2 = nI (cn al n) := H6.cnt.2.1
  have hup := H6.cnt.2.2.1
  have hcl := cn_le al n
  have hcm := cn_le pa m
  have e1 : I t1 4 = r := e1
  have e2 : I t1 5 = d := e2
  have e3 : I t7 2 = u := e3
  have e4 : I t6 3 = g := e4
  have e5 : I t5 4 = w := e5
  have hrg := rng_in (hb k hk)
  refine x_iload_n C D_X8_add_0.1 rfl rfl ?_
  refine x_sipush C (v := (-999)) D_X8_add_0.2.1 (by decide +kernel) ?_
  refine x_icmp_lt C 14 D_X8_add_0.2.2.1 (by decide) (fun c_4 => ?_) (fun c_4 => ?_)
  · skip
    exact absurd c_4 hrg.1
    --end
  · skip
    refine x_iload_n C D_X8_add_0.2.2.2.1 rfl rfl ?_
    refine x_sipush C (v := nI 999) D_X8_add_0.2.2.2.2.1 (by decide +kernel) ?_
    refine x_icmp_le C 24 D_X8_add_0.2.2.2.2.2.1 (by decide) (fun c_11 => ?_) (fun c_11 => ?_)
    · skip
      refine x_aload_n C D_X8_add_0.2.2.2.2.2.2.2.2.2.2.2 rfl rfl (by first | exact Or.inr ⟨_, rfl⟩ | exact va_rf_or _ | exact Or.inl rfl) ?_
      refine x_getQ C (ci := 7) (k0 := 2) hx (by decide) rfl (by decide) in_X8 k_181 rfl rfl D_X8_add_1.1 ?_
      refine x_eqr hq6 ?_
      refine x_iload_n C D_X8_add_1.2.1 rfl rfl ?_
      refine x_callVz C (y := yX6_holds) (k6_holdsY l G H6 hn hk (hb k hk)) (ci := 5) kt6 (by decide) rfl rfl k_196 k_197 k_198 k_65 k_199 hd_X6_holds ⟨(Nat.le_of_ble_eq_true rfl), (Nat.le_of_ble_eq_true rfl)⟩ rfl (by first | exact Nat.le_of_ble_eq_true rfl | simp [x_crf, Value.category]) rfl rfl D_X8_add_1.2.2.1 ⟨(Nat.le_of_ble_eq_true rfl), (Nat.le_of_ble_eq_true rfl)⟩ (fun r_29 S_29 h_29 => ?_)
      obtain ⟨rfl, rfl⟩ := h_29
      rw [hal]
      refine x_if_eq C 37 D_X8_add_1.2.2.2.1 (by decide) (fun c_32 => ?_) (fun c_32 => ?_)
      · skip
        refine x_aload_n C D_X8_add_1.2.2.2.2.2.2.1 rfl rfl (by first | exact Or.inr ⟨_, rfl⟩ | exact va_rf_or _ | exact Or.inl rfl) ?_
        refine x_getQ C (ci := 7) (k0 := 2) hx (by decide) rfl (by decide) in_X8 k_181 rfl rfl D_X8_add_1.2.2.2.2.2.2.2.1 ?_
        refine x_eqr hq6 ?_
        refine x_callVi C (y := yX6_living) (c_X6_living l G t6 kt6) (ci := 5) kt6 (by decide) rfl rfl k_346 k_347 k_348 k_65 k_349 hd_X6_living ⟨(Nat.le_of_ble_eq_true rfl), (Nat.le_of_ble_eq_true rfl)⟩ rfl (by first | exact Nat.le_of_ble_eq_true rfl | simp [x_crf, Value.category]) rfl rfl D_X8_add_1.2.2.2.2.2.2.2.2.1 ⟨(Nat.le_of_ble_eq_true rfl), (Nat.le_of_ble_eq_true rfl)⟩ (fun r_41 S_41 h_41 => ?_)
        obtain ⟨rfl, rfl⟩ := h_41
        refine x_eqi _ l62 ?_
        refine x_bipush C (v := nI 100) D_X8_add_1.2.2.2.2.2.2.2.2.2.1 (by decide +kernel) ?_
        refine x_icmp_lt C 59 D_X8_add_1.2.2.2.2.2.2.2.2.2.2.1 (by decide) (fun c_46 => ?_) (fun c_46 => ?_)
        · skip
          first
          | have d_46 := cv_lt c_46 (by omega) (by omega)
          | skip
          exfalso; omega
          --end
        · skip
          first
          | have d_46 := cv_nlt c_46 (by omega) (by omega)
          | skip
          refine thr _ _ _ _ _ _ _ 54 _ _ "there is no room for one more key" thr_IS (by decide +kernel) D_X8_add_1.2.2.2.2.2.2.2.2.2.2.2 D_X8_add_2.1 D_X8_add_2.2.1 D_X8_add_2.2.2.1 D_X8_add_2.2.2.2.1 (by first | exact Nat.le_of_ble_eq_true rfl | simp [x_crf, Value.category]) rfl (Nat.le_of_ble_eq_true rfl) (Nat.le_of_ble_eq_true rfl) ?_
          exact ⟨rfl, ow, FR8.refl _ _, hS⟩
      · skip
        exact absurd rfl c_32
        --end
    · skip
      exact absurd hrg.2 c_11
      --end
abbrev rm_X8_addF : Room := { frames := 6, cells := 1, slots := 6, locals := 90 }
set_option maxHeartbeats 4000000 in
set_option maxRecDepth 100000 in
theorem c_X8_addF (l : Launch) (G : xG) {K N : Nat → Nat} {I : Nat → Nat → Int32} {Q : Nat → Nat → Option Nat} {J : Nat → Nat → Int64} (ow : xO) (x n m : Nat) (c : Nat → Nat) (al : Nat → Bool) (sp tu pt pc ps : Nat → Nat) (pa : Nat → Bool) (r d u g w : Int32) (cc : Nat) (hlt : l.stackTraces = false) (hS : SY ow (K, N, I, Q, J) x n c al sp tu pt m pc pa ps r d u g w) (hcb : cc < 1999) (hnew : ∀ i, i < n → c i ≠ cc) (hlv : cn al n = 100)  : XMT l yX8_add cX8_add 2 (some .boolean) rm_X8_addF G Rz [.ref x, .int (cv1 cc)] (K, N, I, Q, J) (fun _ _ => False) (fun E S1 => E = eIS ∧ ∃ ow1, FR8 ow ow1 (K, N, I, Q, J) S1 ∧ SY ow1 S1 x n c al sp tu pt m pc pa ps r d u g w) := by
  refine x_metTz (lv := [_, _]) hlt rfl ⟨(Nat.le_of_ble_eq_true rfl), (Nat.le_of_ble_eq_true rfl)⟩ (by decide +kernel) (x_cc (by first | rfl | exact x_crf _) (x_cc (by first | rfl | exact x_crf _) x_cn)) (Nat.le_of_ble_eq_true rfl) rfl ?_
  intro pP eE sS mM aA bB hH cC Z C hini ret thr
  obtain ⟨t1, t7, t6, t5, hX0, H1, H7, H6, H5, hE0, hn, hb⟩ := id hS
  obtain ⟨hx, hox, hq1, hq7, hq6, hq5⟩ := id hX0
  obtain ⟨e1, e2, e3, e4, e5⟩ := id hE0
  have hx : K x = 8 := hx
  have hq1 : Q x 0 = some t1 := hq1
  have hq7 : Q x 1 = some t7 := hq7
  have hq6 : Q x 2 = some t6 := hq6
  have hq5 : Q x 3 = some t5 := hq5
  have kt1 : K t1 = 2 := H1.kc.1
  have kt7 : K t7 = 7 := H7.kc
  have kt6 : K t6 = 6 := H6.kc
  have kt5 : K t5 = 5 := H5.kc.1
  have l1 : I t1 3 = nI (cn al n) := H1.kc.2
  have l5 : I t5 3 = nI (cn pa m) := H5.kc.2.1
  have hm120 := H5.kc.2.2
  have l6 : I t6 1 = nI n := H6.cnt.1
  have l62 : I t6 2 = nI (cn al n) := H6.cnt.2.1
  have hup := H6.cnt.2.2.1
  have hcl := cn_le al n
  have hcm := cn_le pa m
  have e1 : I t1 4 = r := e1
  have e2 : I t1 5 = d := e2
  have e3 : I t7 2 = u := e3
  have e4 : I t6 3 = g := e4
  have e5 : I t5 4 = w := e5
  have hrg := rng_in hcb
  have hno : ∀ i, i < n → ¬ cv1 (c i) = cv1 cc := fun i hi e => hnew i hi ((cv1_eq (hb i hi) hcb).mp e)
  refine x_iload_n C D_X8_add_0.1 rfl rfl ?_
  refine x_sipush C (v := (-999)) D_X8_add_0.2.1 (by decide +kernel) ?_
  refine x_icmp_lt C 14 D_X8_add_0.2.2.1 (by decide) (fun c_4 => ?_) (fun c_4 => ?_)
  · skip
    exact absurd c_4 hrg.1
    --end
  · skip
    refine x_iload_n C D_X8_add_0.2.2.2.1 rfl rfl ?_
    refine x_sipush C (v := nI 999) D_X8_add_0.2.2.2.2.1 (by decide +kernel) ?_
    refine x_icmp_le C 24 D_X8_add_0.2.2.2.2.2.1 (by decide) (fun c_11 => ?_) (fun c_11 => ?_)
    · skip
      refine x_aload_n C D_X8_add_0.2.2.2.2.2.2.2.2.2.2.2 rfl rfl (by first | exact Or.inr ⟨_, rfl⟩ | exact va_rf_or _ | exact Or.inl rfl) ?_
      refine x_getQ C (ci := 7) (k0 := 2) hx (by decide) rfl (by decide) in_X8 k_181 rfl rfl D_X8_add_1.1 ?_
      refine x_eqr hq6 ?_
      refine x_iload_n C D_X8_add_1.2.1 rfl rfl ?_
      refine x_callVz C (y := yX6_holds) (k6_holdsN l G H6 hn hno) (ci := 5) kt6 (by decide) rfl rfl k_196 k_197 k_198 k_65 k_199 hd_X6_holds ⟨(Nat.le_of_ble_eq_true rfl), (Nat.le_of_ble_eq_true rfl)⟩ rfl (by first | exact Nat.le_of_ble_eq_true rfl | simp [x_crf, Value.category]) rfl rfl D_X8_add_1.2.2.1 ⟨(Nat.le_of_ble_eq_true rfl), (Nat.le_of_ble_eq_true rfl)⟩ (fun r_29 S_29 h_29 => ?_)
      obtain ⟨rfl, rfl⟩ := h_29
      refine x_if_eq C 37 D_X8_add_1.2.2.2.1 (by decide) (fun c_32 => ?_) (fun c_32 => ?_)
      · skip
        refine x_aload_n C D_X8_add_1.2.2.2.2.2.2.1 rfl rfl (by first | exact Or.inr ⟨_, rfl⟩ | exact va_rf_or _ | exact Or.inl rfl) ?_
        refine x_getQ C (ci := 7) (k0 := 2) hx (by decide) rfl (by decide) in_X8 k_181 rfl rfl D_X8_add_1.2.2.2.2.2.2.2.1 ?_
        refine x_eqr hq6 ?_
        refine x_callVi C (y := yX6_living) (c_X6_living l G t6 kt6) (ci := 5) kt6 (by decide) rfl rfl k_346 k_347 k_348 k_65 k_349 hd_X6_living ⟨(Nat.le_of_ble_eq_true rfl), (Nat.le_of_ble_eq_true rfl)⟩ rfl (by first | exact Nat.le_of_ble_eq_true rfl | simp [x_crf, Value.category]) rfl rfl D_X8_add_1.2.2.2.2.2.2.2.2.1 ⟨(Nat.le_of_ble_eq_true rfl), (Nat.le_of_ble_eq_true rfl)⟩ (fun r_41 S_41 h_41 => ?_)
        obtain ⟨rfl, rfl⟩ := h_41
        refine x_eqi _ l62 ?_
        refine x_bipush C (v := nI 100) D_X8_add_1.2.2.2.2.2.2.2.2.2.1 (by decide +kernel) ?_
        refine x_icmp_lt C 59 D_X8_add_1.2.2.2.2.2.2.2.2.2.2.1 (by decide) (fun c_46 => ?_) (fun c_46 => ?_)
        · skip
          first
          | have d_46 := cv_lt c_46 (by omega) (by omega)
          | skip
          exfalso; omega
          --end
        · skip
          first
          | have d_46 := cv_nlt c_46 (by omega) (by omega)
          | skip
          refine thr _ _ _ _ _ _ _ 54 _ _ "there is no room for one more key" thr_IS (by decide +kernel) D_X8_add_1.2.2.2.2.2.2.2.2.2.2.2 D_X8_add_2.1 D_X8_add_2.2.1 D_X8_add_2.2.2.1 D_X8_add_2.2.2.2.1 (by first | exact Nat.le_of_ble_eq_true rfl | simp [x_crf, Value.category]) rfl (Nat.le_of_ble_eq_true rfl) (Nat.le_of_ble_eq_true rfl) ?_
          exact ⟨rfl, ow, FR8.refl _ _, hS⟩
      · skip
        exact absurd rfl c_32
        --end
    · skip
      exact absurd hrg.2 c_11
      --end
abbrev rm_X8_addD : Room := { frames := 6, cells := 4, slots := 40, locals := 130 }
theorem hd_X2_enter : yX2_enter.cls ≠ "java/lang/invoke/MethodHandle" ∧ yX2_enter.cls ≠ "java/lang/invoke/VarHandle" ∧ (parseMethodDescriptor yX2_enter.desc).map (fun d => d.parameters.length) = some 1 := by decide +kernel
theorem hd_X6_enter : yX6_enter.cls ≠ "java/lang/invoke/MethodHandle" ∧ yX6_enter.cls ≠ "java/lang/invoke/VarHandle" ∧ (parseMethodDescriptor yX6_enter.desc).map (fun d => d.parameters.length) = some 1 := by decide +kernel
theorem hd_X7_insert : yX7_insert.cls ≠ "java/lang/invoke/MethodHandle" ∧ yX7_insert.cls ≠ "java/lang/invoke/VarHandle" ∧ (parseMethodDescriptor yX7_insert.desc).map (fun d => d.parameters.length) = some 1 := by decide +kernel
theorem hu_X2_enter : "ScapegoatSpur$LazyTree" ≠ "java/lang/invoke/MethodHandle" ∧ "ScapegoatSpur$LazyTree" ≠ "java/lang/invoke/VarHandle" ∧ (parseMethodDescriptor "(I)V").map (fun d => d.parameters.length) = some 1 := by decide +kernel
set_option maxHeartbeats 4000000 in
set_option maxRecDepth 100000 in
theorem c_X8_addD (l : Launch) (G : xG) {K N : Nat → Nat} {I : Nat → Nat → Int32} {Q : Nat → Nat → Option Nat} {J : Nat → Nat → Int64} (ow : xO) (x n m : Nat) (c : Nat → Nat) (al : Nat → Bool) (sp tu pt pc ps : Nat → Nat) (pa : Nat → Bool) (r d u g w : Int32) (k : Nat) (hlt : l.stackTraces = false) (hS : SY ow (K, N, I, Q, J) x n c al sp tu pt m pc pa ps r d u g w) (hk : k < n) (hat : ∀ i, i < n → (al i = true ↔ 0 < tu i)) (hal : al k = false) (hlv : cn al n < 100)  : XMT l yX8_add cX8_add 2 (some .boolean) rm_X8_addD G Rz [.ref x, .int (cv1 (c k))] (K, N, I, Q, J) (fun r_ S1 => r_ = true ∧ ∃ ow1, FR8 ow ow1 (K, N, I, Q, J) S1 ∧ SY ow1 S1 x n c (x_up al k true) sp (balsM n 26 (x_up tu k (hplT n c tu k)) (hplT n c tu k / 2)).1 pt m pc pa ps r d (u + nI (balsM n 26 (x_up tu k (hplT n c tu k)) (hplT n c tu k / 2)).2) g w) (fun _ _ => False) := by
  refine x_metTz (lv := [_, _]) hlt rfl ⟨(Nat.le_of_ble_eq_true rfl), (Nat.le_of_ble_eq_true rfl)⟩ (by decide +kernel) (x_cc (by first | rfl | exact x_crf _) (x_cc (by first | rfl | exact x_crf _) x_cn)) (Nat.le_of_ble_eq_true rfl) rfl ?_
  intro pP eE sS mM aA bB hH cC Z C hini ret thr
  obtain ⟨t1, t7, t6, t5, hX0, H1, H7, H6, H5, hE0, hn, hb⟩ := id hS
  obtain ⟨hx, hox, hq1, hq7, hq6, hq5⟩ := id hX0
  obtain ⟨e1, e2, e3, e4, e5⟩ := id hE0
  have hx : K x = 8 := hx
  have hq1 : Q x 0 = some t1 := hq1
  have hq7 : Q x 1 = some t7 := hq7
  have hq6 : Q x 2 = some t6 := hq6
  have hq5 : Q x 3 = some t5 := hq5
  have kt1 : K t1 = 2 := H1.kc.1
  have kt7 : K t7 = 7 := H7.kc
  have kt6 : K t6 = 6 := H6.kc
  have kt5 : K t5 = 5 := H5.kc.1
  have l1 : I t1 3 = nI (cn al n) := H1.kc.2
  have l5 : I t5 3 = nI (cn pa m) := H5.kc.2.1
  have hm120 := H5.kc.2.2
  have l6 : I t6 1 = nI n := H6.cnt.1
  have l62 : I t6 2 = nI (cn al n) := H6.cnt.2.1
  have hup := H6.cnt.2.2.1
  have hcl := cn_le al n
  have hcm := cn_le pa m
  have e1 : I t1 4 = r := e1
  have e2 : I t1 5 = d := e2
  have e3 : I t7 2 = u := e3
  have e4 : I t6 3 = g := e4
  have e5 : I t5 4 = w := e5
  have hrg := rng_in (hb k hk)
  have htk : tu k = 0 := by
    have h9 := hat k hk
    rw [hal] at h9
    have : ¬ 0 < tu k := fun z => by have := h9.mpr z; cases this
    omega
  refine x_iload_n C D_X8_add_0.1 rfl rfl ?_
  refine x_sipush C (v := (-999)) D_X8_add_0.2.1 (by decide +kernel) ?_
  refine x_icmp_lt C 14 D_X8_add_0.2.2.1 (by decide) (fun c_4 => ?_) (fun c_4 => ?_)
  · skip
    exact absurd c_4 hrg.1
    --end
  · skip
    refine x_iload_n C D_X8_add_0.2.2.2.1 rfl rfl ?_
    refine x_sipush C (v := nI 999) D_X8_add_0.2.2.2.2.1 (by decide +kernel) ?_
    refine x_icmp_le C 24 D_X8_add_0.2.2.2.2.2.1 (by decide) (fun c_11 => ?_) (fun c_11 => ?_)
    · skip
      refine x_aload_n C D_X8_add_0.2.2.2.2.2.2.2.2.2.2.2 rfl rfl (by first | exact Or.inr ⟨_, rfl⟩ | exact va_rf_or _ | exact Or.inl rfl) ?_
      refine x_getQ C (ci := 7) (k0 := 2) hx (by decide) rfl (by decide) in_X8 k_181 rfl rfl D_X8_add_1.1 ?_
      refine x_eqr hq6 ?_
      refine x_iload_n C D_X8_add_1.2.1 rfl rfl ?_
      refine x_callVz C (y := yX6_holds) (k6_holdsY l G H6 hn hk (hb k hk)) (ci := 5) kt6 (by decide) rfl rfl k_196 k_197 k_198 k_65 k_199 hd_X6_holds ⟨(Nat.le_of_ble_eq_true rfl), (Nat.le_of_ble_eq_true rfl)⟩ rfl (by first | exact Nat.le_of_ble_eq_true rfl | simp [x_crf, Value.category]) rfl rfl D_X8_add_1.2.2.1 ⟨(Nat.le_of_ble_eq_true rfl), (Nat.le_of_ble_eq_true rfl)⟩ (fun r_29 S_29 h_29 => ?_)
      obtain ⟨rfl, rfl⟩ := h_29
      rw [hal]
      refine x_if_eq C 37 D_X8_add_1.2.2.2.1 (by decide) (fun c_32 => ?_) (fun c_32 => ?_)
      · skip
        refine x_aload_n C D_X8_add_1.2.2.2.2.2.2.1 rfl rfl (by first | exact Or.inr ⟨_, rfl⟩ | exact va_rf_or _ | exact Or.inl rfl) ?_
        refine x_getQ C (ci := 7) (k0 := 2) hx (by decide) rfl (by decide) in_X8 k_181 rfl rfl D_X8_add_1.2.2.2.2.2.2.2.1 ?_
        refine x_eqr hq6 ?_
        refine x_callVi C (y := yX6_living) (c_X6_living l G t6 kt6) (ci := 5) kt6 (by decide) rfl rfl k_346 k_347 k_348 k_65 k_349 hd_X6_living ⟨(Nat.le_of_ble_eq_true rfl), (Nat.le_of_ble_eq_true rfl)⟩ rfl (by first | exact Nat.le_of_ble_eq_true rfl | simp [x_crf, Value.category]) rfl rfl D_X8_add_1.2.2.2.2.2.2.2.2.1 ⟨(Nat.le_of_ble_eq_true rfl), (Nat.le_of_ble_eq_true rfl)⟩ (fun r_41 S_41 h_41 => ?_)
        obtain ⟨rfl, rfl⟩ := h_41
        refine x_eqi _ l62 ?_
        refine x_bipush C (v := nI 100) D_X8_add_1.2.2.2.2.2.2.2.2.2.1 (by decide +kernel) ?_
        refine x_icmp_lt C 59 D_X8_add_1.2.2.2.2.2.2.2.2.2.2.1 (by decide) (fun c_46 => ?_) (fun c_46 => ?_)
        · skip
          first
          | have d_46 := cv_lt c_46 (by omega) (by omega)
          | skip
          refine x_aload_n C D_X8_add_2.2.2.2.2.1 rfl rfl (by first | exact Or.inr ⟨_, rfl⟩ | exact va_rf_or _ | exact Or.inl rfl) ?_
          refine x_getQ C (ci := 7) (k0 := 0) hx (by decide) rfl (by decide) in_X8 k_179 rfl rfl D_X8_add_2.2.2.2.2.2.1 ?_
          refine x_eqr hq1 ?_
          refine x_iload_n C D_X8_add_2.2.2.2.2.2.2.1 rfl rfl ?_
          refine x_callUv C (x := ⟨"ScapegoatSpur$KeyTree", "enter", "(I)V"⟩) (y := yX2_enter) (owner := "ScapegoatSpur$LazyTree") (k1_enterD l G H1 hn hk (hb k hk) hal) (ci := 1) kt1 (by decide) rfl k_592 k_593 k_595 k_596 k_61 k_597 rfl hu_X2_enter ⟨(Nat.le_of_ble_eq_true rfl), (Nat.le_of_ble_eq_true rfl)⟩ rfl (by first | exact Nat.le_of_ble_eq_true rfl | simp [x_crf, Value.category]) rfl rfl D_X8_add_2.2.2.2.2.2.2.2.1 ⟨(Nat.le_of_ble_eq_true rfl), (Nat.le_of_ble_eq_true rfl)⟩ (fun _ S_64 h_64 => ?_)
          obtain ⟨ow1, hF1, H1a, q4, q5⟩ := h_64
          obtain ⟨K1, N1, I1, Q1, J1⟩ := S_64
          obtain ⟨hx1, hox1, hQ1⟩ := hF1.obj (by omega) hx hox
          have hx1 : K1 x = 8 := hx1
          have hQ1 : Q1 x = Q x := hQ1
          obtain ⟨H7a, b7_1⟩ := H7.agree hF1 (by omega)
          have b7_1 : I1 t7 = I t7 := b7_1
          obtain ⟨H6a, b6_1⟩ := H6.agree hF1 (by omega)
          have b6_1 : I1 t6 = I t6 := b6_1
          obtain ⟨H5a, b5_1⟩ := H5.agree hF1 (by omega)
          have b5_1 : I1 t5 = I t5 := b5_1
          have kt7a : K1 t7 = 7 := H7a.kc
          refine x_aload_n C D_X8_add_2.2.2.2.2.2.2.2.2.1 rfl rfl (by first | exact Or.inr ⟨_, rfl⟩ | exact va_rf_or _ | exact Or.inl rfl) ?_
          refine x_getQ C (ci := 7) (k0 := 1) hx1 (by decide) rfl (by decide) in_X8 k_180 rfl rfl D_X8_add_2.2.2.2.2.2.2.2.2.2.1 ?_
          refine x_eqr (show Q1 x 1 = some t7 by rw [hQ1]; exact hq7) ?_
          refine x_iload_n C D_X8_add_2.2.2.2.2.2.2.2.2.2.2.1 rfl rfl ?_
          refine x_callVv C (y := yX7_insert) (k7_insertE l G H7a hk rfl (hb k hk) htk (by rw [cn_tu hat]; exact hlv)) (ci := 6) kt7a (by decide) rfl rfl k_662 k_663 k_664 k_64 k_665 hd_X7_insert ⟨(Nat.le_of_ble_eq_true rfl), (Nat.le_of_ble_eq_true rfl)⟩ rfl (by first | exact Nat.le_of_ble_eq_true rfl | simp [x_crf, Value.category]) rfl rfl D_X8_add_2.2.2.2.2.2.2.2.2.2.2.2 ⟨(Nat.le_of_ble_eq_true rfl), (Nat.le_of_ble_eq_true rfl)⟩ (fun _ S_72 h_72 => ?_)
          obtain ⟨ow2, hF2, H7b, q2⟩ := h_72
          obtain ⟨K2, N2, I2, Q2, J2⟩ := S_72
          obtain ⟨hx2, hox2, hQ2⟩ := hF2.obj (by omega) hx1 hox1
          have hx2 : K2 x = 8 := hx2
          have hQ2 : Q2 x = Q1 x := hQ2
          obtain ⟨H1b, b1_2⟩ := H1a.agree hF2 (by omega)
          have b1_2 : I2 t1 = I1 t1 := b1_2
          obtain ⟨H6b, b6_2⟩ := H6a.agree hF2 (by omega)
          have b6_2 : I2 t6 = I1 t6 := b6_2
          obtain ⟨H5b, b5_2⟩ := H5a.agree hF2 (by omega)
          have b5_2 : I2 t5 = I1 t5 := b5_2
          have kt6b : K2 t6 = 6 := H6b.kc
          refine x_aload_n C D_X8_add_3.1 rfl rfl (by first | exact Or.inr ⟨_, rfl⟩ | exact va_rf_or _ | exact Or.inl rfl) ?_
          refine x_getQ C (ci := 7) (k0 := 2) hx2 (by decide) rfl (by decide) in_X8 k_181 rfl rfl D_X8_add_3.2.1 ?_
          refine x_eqr (show Q2 x 2 = some t6 by rw [hQ2, hQ1]; exact hq6) ?_
          refine x_iload_n C D_X8_add_3.2.2.1 rfl rfl ?_
          refine x_callVv C (y := yX6_enter) (k6_enterD l G H6b hn hk (hb k hk) hal) (ci := 5) kt6b (by decide) rfl rfl k_668 k_669 k_670 k_65 k_671 hd_X6_enter ⟨(Nat.le_of_ble_eq_true rfl), (Nat.le_of_ble_eq_true rfl)⟩ rfl (by first | exact Nat.le_of_ble_eq_true rfl | simp [x_crf, Value.category]) rfl rfl D_X8_add_3.2.2.2.1 ⟨(Nat.le_of_ble_eq_true rfl), (Nat.le_of_ble_eq_true rfl)⟩ (fun _ S_80 h_80 => ?_)
          obtain ⟨ow3, hF3, H6c, q3⟩ := h_80
          obtain ⟨K3, N3, I3, Q3, J3⟩ := S_80
          obtain ⟨hx3, hox3, hQ3⟩ := hF3.obj (by omega) hx2 hox2
          have hx3 : K3 x = 8 := hx3
          have hQ3 : Q3 x = Q2 x := hQ3
          obtain ⟨H1c, b1_3⟩ := H1b.agree hF3 (by omega)
          have b1_3 : I3 t1 = I2 t1 := b1_3
          obtain ⟨H7c, b7_3⟩ := H7b.agree hF3 (by omega)
          have b7_3 : I3 t7 = I2 t7 := b7_3
          obtain ⟨H5c, b5_3⟩ := H5b.agree hF3 (by omega)
          have b5_3 : I3 t5 = I2 t5 := b5_3
          refine x_iconst C (v := nI 1) D_X8_add_3.2.2.2.2.1 (by decide +kernel) ?_
          refine ret _ _ _ _ _ _ true rfl D_X8_add_3.2.2.2.2.2 (Nat.le_of_ble_eq_true rfl) (Nat.le_of_ble_eq_true rfl) rfl ?_
          exact ⟨rfl, ow3, ((hF1.fr8 (by omega)).trans (hF2.fr8 (by omega))).trans (hF3.fr8 (by omega)), t1, t7, t6, t5, ⟨hx3, hox3, (show Q3 x 0 = some t1 by rw [hQ3, hQ2, hQ1]; exact hq1), (show Q3 x 1 = some t7 by rw [hQ3, hQ2, hQ1]; exact hq7), (show Q3 x 2 = some t6 by rw [hQ3, hQ2, hQ1]; exact hq6), (show Q3 x 3 = some t5 by rw [hQ3, hQ2, hQ1]; exact hq5)⟩, H1c, H7c, H6c, H5c, ⟨(show I3 t1 4 = _ by rw [b1_3, b1_2]; exact q4.trans e1), (show I3 t1 5 = _ by rw [b1_3, b1_2]; exact q5.trans e2), (show I3 t7 2 = _ by rw [b7_3]; exact q2.trans (by rw [b7_1, e3])), (show I3 t6 3 = _ from q3.trans (by show I2 t6 3 = _; rw [b6_2, b6_1]; exact e4)), (show I3 t5 4 = _ by rw [b5_3, b5_2, b5_1]; exact e5)⟩, hn, hb⟩
        · skip
          first
          | have d_46 := cv_nlt c_46 (by omega) (by omega)
          | skip
          exfalso; omega
          --end
      · skip
        exact absurd rfl c_32
        --end
    · skip
      exact absurd hrg.2 c_11
      --end
abbrev rm_X8_addN : Room := { frames := 46, cells := 4, slots := 40, locals := 1075 }
set_option maxHeartbeats 4000000 in
set_option maxRecDepth 100000 in
theorem c_X8_addN (l : Launch) (G : xG) {K N : Nat → Nat} {I : Nat → Nat → Int32} {Q : Nat → Nat → Option Nat} {J : Nat → Nat → Int64} (ow : xO) (x n m : Nat) (c : Nat → Nat) (al : Nat → Bool) (sp tu pt pc ps : Nat → Nat) (pa : Nat → Bool) (r d u g w : Int32) (cc : Nat) (hlt : l.stackTraces = false) (hS : SY ow (K, N, I, Q, J) x n c al sp tu pt m pc pa ps r d u g w) (hat : ∀ i, i < n → (al i = true ↔ 0 < tu i)) (hcb : cc < 1999) (hnew : ∀ i, i < n → c i ≠ cc) (hlv : cn al n < 100) (hdd : n - cn al n ≤ cn al n)  : XMT l yX8_add cX8_add 2 (some .boolean) rm_X8_addN G Rz [.ref x, .int (cv1 cc)] (K, N, I, Q, J) (fun r_ S1 => r_ = true ∧ ∃ ow1, FR8 ow ow1 (K, N, I, Q, J) S1 ∧ SY ow1 S1 x (n + 1) (ins c (insP (fun k => decide (cc < c k)) n) cc) (ins al (insP (fun k => decide (cc < c k)) n) true) (grS (n + 1) (ins sp (insP (fun k => decide (cc < c k)) n) (hpl1 n c sp cc)) (insP (fun k => decide (cc < c k)) n)) (balsM (n + 1) 26 (x_up (ins tu (insP (fun k => decide (cc < c k)) n) 0) (insP (fun k => decide (cc < c k)) n) (hplT (n + 1) (ins c (insP (fun k => decide (cc < c k)) n) cc) (ins tu (insP (fun k => decide (cc < c k)) n) 0) (insP (fun k => decide (cc < c k)) n))) ((hplT (n + 1) (ins c (insP (fun k => decide (cc < c k)) n) cc) (ins tu (insP (fun k => decide (cc < c k)) n) 0) (insP (fun k => decide (cc < c k)) n)) / 2)).1 (mrg (List.range (n + 1)) 8 0 (ins pt (insP (fun k => decide (cc < c k)) n) 0)).1 m pc pa ps (r + nI (grW (n + 1) (ins sp (insP (fun k => decide (cc < c k)) n) (hpl1 n c sp cc)) (insP (fun k => decide (cc < c k)) n))) d (u + nI (balsM (n + 1) 26 (x_up (ins tu (insP (fun k => decide (cc < c k)) n) 0) (insP (fun k => decide (cc < c k)) n) (hplT (n + 1) (ins c (insP (fun k => decide (cc < c k)) n) cc) (ins tu (insP (fun k => decide (cc < c k)) n) 0) (insP (fun k => decide (cc < c k)) n))) ((hplT (n + 1) (ins c (insP (fun k => decide (cc < c k)) n) cc) (ins tu (insP (fun k => decide (cc < c k)) n) 0) (insP (fun k => decide (cc < c k)) n)) / 2)).2) (g + nI (mrg (List.range (n + 1)) 8 0 (ins pt (insP (fun k => decide (cc < c k)) n) 0)).2) w) (fun _ _ => False) := by
  refine x_metTz (lv := [_, _]) hlt rfl ⟨(Nat.le_of_ble_eq_true rfl), (Nat.le_of_ble_eq_true rfl)⟩ (by decide +kernel) (x_cc (by first | rfl | exact x_crf _) (x_cc (by first | rfl | exact x_crf _) x_cn)) (Nat.le_of_ble_eq_true rfl) rfl ?_
  intro pP eE sS mM aA bB hH cC Z C hini ret thr
  obtain ⟨t1, t7, t6, t5, hX0, H1, H7, H6, H5, hE0, hn, hb⟩ := id hS
  obtain ⟨hx, hox, hq1, hq7, hq6, hq5⟩ := id hX0
  obtain ⟨e1, e2, e3, e4, e5⟩ := id hE0
  have hx : K x = 8 := hx
  have hq1 : Q x 0 = some t1 := hq1
  have hq7 : Q x 1 = some t7 := hq7
  have hq6 : Q x 2 = some t6 := hq6
  have hq5 : Q x 3 = some t5 := hq5
  have kt1 : K t1 = 2 := H1.kc.1
  have kt7 : K t7 = 7 := H7.kc
  have kt6 : K t6 = 6 := H6.kc
  have kt5 : K t5 = 5 := H5.kc.1
  have l1 : I t1 3 = nI (cn al n) := H1.kc.2
  have l5 : I t5 3 = nI (cn pa m) := H5.kc.2.1
  have hm120 := H5.kc.2.2
  have l6 : I t6 1 = nI n := H6.cnt.1
  have l62 : I t6 2 = nI (cn al n) := H6.cnt.2.1
  have hup := H6.cnt.2.2.1
  have hcl := cn_le al n
  have hcm := cn_le pa m
  have e1 : I t1 4 = r := e1
  have e2 : I t1 5 = d := e2
  have e3 : I t7 2 = u := e3
  have e4 : I t6 3 = g := e4
  have e5 : I t5 4 = w := e5
  have hrg := rng_in hcb
  have hno : ∀ i, i < n → ¬ cv1 (c i) = cv1 cc := fun i hi e => hnew i hi ((cv1_eq (hb i hi) hcb).mp e)
  have hA := insP_le (fun k => decide (cc < c k)) n
  have hn2 : n < 200 := by omega
  refine x_iload_n C D_X8_add_0.1 rfl rfl ?_
  refine x_sipush C (v := (-999)) D_X8_add_0.2.1 (by decide +kernel) ?_
  refine x_icmp_lt C 14 D_X8_add_0.2.2.1 (by decide) (fun c_4 => ?_) (fun c_4 => ?_)
  · skip
    exact absurd c_4 hrg.1
    --end
  · skip
    refine x_iload_n C D_X8_add_0.2.2.2.1 rfl rfl ?_
    refine x_sipush C (v := nI 999) D_X8_add_0.2.2.2.2.1 (by decide +kernel) ?_
    refine x_icmp_le C 24 D_X8_add_0.2.2.2.2.2.1 (by decide) (fun c_11 => ?_) (fun c_11 => ?_)
    · skip
      refine x_aload_n C D_X8_add_0.2.2.2.2.2.2.2.2.2.2.2 rfl rfl (by first | exact Or.inr ⟨_, rfl⟩ | exact va_rf_or _ | exact Or.inl rfl) ?_
      refine x_getQ C (ci := 7) (k0 := 2) hx (by decide) rfl (by decide) in_X8 k_181 rfl rfl D_X8_add_1.1 ?_
      refine x_eqr hq6 ?_
      refine x_iload_n C D_X8_add_1.2.1 rfl rfl ?_
      refine x_callVz C (y := yX6_holds) (k6_holdsN l G H6 hn hno) (ci := 5) kt6 (by decide) rfl rfl k_196 k_197 k_198 k_65 k_199 hd_X6_holds ⟨(Nat.le_of_ble_eq_true rfl), (Nat.le_of_ble_eq_true rfl)⟩ rfl (by first | exact Nat.le_of_ble_eq_true rfl | simp [x_crf, Value.category]) rfl rfl D_X8_add_1.2.2.1 ⟨(Nat.le_of_ble_eq_true rfl), (Nat.le_of_ble_eq_true rfl)⟩ (fun r_29 S_29 h_29 => ?_)
      obtain ⟨rfl, rfl⟩ := h_29
      refine x_if_eq C 37 D_X8_add_1.2.2.2.1 (by decide) (fun c_32 => ?_) (fun c_32 => ?_)
      · skip
        refine x_aload_n C D_X8_add_1.2.2.2.2.2.2.1 rfl rfl (by first | exact Or.inr ⟨_, rfl⟩ | exact va_rf_or _ | exact Or.inl rfl) ?_
        refine x_getQ C (ci := 7) (k0 := 2) hx (by decide) rfl (by decide) in_X8 k_181 rfl rfl D_X8_add_1.2.2.2.2.2.2.2.1 ?_
        refine x_eqr hq6 ?_
        refine x_callVi C (y := yX6_living) (c_X6_living l G t6 kt6) (ci := 5) kt6 (by decide) rfl rfl k_346 k_347 k_348 k_65 k_349 hd_X6_living ⟨(Nat.le_of_ble_eq_true rfl), (Nat.le_of_ble_eq_true rfl)⟩ rfl (by first | exact Nat.le_of_ble_eq_true rfl | simp [x_crf, Value.category]) rfl rfl D_X8_add_1.2.2.2.2.2.2.2.2.1 ⟨(Nat.le_of_ble_eq_true rfl), (Nat.le_of_ble_eq_true rfl)⟩ (fun r_41 S_41 h_41 => ?_)
        obtain ⟨rfl, rfl⟩ := h_41
        refine x_eqi _ l62 ?_
        refine x_bipush C (v := nI 100) D_X8_add_1.2.2.2.2.2.2.2.2.2.1 (by decide +kernel) ?_
        refine x_icmp_lt C 59 D_X8_add_1.2.2.2.2.2.2.2.2.2.2.1 (by decide) (fun c_46 => ?_) (fun c_46 => ?_)
        · skip
          first
          | have d_46 := cv_lt c_46 (by omega) (by omega)
          | skip
          refine x_aload_n C D_X8_add_2.2.2.2.2.1 rfl rfl (by first | exact Or.inr ⟨_, rfl⟩ | exact va_rf_or _ | exact Or.inl rfl) ?_
          refine x_getQ C (ci := 7) (k0 := 0) hx (by decide) rfl (by decide) in_X8 k_179 rfl rfl D_X8_add_2.2.2.2.2.2.1 ?_
          refine x_eqr hq1 ?_
          refine x_iload_n C D_X8_add_2.2.2.2.2.2.2.1 rfl rfl ?_
          refine x_callUv C (x := ⟨"ScapegoatSpur$KeyTree", "enter", "(I)V"⟩) (y := yX2_enter) (owner := "ScapegoatSpur$LazyTree") (k1_enterN l G H1 hn hn2 hcb hnew) (ci := 1) kt1 (by decide) rfl k_592 k_593 k_595 k_596 k_61 k_597 rfl hu_X2_enter ⟨(Nat.le_of_ble_eq_true rfl), (Nat.le_of_ble_eq_true rfl)⟩ rfl (by first | exact Nat.le_of_ble_eq_true rfl | simp [x_crf, Value.category]) rfl rfl D_X8_add_2.2.2.2.2.2.2.2.1 ⟨(Nat.le_of_ble_eq_true rfl), (Nat.le_of_ble_eq_true rfl)⟩ (fun _ S_64 h_64 => ?_)
          obtain ⟨ow1, hF1, H1a, q4, q5⟩ := h_64
          obtain ⟨K1, N1, I1, Q1, J1⟩ := S_64
          obtain ⟨hx1, hox1, hQ1⟩ := hF1.obj (by omega) hx hox
          have hx1 : K1 x = 8 := hx1
          have hQ1 : Q1 x = Q x := hQ1
          obtain ⟨H7a, b7_1⟩ := H7.agree hF1 (by omega)
          have b7_1 : I1 t7 = I t7 := b7_1
          obtain ⟨H6a, b6_1⟩ := H6.agree hF1 (by omega)
          have b6_1 : I1 t6 = I t6 := b6_1
          obtain ⟨H5a, b5_1⟩ := H5.agree hF1 (by omega)
          have b5_1 : I1 t5 = I t5 := b5_1
          have kt7a : K1 t7 = 7 := H7a.kc
          have H7z := H7a.ins0 hnew
          refine x_aload_n C D_X8_add_2.2.2.2.2.2.2.2.2.1 rfl rfl (by first | exact Or.inr ⟨_, rfl⟩ | exact va_rf_or _ | exact Or.inl rfl) ?_
          refine x_getQ C (ci := 7) (k0 := 1) hx1 (by decide) rfl (by decide) in_X8 k_180 rfl rfl D_X8_add_2.2.2.2.2.2.2.2.2.2.1 ?_
          refine x_eqr (show Q1 x 1 = some t7 by rw [hQ1]; exact hq7) ?_
          refine x_iload_n C D_X8_add_2.2.2.2.2.2.2.2.2.2.2.1 rfl rfl ?_
          refine x_callVv C (y := yX7_insert) (k7_insertE l G H7z (by omega) ins_at hcb ins_at (by rw [cn_tu0 hA, cn_tu hat]; exact hlv)) (ci := 6) kt7a (by decide) rfl rfl k_662 k_663 k_664 k_64 k_665 hd_X7_insert ⟨(Nat.le_of_ble_eq_true rfl), (Nat.le_of_ble_eq_true rfl)⟩ rfl (by first | exact Nat.le_of_ble_eq_true rfl | simp [x_crf, Value.category]) rfl rfl D_X8_add_2.2.2.2.2.2.2.2.2.2.2.2 ⟨(Nat.le_of_ble_eq_true rfl), (Nat.le_of_ble_eq_true rfl)⟩ (fun _ S_72 h_72 => ?_)
          obtain ⟨ow2, hF2, H7b, q2⟩ := h_72
          obtain ⟨K2, N2, I2, Q2, J2⟩ := S_72
          obtain ⟨hx2, hox2, hQ2⟩ := hF2.obj (by omega) hx1 hox1
          have hx2 : K2 x = 8 := hx2
          have hQ2 : Q2 x = Q1 x := hQ2
          obtain ⟨H1b, b1_2⟩ := H1a.agree hF2 (by omega)
          have b1_2 : I2 t1 = I1 t1 := b1_2
          obtain ⟨H6b, b6_2⟩ := H6a.agree hF2 (by omega)
          have b6_2 : I2 t6 = I1 t6 := b6_2
          obtain ⟨H5b, b5_2⟩ := H5a.agree hF2 (by omega)
          have b5_2 : I2 t5 = I1 t5 := b5_2
          have kt6b : K2 t6 = 6 := H6b.kc
          refine x_aload_n C D_X8_add_3.1 rfl rfl (by first | exact Or.inr ⟨_, rfl⟩ | exact va_rf_or _ | exact Or.inl rfl) ?_
          refine x_getQ C (ci := 7) (k0 := 2) hx2 (by decide) rfl (by decide) in_X8 k_181 rfl rfl D_X8_add_3.2.1 ?_
          refine x_eqr (show Q2 x 2 = some t6 by rw [hQ2, hQ1]; exact hq6) ?_
          refine x_iload_n C D_X8_add_3.2.2.1 rfl rfl ?_
          refine x_callVv C (y := yX6_enter) (k6_enterN l G H6b hn hcb hnew) (ci := 5) kt6b (by decide) rfl rfl k_668 k_669 k_670 k_65 k_671 hd_X6_enter ⟨(Nat.le_of_ble_eq_true rfl), (Nat.le_of_ble_eq_true rfl)⟩ rfl (by first | exact Nat.le_of_ble_eq_true rfl | simp [x_crf, Value.category]) rfl rfl D_X8_add_3.2.2.2.1 ⟨(Nat.le_of_ble_eq_true rfl), (Nat.le_of_ble_eq_true rfl)⟩ (fun _ S_80 h_80 => ?_)
          obtain ⟨ow3, hF3, H6c, q3⟩ := h_80
          obtain ⟨K3, N3, I3, Q3, J3⟩ := S_80
          obtain ⟨hx3, hox3, hQ3⟩ := hF3.obj (by omega) hx2 hox2
          have hx3 : K3 x = 8 := hx3
          have hQ3 : Q3 x = Q2 x := hQ3
          obtain ⟨H1c, b1_3⟩ := H1b.agree hF3 (by omega)
          have b1_3 : I3 t1 = I2 t1 := b1_3
          obtain ⟨H7c, b7_3⟩ := H7b.agree hF3 (by omega)
          have b7_3 : I3 t7 = I2 t7 := b7_3
          obtain ⟨H5c, b5_3⟩ := H5b.agree hF3 (by omega)
          have b5_3 : I3 t5 = I2 t5 := b5_3
          refine x_iconst C (v := nI 1) D_X8_add_3.2.2.2.2.1 (by decide +kernel) ?_
          refine ret _ _ _ _ _ _ true rfl D_X8_add_3.2.2.2.2.2 (Nat.le_of_ble_eq_true rfl) (Nat.le_of_ble_eq_true rfl) rfl ?_
          exact ⟨rfl, ow3, ((hF1.fr8 (by omega)).trans (hF2.fr8 (by omega))).trans (hF3.fr8 (by omega)), t1, t7, t6, t5, ⟨hx3, hox3, (show Q3 x 0 = some t1 by rw [hQ3, hQ2, hQ1]; exact hq1), (show Q3 x 1 = some t7 by rw [hQ3, hQ2, hQ1]; exact hq7), (show Q3 x 2 = some t6 by rw [hQ3, hQ2, hQ1]; exact hq6), (show Q3 x 3 = some t5 by rw [hQ3, hQ2, hQ1]; exact hq5)⟩, H1c, H7c, H6c, H5c, ⟨(show I3 t1 4 = _ by rw [b1_3, b1_2]; exact q4.trans (by show I t1 4 + _ = _; rw [e1])), (show I3 t1 5 = _ by rw [b1_3, b1_2]; exact q5.trans e2), (show I3 t7 2 = _ by rw [b7_3]; exact q2.trans (by rw [b7_1, e3])), (show I3 t6 3 = _ from q3.trans (by show I2 t6 3 + _ = _; rw [b6_2, b6_1, e4])), (show I3 t5 4 = _ by rw [b5_3, b5_2, b5_1]; exact e5)⟩, (by omega), (ins_bd hb hcb hA)⟩
        · skip
          first
          | have d_46 := cv_nlt c_46 (by omega) (by omega)
          | skip
          exfalso; omega
          --end
      · skip
        exact absurd rfl c_32
        --end
    · skip
      exact absurd hrg.2 c_11
      --end
abbrev rm_X8_removeN : Room := { frames := 2, cells := 0, slots := 0, locals := 44 }
set_option maxHeartbeats 4000000 in
set_option maxRecDepth 100000 in
theorem c_X8_removeN (l : Launch) (G : xG) {K N : Nat → Nat} {I : Nat → Nat → Int32} {Q : Nat → Nat → Option Nat} {J : Nat → Nat → Int64} (ow : xO) (x n m : Nat) (c : Nat → Nat) (al : Nat → Bool) (sp tu pt pc ps : Nat → Nat) (pa : Nat → Bool) (r d u g w : Int32) (y : Int32) (hS : SY ow (K, N, I, Q, J) x n c al sp tu pt m pc pa ps r d u g w) (hno : ∀ i, i < n → ¬ cv1 (c i) = y)  : XM l yX8_remove cX8_remove 2 (some .boolean) rm_X8_removeN G Rz [.ref x, .int y] (K, N, I, Q, J) (fun r_ S1 => r_ = false ∧ S1 = (K, N, I, Q, J)) := by
  refine x_metz (lv := [_, _]) (by decide +kernel) (x_cc (by first | rfl | exact x_crf _) (x_cc (by first | rfl | exact x_crf _) x_cn)) (Nat.le_of_ble_eq_true rfl) rfl ?_
  intro pP eE sS mM aA bB hH cC Z C hini ret
  obtain ⟨t1, t7, t6, t5, hX0, H1, H7, H6, H5, hE0, hn, hb⟩ := id hS
  obtain ⟨hx, hox, hq1, hq7, hq6, hq5⟩ := id hX0
  obtain ⟨e1, e2, e3, e4, e5⟩ := id hE0
  have hx : K x = 8 := hx
  have hq1 : Q x 0 = some t1 := hq1
  have hq7 : Q x 1 = some t7 := hq7
  have hq6 : Q x 2 = some t6 := hq6
  have hq5 : Q x 3 = some t5 := hq5
  have kt1 : K t1 = 2 := H1.kc.1
  have kt7 : K t7 = 7 := H7.kc
  have kt6 : K t6 = 6 := H6.kc
  have kt5 : K t5 = 5 := H5.kc.1
  have l1 : I t1 3 = nI (cn al n) := H1.kc.2
  have l5 : I t5 3 = nI (cn pa m) := H5.kc.2.1
  have hm120 := H5.kc.2.2
  have l6 : I t6 1 = nI n := H6.cnt.1
  have l62 : I t6 2 = nI (cn al n) := H6.cnt.2.1
  have hup := H6.cnt.2.2.1
  have hcl := cn_le al n
  have hcm := cn_le pa m
  have e1 : I t1 4 = r := e1
  have e2 : I t1 5 = d := e2
  have e3 : I t7 2 = u := e3
  have e4 : I t6 3 = g := e4
  have e5 : I t5 4 = w := e5
  refine x_aload_n C D_X8_remove_0.1 rfl rfl (by first | exact Or.inr ⟨_, rfl⟩ | exact va_rf_or _ | exact Or.inl rfl) ?_
  refine x_getQ C (ci := 7) (k0 := 2) hx (by decide) rfl (by decide) in_X8 k_181 rfl rfl D_X8_remove_0.2.1 ?_
  refine x_eqr hq6 ?_
  refine x_iload_n C D_X8_remove_0.2.2.1 rfl rfl ?_
  refine x_callVz C (y := yX6_holds) (k6_holdsN l G H6 hn hno) (ci := 5) kt6 (by decide) rfl rfl k_196 k_197 k_198 k_65 k_199 hd_X6_holds ⟨(Nat.le_of_ble_eq_true rfl), (Nat.le_of_ble_eq_true rfl)⟩ rfl (by first | exact Nat.le_of_ble_eq_true rfl | simp [x_crf, Value.category]) rfl rfl D_X8_remove_0.2.2.2.1 ⟨(Nat.le_of_ble_eq_true rfl), (Nat.le_of_ble_eq_true rfl)⟩ (fun r_5 S_5 h_5 => ?_)
  obtain ⟨rfl, rfl⟩ := h_5
  refine x_if_ne C 13 D_X8_remove_0.2.2.2.2.1 (by decide) (fun c_8 => ?_) (fun c_8 => ?_)
  · skip
    exact absurd rfl c_8
    --end
  · skip
    refine x_iconst C (v := nI 0) D_X8_remove_0.2.2.2.2.2.1 (by decide +kernel) ?_
    refine ret _ _ _ _ _ _ false rfl D_X8_remove_0.2.2.2.2.2.2.1 (Nat.le_of_ble_eq_true rfl) (Nat.le_of_ble_eq_true rfl) rfl ?_
    exact ⟨rfl, rfl⟩
abbrev rm_X8_removeG : Room := { frames := 2, cells := 0, slots := 0, locals := 44 }
set_option maxHeartbeats 4000000 in
set_option maxRecDepth 100000 in
theorem c_X8_removeG (l : Launch) (G : xG) {K N : Nat → Nat} {I : Nat → Nat → Int32} {Q : Nat → Nat → Option Nat} {J : Nat → Nat → Int64} (ow : xO) (x n m : Nat) (c : Nat → Nat) (al : Nat → Bool) (sp tu pt pc ps : Nat → Nat) (pa : Nat → Bool) (r d u g w : Int32) (k : Nat) (hS : SY ow (K, N, I, Q, J) x n c al sp tu pt m pc pa ps r d u g w) (hk : k < n) (hal : al k = false)  : XM l yX8_remove cX8_remove 2 (some .boolean) rm_X8_removeG G Rz [.ref x, .int (cv1 (c k))] (K, N, I, Q, J) (fun r_ S1 => r_ = false ∧ S1 = (K, N, I, Q, J)) := by
  refine x_metz (lv := [_, _]) (by decide +kernel) (x_cc (by first | rfl | exact x_crf _) (x_cc (by first | rfl | exact x_crf _) x_cn)) (Nat.le_of_ble_eq_true rfl) rfl ?_
  intro pP eE sS mM aA bB hH cC Z C hini ret
  obtain ⟨t1, t7, t6, t5, hX0, H1, H7, H6, H5, hE0, hn, hb⟩ := id hS
  obtain ⟨hx, hox, hq1, hq7, hq6, hq5⟩ := id hX0
  obtain ⟨e1, e2, e3, e4, e5⟩ := id hE0
  have hx : K x = 8 := hx
  have hq1 : Q x 0 = some t1 := hq1
  have hq7 : Q x 1 = some t7 := hq7
  have hq6 : Q x 2 = some t6 := hq6
  have hq5 : Q x 3 = some t5 := hq5
  have kt1 : K t1 = 2 := H1.kc.1
  have kt7 : K t7 = 7 := H7.kc
  have kt6 : K t6 = 6 := H6.kc
  have kt5 : K t5 = 5 := H5.kc.1
  have l1 : I t1 3 = nI (cn al n) := H1.kc.2
  have l5 : I t5 3 = nI (cn pa m) := H5.kc.2.1
  have hm120 := H5.kc.2.2
  have l6 : I t6 1 = nI n := H6.cnt.1
  have l62 : I t6 2 = nI (cn al n) := H6.cnt.2.1
  have hup := H6.cnt.2.2.1
  have hcl := cn_le al n
  have hcm := cn_le pa m
  have e1 : I t1 4 = r := e1
  have e2 : I t1 5 = d := e2
  have e3 : I t7 2 = u := e3
  have e4 : I t6 3 = g := e4
  have e5 : I t5 4 = w := e5
  refine x_aload_n C D_X8_remove_0.1 rfl rfl (by first | exact Or.inr ⟨_, rfl⟩ | exact va_rf_or _ | exact Or.inl rfl) ?_
  refine x_getQ C (ci := 7) (k0 := 2) hx (by decide) rfl (by decide) in_X8 k_181 rfl rfl D_X8_remove_0.2.1 ?_
  refine x_eqr hq6 ?_
  refine x_iload_n C D_X8_remove_0.2.2.1 rfl rfl ?_
  refine x_callVz C (y := yX6_holds) (k6_holdsY l G H6 hn hk (hb k hk)) (ci := 5) kt6 (by decide) rfl rfl k_196 k_197 k_198 k_65 k_199 hd_X6_holds ⟨(Nat.le_of_ble_eq_true rfl), (Nat.le_of_ble_eq_true rfl)⟩ rfl (by first | exact Nat.le_of_ble_eq_true rfl | simp [x_crf, Value.category]) rfl rfl D_X8_remove_0.2.2.2.1 ⟨(Nat.le_of_ble_eq_true rfl), (Nat.le_of_ble_eq_true rfl)⟩ (fun r_5 S_5 h_5 => ?_)
  obtain ⟨rfl, rfl⟩ := h_5
  rw [hal]
  refine x_if_ne C 13 D_X8_remove_0.2.2.2.2.1 (by decide) (fun c_8 => ?_) (fun c_8 => ?_)
  · skip
    exact absurd rfl c_8
    --end
  · skip
    refine x_iconst C (v := nI 0) D_X8_remove_0.2.2.2.2.2.1 (by decide +kernel) ?_
    refine ret _ _ _ _ _ _ false rfl D_X8_remove_0.2.2.2.2.2.2.1 (Nat.le_of_ble_eq_true rfl) (Nat.le_of_ble_eq_true rfl) rfl ?_
    exact ⟨rfl, rfl⟩
abbrev rm_X8_removeK : Room := { frames := 46, cells := 0, slots := 0, locals := 1070 }
theorem hd_X2_retire : yX2_retire.cls ≠ "java/lang/invoke/MethodHandle" ∧ yX2_retire.cls ≠ "java/lang/invoke/VarHandle" ∧ (parseMethodDescriptor yX2_retire.desc).map (fun d => d.parameters.length) = some 1 := by decide +kernel
theorem hd_X6_retire : yX6_retire.cls ≠ "java/lang/invoke/MethodHandle" ∧ yX6_retire.cls ≠ "java/lang/invoke/VarHandle" ∧ (parseMethodDescriptor yX6_retire.desc).map (fun d => d.parameters.length) = some 1 := by decide +kernel
theorem hd_X7_delete : yX7_delete.cls ≠ "java/lang/invoke/MethodHandle" ∧ yX7_delete.cls ≠ "java/lang/invoke/VarHandle" ∧ (parseMethodDescriptor yX7_delete.desc).map (fun d => d.parameters.length) = some 1 := by decide +kernel
theorem hu_X2_retire : "ScapegoatSpur$LazyTree" ≠ "java/lang/invoke/MethodHandle" ∧ "ScapegoatSpur$LazyTree" ≠ "java/lang/invoke/VarHandle" ∧ (parseMethodDescriptor "(I)V").map (fun d => d.parameters.length) = some 1 := by decide +kernel
set_option maxHeartbeats 4000000 in
set_option maxRecDepth 100000 in
theorem c_X8_removeK (l : Launch) (G : xG) {K N : Nat → Nat} {I : Nat → Nat → Int32} {Q : Nat → Nat → Option Nat} {J : Nat → Nat → Int64} (ow : xO) (x n m : Nat) (c : Nat → Nat) (al : Nat → Bool) (sp tu pt pc ps : Nat → Nat) (pa : Nat → Bool) (r d u g w : Int32) (k : Nat) (hS : SY ow (K, N, I, Q, J) x n c al sp tu pt m pc pa ps r d u g w) (hk : k < n) (hat : ∀ i, i < n → (al i = true ↔ 0 < tu i)) (hal : al k = true) (hcond : n - (cn (x_up al k false) n) ≤ (cn (x_up al k false) n))  : XM l yX8_remove cX8_remove 2 (some .boolean) rm_X8_removeK G Rz [.ref x, .int (cv1 (c k))] (K, N, I, Q, J) (fun r_ S1 => r_ = true ∧ ∃ ow1, FR8 ow ow1 (K, N, I, Q, J) S1 ∧ SY ow1 S1 x n c (x_up al k false) sp (balsM n 26 (mvuM n (levM n tu k).1 (levM n tu k).2) ((levM n tu k).2 / 2)).1 pt m pc pa ps r d (u + nI (balsM n 26 (mvuM n (levM n tu k).1 (levM n tu k).2) ((levM n tu k).2 / 2)).2) g w) := by
  refine x_metz (lv := [_, _]) (by decide +kernel) (x_cc (by first | rfl | exact x_crf _) (x_cc (by first | rfl | exact x_crf _) x_cn)) (Nat.le_of_ble_eq_true rfl) rfl ?_
  intro pP eE sS mM aA bB hH cC Z C hini ret
  obtain ⟨t1, t7, t6, t5, hX0, H1, H7, H6, H5, hE0, hn, hb⟩ := id hS
  obtain ⟨hx, hox, hq1, hq7, hq6, hq5⟩ := id hX0
  obtain ⟨e1, e2, e3, e4, e5⟩ := id hE0
  have hx : K x = 8 := hx
  have hq1 : Q x 0 = some t1 := hq1
  have hq7 : Q x 1 = some t7 := hq7
  have hq6 : Q x 2 = some t6 := hq6
  have hq5 : Q x 3 = some t5 := hq5
  have kt1 : K t1 = 2 := H1.kc.1
  have kt7 : K t7 = 7 := H7.kc
  have kt6 : K t6 = 6 := H6.kc
  have kt5 : K t5 = 5 := H5.kc.1
  have l1 : I t1 3 = nI (cn al n) := H1.kc.2
  have l5 : I t5 3 = nI (cn pa m) := H5.kc.2.1
  have hm120 := H5.kc.2.2
  have l6 : I t6 1 = nI n := H6.cnt.1
  have l62 : I t6 2 = nI (cn al n) := H6.cnt.2.1
  have hup := H6.cnt.2.2.1
  have hcl := cn_le al n
  have hcm := cn_le pa m
  have e1 : I t1 4 = r := e1
  have e2 : I t1 5 = d := e2
  have e3 : I t7 2 = u := e3
  have e4 : I t6 3 = g := e4
  have e5 : I t5 4 = w := e5
  have htk : 0 < tu k := (hat k hk).mp hal
  have hdl := H7.del hk htk
  have hlv9 := cn_le (x_up al k false) n
  refine x_aload_n C D_X8_remove_0.1 rfl rfl (by first | exact Or.inr ⟨_, rfl⟩ | exact va_rf_or _ | exact Or.inl rfl) ?_
  refine x_getQ C (ci := 7) (k0 := 2) hx (by decide) rfl (by decide) in_X8 k_181 rfl rfl D_X8_remove_0.2.1 ?_
  refine x_eqr hq6 ?_
  refine x_iload_n C D_X8_remove_0.2.2.1 rfl rfl ?_
  refine x_callVz C (y := yX6_holds) (k6_holdsY l G H6 hn hk (hb k hk)) (ci := 5) kt6 (by decide) rfl rfl k_196 k_197 k_198 k_65 k_199 hd_X6_holds ⟨(Nat.le_of_ble_eq_true rfl), (Nat.le_of_ble_eq_true rfl)⟩ rfl (by first | exact Nat.le_of_ble_eq_true rfl | simp [x_crf, Value.category]) rfl rfl D_X8_remove_0.2.2.2.1 ⟨(Nat.le_of_ble_eq_true rfl), (Nat.le_of_ble_eq_true rfl)⟩ (fun r_5 S_5 h_5 => ?_)
  obtain ⟨rfl, rfl⟩ := h_5
  rw [hal]
  refine x_if_ne C 13 D_X8_remove_0.2.2.2.2.1 (by decide) (fun c_8 => ?_) (fun c_8 => ?_)
  · skip
    refine x_aload_n C D_X8_remove_0.2.2.2.2.2.2.2.1 rfl rfl (by first | exact Or.inr ⟨_, rfl⟩ | exact va_rf_or _ | exact Or.inl rfl) ?_
    refine x_getQ C (ci := 7) (k0 := 0) hx (by decide) rfl (by decide) in_X8 k_179 rfl rfl D_X8_remove_0.2.2.2.2.2.2.2.2.1 ?_
    refine x_eqr hq1 ?_
    refine x_iload_n C D_X8_remove_0.2.2.2.2.2.2.2.2.2.1 rfl rfl ?_
    refine x_callUv C (x := ⟨"ScapegoatSpur$KeyTree", "retire", "(I)V"⟩) (y := yX2_retire) (owner := "ScapegoatSpur$LazyTree") (k1_retireK l G H1 hn hk (hb k hk) hal hcond) (ci := 1) kt1 (by decide) rfl k_204 k_205 k_207 k_208 k_61 k_209 rfl hu_X2_retire ⟨(Nat.le_of_ble_eq_true rfl), (Nat.le_of_ble_eq_true rfl)⟩ rfl (by first | exact Nat.le_of_ble_eq_true rfl | simp [x_crf, Value.category]) rfl rfl D_X8_remove_0.2.2.2.2.2.2.2.2.2.2.1 ⟨(Nat.le_of_ble_eq_true rfl), (Nat.le_of_ble_eq_true rfl)⟩ (fun _ S_18 h_18 => ?_)
    obtain ⟨ow1, hF1, H1a, q4, q5⟩ := h_18
    obtain ⟨K1, N1, I1, Q1, J1⟩ := S_18
    obtain ⟨hx1, hox1, hQ1⟩ := hF1.obj (by omega) hx hox
    have hx1 : K1 x = 8 := hx1
    have hQ1 : Q1 x = Q x := hQ1
    obtain ⟨H7a, b7_1⟩ := H7.agree hF1 (by omega)
    have b7_1 : I1 t7 = I t7 := b7_1
    obtain ⟨H6a, b6_1⟩ := H6.agree hF1 (by omega)
    have b6_1 : I1 t6 = I t6 := b6_1
    obtain ⟨H5a, b5_1⟩ := H5.agree hF1 (by omega)
    have b5_1 : I1 t5 = I t5 := b5_1
    have kt7a : K1 t7 = 7 := H7a.kc
    refine x_aload_n C D_X8_remove_0.2.2.2.2.2.2.2.2.2.2.2 rfl rfl (by first | exact Or.inr ⟨_, rfl⟩ | exact va_rf_or _ | exact Or.inl rfl) ?_
    refine x_getQ C (ci := 7) (k0 := 1) hx1 (by decide) rfl (by decide) in_X8 k_180 rfl rfl D_X8_remove_1.1 ?_
    refine x_eqr (show Q1 x 1 = some t7 by rw [hQ1]; exact hq7) ?_
    refine x_iload_n C D_X8_remove_1.2.1 rfl rfl ?_
    refine x_callVv C (y := yX7_delete) (k7_delete l G H7a hk (hb k hk) htk) (ci := 6) kt7a (by decide) rfl rfl k_280 k_281 k_282 k_64 k_283 hd_X7_delete ⟨(Nat.le_of_ble_eq_true rfl), (Nat.le_of_ble_eq_true rfl)⟩ rfl (by first | exact Nat.le_of_ble_eq_true rfl | simp [x_crf, Value.category]) rfl rfl D_X8_remove_1.2.2.1 ⟨(Nat.le_of_ble_eq_true rfl), (Nat.le_of_ble_eq_true rfl)⟩ (fun _ S_26 h_26 => ?_)
    obtain ⟨ow2, hF2, H7b, q2⟩ := h_26
    obtain ⟨K2, N2, I2, Q2, J2⟩ := S_26
    obtain ⟨hx2, hox2, hQ2⟩ := hF2.obj (by omega) hx1 hox1
    have hx2 : K2 x = 8 := hx2
    have hQ2 : Q2 x = Q1 x := hQ2
    obtain ⟨H1b, b1_2⟩ := H1a.agree hF2 (by omega)
    have b1_2 : I2 t1 = I1 t1 := b1_2
    obtain ⟨H6b, b6_2⟩ := H6a.agree hF2 (by omega)
    have b6_2 : I2 t6 = I1 t6 := b6_2
    obtain ⟨H5b, b5_2⟩ := H5a.agree hF2 (by omega)
    have b5_2 : I2 t5 = I1 t5 := b5_2
    have kt6b : K2 t6 = 6 := H6b.kc
    refine x_aload_n C D_X8_remove_1.2.2.2.1 rfl rfl (by first | exact Or.inr ⟨_, rfl⟩ | exact va_rf_or _ | exact Or.inl rfl) ?_
    refine x_getQ C (ci := 7) (k0 := 2) hx2 (by decide) rfl (by decide) in_X8 k_181 rfl rfl D_X8_remove_1.2.2.2.2.1 ?_
    refine x_eqr (show Q2 x 2 = some t6 by rw [hQ2, hQ1]; exact hq6) ?_
    refine x_iload_n C D_X8_remove_1.2.2.2.2.2.1 rfl rfl ?_
    refine x_callVv C (y := yX6_retire) (k6_retireK l G H6b hn hk (hb k hk) hal hcond) (ci := 5) kt6b (by decide) rfl rfl k_323 k_324 k_325 k_65 k_326 hd_X6_retire ⟨(Nat.le_of_ble_eq_true rfl), (Nat.le_of_ble_eq_true rfl)⟩ rfl (by first | exact Nat.le_of_ble_eq_true rfl | simp [x_crf, Value.category]) rfl rfl D_X8_remove_1.2.2.2.2.2.2.1 ⟨(Nat.le_of_ble_eq_true rfl), (Nat.le_of_ble_eq_true rfl)⟩ (fun _ S_34 h_34 => ?_)
    obtain ⟨ow3, hF3, H6c, q3⟩ := h_34
    obtain ⟨K3, N3, I3, Q3, J3⟩ := S_34
    obtain ⟨hx3, hox3, hQ3⟩ := hF3.obj (by omega) hx2 hox2
    have hx3 : K3 x = 8 := hx3
    have hQ3 : Q3 x = Q2 x := hQ3
    obtain ⟨H1c, b1_3⟩ := H1b.agree hF3 (by omega)
    have b1_3 : I3 t1 = I2 t1 := b1_3
    obtain ⟨H7c, b7_3⟩ := H7b.agree hF3 (by omega)
    have b7_3 : I3 t7 = I2 t7 := b7_3
    obtain ⟨H5c, b5_3⟩ := H5b.agree hF3 (by omega)
    have b5_3 : I3 t5 = I2 t5 := b5_3
    refine x_iconst C (v := nI 1) D_X8_remove_1.2.2.2.2.2.2.2.1 (by decide +kernel) ?_
    refine ret _ _ _ _ _ _ true rfl D_X8_remove_1.2.2.2.2.2.2.2.2 (Nat.le_of_ble_eq_true rfl) (Nat.le_of_ble_eq_true rfl) rfl ?_
    exact ⟨rfl, ow3, ((hF1.fr8 (by omega)).trans (hF2.fr8 (by omega))).trans (hF3.fr8 (by omega)), t1, t7, t6, t5, ⟨hx3, hox3, (show Q3 x 0 = some t1 by rw [hQ3, hQ2, hQ1]; exact hq1), (show Q3 x 1 = some t7 by rw [hQ3, hQ2, hQ1]; exact hq7), (show Q3 x 2 = some t6 by rw [hQ3, hQ2, hQ1]; exact hq6), (show Q3 x 3 = some t5 by rw [hQ3, hQ2, hQ1]; exact hq5)⟩, H1c, H7c, H6c, H5c, ⟨(show I3 t1 4 = _ by rw [b1_3, b1_2]; exact q4.trans e1), (show I3 t1 5 = _ by rw [b1_3, b1_2]; exact q5.trans e2), (show I3 t7 2 = _ by rw [b7_3]; exact q2.trans (by rw [b7_1, e3])), (show I3 t6 3 = _ from q3.trans (by show I2 t6 3 = _; rw [b6_2, b6_1]; exact e4)), (show I3 t5 4 = _ by rw [b5_3, b5_2, b5_1]; exact e5)⟩, hn, hb⟩
  · skip
    exact absurd c_8 (by decide)
    --end
abbrev rm_X8_removeD : Room := { frames := 46, cells := 0, slots := 0, locals := 1070 }
set_option maxHeartbeats 4000000 in
set_option maxRecDepth 100000 in
theorem c_X8_removeD (l : Launch) (G : xG) {K N : Nat → Nat} {I : Nat → Nat → Int32} {Q : Nat → Nat → Option Nat} {J : Nat → Nat → Int64} (ow : xO) (x n m : Nat) (c : Nat → Nat) (al : Nat → Bool) (sp tu pt pc ps : Nat → Nat) (pa : Nat → Bool) (r d u g w : Int32) (k : Nat) (hS : SY ow (K, N, I, Q, J) x n c al sp tu pt m pc pa ps r d u g w) (hk : k < n) (hat : ∀ i, i < n → (al i = true ↔ 0 < tu i)) (hal : al k = true) (hcond : (cn (x_up al k false) n) < n - (cn (x_up al k false) n))  : XM l yX8_remove cX8_remove 2 (some .boolean) rm_X8_removeD G Rz [.ref x, .int (cv1 (c k))] (K, N, I, Q, J) (fun r_ S1 => r_ = true ∧ ∃ ow1, FR8 ow ow1 (K, N, I, Q, J) S1 ∧ SY ow1 S1 x (cn (x_up al k false) n) (fun j => c (selF (x_up al k false) n j)) (fun _ => true) (fun j => layA 8 j 0 (cn (x_up al k false) n) 1) (fun j => (balsM n 26 (mvuM n (levM n tu k).1 (levM n tu k).2) ((levM n tu k).2 / 2)).1 (selF (x_up al k false) n j)) (fun j => (dls (cn (x_up al k false) n) 8).getD j 0) m pc pa ps r (d + nI 1) (u + nI (balsM n 26 (mvuM n (levM n tu k).1 (levM n tu k).2) ((levM n tu k).2 / 2)).2) g w) := by
  refine x_metz (lv := [_, _]) (by decide +kernel) (x_cc (by first | rfl | exact x_crf _) (x_cc (by first | rfl | exact x_crf _) x_cn)) (Nat.le_of_ble_eq_true rfl) rfl ?_
  intro pP eE sS mM aA bB hH cC Z C hini ret
  obtain ⟨t1, t7, t6, t5, hX0, H1, H7, H6, H5, hE0, hn, hb⟩ := id hS
  obtain ⟨hx, hox, hq1, hq7, hq6, hq5⟩ := id hX0
  obtain ⟨e1, e2, e3, e4, e5⟩ := id hE0
  have hx : K x = 8 := hx
  have hq1 : Q x 0 = some t1 := hq1
  have hq7 : Q x 1 = some t7 := hq7
  have hq6 : Q x 2 = some t6 := hq6
  have hq5 : Q x 3 = some t5 := hq5
  have kt1 : K t1 = 2 := H1.kc.1
  have kt7 : K t7 = 7 := H7.kc
  have kt6 : K t6 = 6 := H6.kc
  have kt5 : K t5 = 5 := H5.kc.1
  have l1 : I t1 3 = nI (cn al n) := H1.kc.2
  have l5 : I t5 3 = nI (cn pa m) := H5.kc.2.1
  have hm120 := H5.kc.2.2
  have l6 : I t6 1 = nI n := H6.cnt.1
  have l62 : I t6 2 = nI (cn al n) := H6.cnt.2.1
  have hup := H6.cnt.2.2.1
  have hcl := cn_le al n
  have hcm := cn_le pa m
  have e1 : I t1 4 = r := e1
  have e2 : I t1 5 = d := e2
  have e3 : I t7 2 = u := e3
  have e4 : I t6 3 = g := e4
  have e5 : I t5 4 = w := e5
  have htk : 0 < tu k := (hat k hk).mp hal
  have hdl := H7.del hk htk
  have hlv9 := cn_le (x_up al k false) n
  refine x_aload_n C D_X8_remove_0.1 rfl rfl (by first | exact Or.inr ⟨_, rfl⟩ | exact va_rf_or _ | exact Or.inl rfl) ?_
  refine x_getQ C (ci := 7) (k0 := 2) hx (by decide) rfl (by decide) in_X8 k_181 rfl rfl D_X8_remove_0.2.1 ?_
  refine x_eqr hq6 ?_
  refine x_iload_n C D_X8_remove_0.2.2.1 rfl rfl ?_
  refine x_callVz C (y := yX6_holds) (k6_holdsY l G H6 hn hk (hb k hk)) (ci := 5) kt6 (by decide) rfl rfl k_196 k_197 k_198 k_65 k_199 hd_X6_holds ⟨(Nat.le_of_ble_eq_true rfl), (Nat.le_of_ble_eq_true rfl)⟩ rfl (by first | exact Nat.le_of_ble_eq_true rfl | simp [x_crf, Value.category]) rfl rfl D_X8_remove_0.2.2.2.1 ⟨(Nat.le_of_ble_eq_true rfl), (Nat.le_of_ble_eq_true rfl)⟩ (fun r_5 S_5 h_5 => ?_)
  obtain ⟨rfl, rfl⟩ := h_5
  rw [hal]
  refine x_if_ne C 13 D_X8_remove_0.2.2.2.2.1 (by decide) (fun c_8 => ?_) (fun c_8 => ?_)
  · skip
    refine x_aload_n C D_X8_remove_0.2.2.2.2.2.2.2.1 rfl rfl (by first | exact Or.inr ⟨_, rfl⟩ | exact va_rf_or _ | exact Or.inl rfl) ?_
    refine x_getQ C (ci := 7) (k0 := 0) hx (by decide) rfl (by decide) in_X8 k_179 rfl rfl D_X8_remove_0.2.2.2.2.2.2.2.2.1 ?_
    refine x_eqr hq1 ?_
    refine x_iload_n C D_X8_remove_0.2.2.2.2.2.2.2.2.2.1 rfl rfl ?_
    refine x_callUv C (x := ⟨"ScapegoatSpur$KeyTree", "retire", "(I)V"⟩) (y := yX2_retire) (owner := "ScapegoatSpur$LazyTree") (k1_retireD l G H1 hn hk (hb k hk) hal hcond) (ci := 1) kt1 (by decide) rfl k_204 k_205 k_207 k_208 k_61 k_209 rfl hu_X2_retire ⟨(Nat.le_of_ble_eq_true rfl), (Nat.le_of_ble_eq_true rfl)⟩ rfl (by first | exact Nat.le_of_ble_eq_true rfl | simp [x_crf, Value.category]) rfl rfl D_X8_remove_0.2.2.2.2.2.2.2.2.2.2.1 ⟨(Nat.le_of_ble_eq_true rfl), (Nat.le_of_ble_eq_true rfl)⟩ (fun _ S_18 h_18 => ?_)
    obtain ⟨ow1, hF1, H1a, q4, q5⟩ := h_18
    obtain ⟨K1, N1, I1, Q1, J1⟩ := S_18
    obtain ⟨hx1, hox1, hQ1⟩ := hF1.obj (by omega) hx hox
    have hx1 : K1 x = 8 := hx1
    have hQ1 : Q1 x = Q x := hQ1
    obtain ⟨H7a, b7_1⟩ := H7.agree hF1 (by omega)
    have b7_1 : I1 t7 = I t7 := b7_1
    obtain ⟨H6a, b6_1⟩ := H6.agree hF1 (by omega)
    have b6_1 : I1 t6 = I t6 := b6_1
    obtain ⟨H5a, b5_1⟩ := H5.agree hF1 (by omega)
    have b5_1 : I1 t5 = I t5 := b5_1
    have kt7a : K1 t7 = 7 := H7a.kc
    refine x_aload_n C D_X8_remove_0.2.2.2.2.2.2.2.2.2.2.2 rfl rfl (by first | exact Or.inr ⟨_, rfl⟩ | exact va_rf_or _ | exact Or.inl rfl) ?_
    refine x_getQ C (ci := 7) (k0 := 1) hx1 (by decide) rfl (by decide) in_X8 k_180 rfl rfl D_X8_remove_1.1 ?_
    refine x_eqr (show Q1 x 1 = some t7 by rw [hQ1]; exact hq7) ?_
    refine x_iload_n C D_X8_remove_1.2.1 rfl rfl ?_
    refine x_callVv C (y := yX7_delete) (k7_delete l G H7a hk (hb k hk) htk) (ci := 6) kt7a (by decide) rfl rfl k_280 k_281 k_282 k_64 k_283 hd_X7_delete ⟨(Nat.le_of_ble_eq_true rfl), (Nat.le_of_ble_eq_true rfl)⟩ rfl (by first | exact Nat.le_of_ble_eq_true rfl | simp [x_crf, Value.category]) rfl rfl D_X8_remove_1.2.2.1 ⟨(Nat.le_of_ble_eq_true rfl), (Nat.le_of_ble_eq_true rfl)⟩ (fun _ S_26 h_26 => ?_)
    obtain ⟨ow2, hF2, H7b, q2⟩ := h_26
    obtain ⟨K2, N2, I2, Q2, J2⟩ := S_26
    obtain ⟨hx2, hox2, hQ2⟩ := hF2.obj (by omega) hx1 hox1
    have hx2 : K2 x = 8 := hx2
    have hQ2 : Q2 x = Q1 x := hQ2
    obtain ⟨H1b, b1_2⟩ := H1a.agree hF2 (by omega)
    have b1_2 : I2 t1 = I1 t1 := b1_2
    obtain ⟨H6b, b6_2⟩ := H6a.agree hF2 (by omega)
    have b6_2 : I2 t6 = I1 t6 := b6_2
    obtain ⟨H5b, b5_2⟩ := H5a.agree hF2 (by omega)
    have b5_2 : I2 t5 = I1 t5 := b5_2
    have kt6b : K2 t6 = 6 := H6b.kc
    refine x_aload_n C D_X8_remove_1.2.2.2.1 rfl rfl (by first | exact Or.inr ⟨_, rfl⟩ | exact va_rf_or _ | exact Or.inl rfl) ?_
    refine x_getQ C (ci := 7) (k0 := 2) hx2 (by decide) rfl (by decide) in_X8 k_181 rfl rfl D_X8_remove_1.2.2.2.2.1 ?_
    refine x_eqr (show Q2 x 2 = some t6 by rw [hQ2, hQ1]; exact hq6) ?_
    refine x_iload_n C D_X8_remove_1.2.2.2.2.2.1 rfl rfl ?_
    refine x_callVv C (y := yX6_retire) (k6_retireD l G H6b hn hk (hb k hk) hal hcond) (ci := 5) kt6b (by decide) rfl rfl k_323 k_324 k_325 k_65 k_326 hd_X6_retire ⟨(Nat.le_of_ble_eq_true rfl), (Nat.le_of_ble_eq_true rfl)⟩ rfl (by first | exact Nat.le_of_ble_eq_true rfl | simp [x_crf, Value.category]) rfl rfl D_X8_remove_1.2.2.2.2.2.2.1 ⟨(Nat.le_of_ble_eq_true rfl), (Nat.le_of_ble_eq_true rfl)⟩ (fun _ S_34 h_34 => ?_)
    obtain ⟨ow3, hF3, H6c, q3⟩ := h_34
    obtain ⟨K3, N3, I3, Q3, J3⟩ := S_34
    obtain ⟨hx3, hox3, hQ3⟩ := hF3.obj (by omega) hx2 hox2
    have hx3 : K3 x = 8 := hx3
    have hQ3 : Q3 x = Q2 x := hQ3
    obtain ⟨H1c, b1_3⟩ := H1b.agree hF3 (by omega)
    have b1_3 : I3 t1 = I2 t1 := b1_3
    obtain ⟨H7c, b7_3⟩ := H7b.agree hF3 (by omega)
    have b7_3 : I3 t7 = I2 t7 := b7_3
    obtain ⟨H5c, b5_3⟩ := H5b.agree hF3 (by omega)
    have b5_3 : I3 t5 = I2 t5 := b5_3
    refine x_iconst C (v := nI 1) D_X8_remove_1.2.2.2.2.2.2.2.1 (by decide +kernel) ?_
    refine ret _ _ _ _ _ _ true rfl D_X8_remove_1.2.2.2.2.2.2.2.2 (Nat.le_of_ble_eq_true rfl) (Nat.le_of_ble_eq_true rfl) rfl ?_
    exact ⟨rfl, ow3, ((hF1.fr8 (by omega)).trans (hF2.fr8 (by omega))).trans (hF3.fr8 (by omega)), t1, t7, t6, t5, ⟨hx3, hox3, (show Q3 x 0 = some t1 by rw [hQ3, hQ2, hQ1]; exact hq1), (show Q3 x 1 = some t7 by rw [hQ3, hQ2, hQ1]; exact hq7), (show Q3 x 2 = some t6 by rw [hQ3, hQ2, hQ1]; exact hq6), (show Q3 x 3 = some t5 by rw [hQ3, hQ2, hQ1]; exact hq5)⟩, H1c, (H7c.sel (al := (x_up al k false)) (fun i hi => by
      rw [hdl.2 i hi, ← hat i hi]
      by_cases e : i = k
      · subst e; rw [x_up_s]; simp
      · rw [x_up_n _ _ e]; simp [e])), H6c, H5c, ⟨(show I3 t1 4 = _ by rw [b1_3, b1_2]; exact q4.trans e1), (show I3 t1 5 = _ by rw [b1_3, b1_2]; exact q5.trans (by show I t1 5 + _ = _; rw [e2])), (show I3 t7 2 = _ by rw [b7_3]; exact q2.trans (by rw [b7_1, e3])), (show I3 t6 3 = _ from q3.trans (by show I2 t6 3 = _; rw [b6_2, b6_1]; exact e4)), (show I3 t5 4 = _ by rw [b5_3, b5_2, b5_1]; exact e5)⟩, (by omega), (fun j hj => hb _ (selF_ok hj).1)⟩
  · skip
    exact absurd c_8 (by decide)
    --end
