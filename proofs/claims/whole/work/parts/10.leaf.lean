theorem D_X2_addLeaf_0 : decode cX2_addLeaf 0 = .ok (.new 38, 3) ∧ decode cX2_addLeaf 3 = .ok (.dup, 1) ∧ decode cX2_addLeaf 4 = .ok (.iload_n 1, 1) ∧ decode cX2_addLeaf 5 = .ok (.invokespecial 96, 3) ∧ decode cX2_addLeaf 8 = .ok (.astore_n 2, 1) ∧ decode cX2_addLeaf 9 = .ok (.aload_n 0, 1) ∧ decode cX2_addLeaf 10 = .ok (.getfield 14, 3) ∧ decode cX2_addLeaf 13 = .ok (.invokevirtual 58, 3) ∧ decode cX2_addLeaf 16 = .ok (.iconst 1, 1) ∧ decode cX2_addLeaf 17 = .ok (.isub, 1) ∧ decode cX2_addLeaf 18 = .ok (.istore_n 3, 1) ∧ decode cX2_addLeaf 19 = .ok (.aload_n 0, 1) := by decide +kernel
theorem D_X2_addLeaf_1 : decode cX2_addLeaf 20 = .ok (.getfield 14, 3) ∧ decode cX2_addLeaf 23 = .ok (.iload_n 3, 1) ∧ decode cX2_addLeaf 24 = .ok (.invokevirtual 97, 3) ∧ decode cX2_addLeaf 27 = .ok (.astore 4, 2) ∧ decode cX2_addLeaf 29 = .ok (.aload 4, 2) ∧ decode cX2_addLeaf 31 = .ok (.ifnonnull 11, 3) ∧ decode cX2_addLeaf 34 = .ok (.aload_n 0, 1) ∧ decode cX2_addLeaf 35 = .ok (.aload_n 2, 1) ∧ decode cX2_addLeaf 36 = .ok (.putfield 20, 3) ∧ decode cX2_addLeaf 39 = .ok (.goto 29, 3) ∧ decode cX2_addLeaf 42 = .ok (.aload_n 0, 1) ∧ decode cX2_addLeaf 43 = .ok (.iload_n 1, 1) := by decide +kernel
theorem D_X2_addLeaf_2 : decode cX2_addLeaf 44 = .ok (.aload 4, 2) ∧ decode cX2_addLeaf 46 = .ok (.iload_n 3, 1) ∧ decode cX2_addLeaf 47 = .ok (.invokevirtual 72, 3) ∧ decode cX2_addLeaf 50 = .ok (.ifCond .eq 12, 3) ∧ decode cX2_addLeaf 53 = .ok (.aload 4, 2) ∧ decode cX2_addLeaf 55 = .ok (.aload_n 2, 1) ∧ decode cX2_addLeaf 56 = .ok (.putfield 76, 3) ∧ decode cX2_addLeaf 59 = .ok (.goto 9, 3) ∧ decode cX2_addLeaf 62 = .ok (.aload 4, 2) ∧ decode cX2_addLeaf 64 = .ok (.aload_n 2, 1) ∧ decode cX2_addLeaf 65 = .ok (.putfield 79, 3) ∧ decode cX2_addLeaf 68 = .ok (.iconst 0, 1) := by decide +kernel
theorem D_X2_addLeaf_3 : decode cX2_addLeaf 69 = .ok (.istore 5, 2) ∧ decode cX2_addLeaf 71 = .ok (.iload 5, 2) ∧ decode cX2_addLeaf 73 = .ok (.aload_n 0, 1) ∧ decode cX2_addLeaf 74 = .ok (.getfield 14, 3) ∧ decode cX2_addLeaf 77 = .ok (.invokevirtual 58, 3) ∧ decode cX2_addLeaf 80 = .ok (.if_icmp .ge 36, 3) ∧ decode cX2_addLeaf 83 = .ok (.aload_n 0, 1) ∧ decode cX2_addLeaf 84 = .ok (.getfield 14, 3) ∧ decode cX2_addLeaf 87 = .ok (.iload 5, 2) ∧ decode cX2_addLeaf 89 = .ok (.invokevirtual 97, 3) ∧ decode cX2_addLeaf 92 = .ok (.astore 6, 2) ∧ decode cX2_addLeaf 94 = .ok (.aload 6, 2) := by decide +kernel
theorem D_X2_addLeaf_4 : decode cX2_addLeaf 96 = .ok (.ifnull 14, 3) ∧ decode cX2_addLeaf 99 = .ok (.aload 6, 2) ∧ decode cX2_addLeaf 101 = .ok (.dup, 1) ∧ decode cX2_addLeaf 102 = .ok (.getfield 100, 3) ∧ decode cX2_addLeaf 105 = .ok (.iconst 1, 1) ∧ decode cX2_addLeaf 106 = .ok (.iadd, 1) ∧ decode cX2_addLeaf 107 = .ok (.putfield 100, 3) ∧ decode cX2_addLeaf 110 = .ok (.iinc 5 1, 3) ∧ decode cX2_addLeaf 113 = .ok (.goto (-42), 3) ∧ decode cX2_addLeaf 116 = .ok (.aload_n 0, 1) ∧ decode cX2_addLeaf 117 = .ok (.getfield 14, 3) ∧ decode cX2_addLeaf 120 = .ok (.aload_n 2, 1) := by decide +kernel
theorem D_X2_addLeaf_5 : decode cX2_addLeaf 121 = .ok (.invokevirtual 65, 3) ∧ decode cX2_addLeaf 124 = .ok (.return_, 1) := by decide +kernel
abbrev rm_X3_init : Room := { frames := 1, cells := 0, slots := 0, locals := 16 }
set_option maxHeartbeats 4000000 in
set_option maxRecDepth 100000 in
theorem c_X3_init (l : Launch) (G : xG) {K N : Nat → Nat} {I : Nat → Nat → Int32} {Q : Nat → Nat → Option Nat} {J : Nat → Nat → Int64} (v : Nat) (x : Int32) (h : K v = 3) : XM l yX3_init cX3_init 2 none rm_X3_init G Rv [.ref v, .int x] (K, N, I, Q, J) (fun _ S1 => S1 = (K, N, x_u2 (x_u2 (x_u2 I v 1 (nI 1)) v 2 (nI 1)) v 0 x, Q, J)) := by
  refine x_metv (lv := [_, _]) (by decide +kernel) (x_cc (by first | rfl | exact x_crf _) (x_cc (by first | rfl | exact x_crf _) x_cn)) (Nat.le_of_ble_eq_true rfl) rfl ?_
  intro pP eE sS mM aA bB hH cC Z C hini ret
  refine x_aload_n C D_X3_init_0.1 rfl rfl (by first | exact Or.inr ⟨_, rfl⟩ | exact va_rf_or _ | exact Or.inl rfl) ?_
  refine x_objInit C k_607 k_84 k_85 rfl D_X3_init_0.2.1 (Nat.le_of_ble_eq_true rfl) (Nat.le_of_ble_eq_true rfl) ?_
  refine x_aload_n C D_X3_init_0.2.2.1 rfl rfl (by first | exact Or.inr ⟨_, rfl⟩ | exact va_rf_or _ | exact Or.inl rfl) ?_
  refine x_iconst C (v := nI 1) D_X3_init_0.2.2.2.1 (by decide +kernel) ?_
  refine x_putI C (ci := 2) (k0 := 1) (by assumption) (by decide) rfl (by decide) in_X3 k_613 rfl tyX3 tyX3_ok nmX3 rfl (by rfl) rfl rfl rfl D_X3_init_0.2.2.2.2.1 (fun I_6 eI_6 => ?_)
  refine x_aload_n C D_X3_init_0.2.2.2.2.2.1 rfl rfl (by first | exact Or.inr ⟨_, rfl⟩ | exact va_rf_or _ | exact Or.inl rfl) ?_
  refine x_iconst C (v := nI 1) D_X3_init_0.2.2.2.2.2.2.1 (by decide +kernel) ?_
  refine x_putI C (ci := 2) (k0 := 2) (by assumption) (by decide) rfl (by decide) in_X3 k_615 rfl tyX3 tyX3_ok nmX3 rfl (by rfl) rfl rfl rfl D_X3_init_0.2.2.2.2.2.2.2.1 (fun I_11 eI_11 => ?_)
  refine x_aload_n C D_X3_init_0.2.2.2.2.2.2.2.2.1 rfl rfl (by first | exact Or.inr ⟨_, rfl⟩ | exact va_rf_or _ | exact Or.inl rfl) ?_
  refine x_iload_n C D_X3_init_0.2.2.2.2.2.2.2.2.2.1 rfl rfl ?_
  refine x_putI C (ci := 2) (k0 := 0) (by assumption) (by decide) rfl (by decide) in_X3 k_608 rfl tyX3 tyX3_ok nmX3 rfl (by rfl) rfl rfl rfl D_X3_init_0.2.2.2.2.2.2.2.2.2.2.1 (fun I_16 eI_16 => ?_)
  refine ret _ _ _ _ _ rfl D_X3_init_0.2.2.2.2.2.2.2.2.2.2.2 (Nat.le_of_ble_eq_true rfl) (Nat.le_of_ble_eq_true rfl) ?_
  rw [eI_16, eI_11, eI_6]
abbrev rm_X0_init : Room := { frames := 1, cells := 0, slots := 0, locals := 16 }
set_option maxHeartbeats 4000000 in
set_option maxRecDepth 100000 in
theorem c_X0_init (l : Launch) (G : xG) {K N : Nat → Nat} {I : Nat → Nat → Int32} {Q : Nat → Nat → Option Nat} {J : Nat → Nat → Int64} (v : Nat) (x : Int32) (h : K v = 1) : XM l yX0_init cX0_init 2 none rm_X0_init G Rv [.ref v, .int x] (K, N, I, Q, J) (fun _ S1 => S1 = (K, N, x_u2 (x_u2 (x_u2 I v 1 (nI 1)) v 2 (nI 0)) v 0 x, Q, J)) := by
  refine x_metv (lv := [_, _]) (by decide +kernel) (x_cc (by first | rfl | exact x_crf _) (x_cc (by first | rfl | exact x_crf _) x_cn)) (Nat.le_of_ble_eq_true rfl) rfl ?_
  intro pP eE sS mM aA bB hH cC Z C hini ret
  refine x_aload_n C D_X0_init_0.1 rfl rfl (by first | exact Or.inr ⟨_, rfl⟩ | exact va_rf_or _ | exact Or.inl rfl) ?_
  refine x_objInit C k_677 k_84 k_85 rfl D_X0_init_0.2.1 (Nat.le_of_ble_eq_true rfl) (Nat.le_of_ble_eq_true rfl) ?_
  refine x_aload_n C D_X0_init_0.2.2.1 rfl rfl (by first | exact Or.inr ⟨_, rfl⟩ | exact va_rf_or _ | exact Or.inl rfl) ?_
  refine x_iconst C (v := nI 1) D_X0_init_0.2.2.2.1 (by decide +kernel) ?_
  refine x_putI C (ci := 0) (k0 := 1) (by assumption) (by decide) rfl (by decide) in_X0 k_681 rfl tyX0 tyX0_ok nmX0 rfl (by rfl) rfl rfl rfl D_X0_init_0.2.2.2.2.1 (fun I_6 eI_6 => ?_)
  refine x_aload_n C D_X0_init_0.2.2.2.2.2.1 rfl rfl (by first | exact Or.inr ⟨_, rfl⟩ | exact va_rf_or _ | exact Or.inl rfl) ?_
  refine x_iconst C (v := nI 0) D_X0_init_0.2.2.2.2.2.2.1 (by decide +kernel) ?_
  refine x_putI C (ci := 0) (k0 := 2) (by assumption) (by decide) rfl (by decide) in_X0 k_683 rfl tyX0 tyX0_ok nmX0 rfl (by rfl) rfl rfl rfl D_X0_init_0.2.2.2.2.2.2.2.1 (fun I_11 eI_11 => ?_)
  refine x_aload_n C D_X0_init_0.2.2.2.2.2.2.2.2.1 rfl rfl (by first | exact Or.inr ⟨_, rfl⟩ | exact va_rf_or _ | exact Or.inl rfl) ?_
  refine x_iload_n C D_X0_init_0.2.2.2.2.2.2.2.2.2.1 rfl rfl ?_
  refine x_putFI C (ci := 0) (k0 := 0) (by assumption) (by decide) rfl (by decide) in_X0 k_678 rfl tyX0 tyX0_ok nmX0 rfl (hini rfl) rfl (by rfl) rfl rfl rfl D_X0_init_0.2.2.2.2.2.2.2.2.2.2.1 (fun I_16 eI_16 => ?_)
  refine ret _ _ _ _ _ rfl D_X0_init_0.2.2.2.2.2.2.2.2.2.2.2 (Nat.le_of_ble_eq_true rfl) (Nat.le_of_ble_eq_true rfl) ?_
  rw [eI_16, eI_11, eI_6]
abbrev rm_X2_addLeaf_1 : Room := { frames := 2, cells := 1, slots := 5, locals := 45 }
theorem hd_X3_init : yX3_init.cls ≠ "java/lang/invoke/MethodHandle" ∧ yX3_init.cls ≠ "java/lang/invoke/VarHandle" ∧ (parseMethodDescriptor yX3_init.desc).map (fun d => d.parameters.length) = some 1 := by decide +kernel
set_option maxHeartbeats 4000000 in
set_option maxRecDepth 100000 in
theorem c_X2_addLeaf_1 (l : Launch) (G : xG) {K N : Nat → Nat} {I : Nat → Nat → Int32} {Q : Nat → Nat → Option Nat} {J : Nat → Nat → Int64} (t pq pn rw rn cap : Nat) (c : Nat) (A : Tr) (cd : Nat → Nat) (hz : LZ K N Q t 2 pq pn rw rn cap) (hT0 : TP K Q A (Q t 2)) (hw0 : WT I A) (hnd0 : (ino A).Nodup) (hnd : ND cv1 1999 K I cd (ino A)) (hA : ht A < 40) (hc : c < 1999) (hsf : sfind od1 cd c A 0 = none) (hpl : I pq 1 = nI (spath od1 cd c A 0).length) (hsg : SEG (Q pn) 0 (spath od1 cd c A 0)) : XM l yX2_addLeaf cX2_addLeaf 7 none rm_X2_addLeaf_1 G Rv [.ref t, .int (cv1 c)] (K, N, I, Q, J) (fun _ S1 => ∃ v K1 I1 Q1, S1 = (K1, N, I1, Q1, J) ∧ K v = 0 ∧ K1 = x_up K v 3 ∧ TP K1 Q1 (insA od1 cd c v A 0) (Q1 t 2) ∧ WT I1 (insA od1 cd c v A 0) ∧ I1 v 0 = cv1 c ∧ I1 v 1 = nI 1 ∧ (∀ q, q ∉ ino A → q ≠ v → q ≠ pq → I1 q = I q) ∧ (∀ q j, q ≠ v → q ≠ pq → j ≠ 2 → I1 q j = I q j) ∧ (∀ j, j ≠ 1 → I1 pq j = I pq j) ∧ (∀ q, q ∉ ino A → q ≠ v → q ≠ pn → q ≠ t → Q1 q = Q q) ∧ (∀ j, j ≠ 2 → Q1 t j = Q t j) ∧ I1 pq 1 = nI ((spath od1 cd c A 0).length + 1) ∧ SEG (Q1 pn) 0 (spath od1 cd c A 0 ++ [v])) := by
  refine x_metv (lv := [_, _, _, _, _, _, _]) (by decide +kernel) (x_cc (by first | rfl | exact x_crf _) (x_cc (by first | rfl | exact x_crf _) x_cn)) (Nat.le_of_ble_eq_true rfl) rfl ?_
  intro pP eE sS mM aA bB hH cC Z C hini ret
  have hkt := hz.1
  have hpk := hz.2.2.2.2.1
  have hkpq := hpk.1
  have hkpn := hpk.2.2.1
  obtain ⟨Pw, ePw⟩ : ∃ Pw, Pw = spath od1 cd c A 0 := ⟨_, rfl⟩
  have hPl : Pw.length ≤ ht A := by rw [ePw]; exact spath_len _ _ _ _ _
  have hPm : ∀ a ∈ Pw, a ∈ ino A := fun a ha => spath_mem _ _ _ _ _ _ (by rw [← ePw]; exact ha)
  have hPn : Pw.Nodup := by rw [ePw]; exact spath_nodup _ _ hnd0
  rw [← ePw] at hpl hsg
  have hP3 : ∀ a ∈ Pw, K a = 3 := fun a ha => (hnd a (hPm a ha)).1
  refine x_new C (ci := 2) rfl (by decide) in_X3 tyX3 tyX3_ok x_layX3 k_602 k_603 k_73 (Nat.le_of_ble_eq_true rfl) (Nat.le_of_ble_eq_true rfl) D_X2_addLeaf_0.1 (fun v K_0 I_0 Q_0 fv eK_0 eI_0 eQ_0 => ?_)
  refine x_dup C D_X2_addLeaf_0.2.1 (by first | rfl | exact x_crf _) ?_
  refine x_iload_n C D_X2_addLeaf_0.2.2.1 rfl rfl ?_
  refine x_callI (ret := none) C (y := yX3_init) (c_X3_init l G v (cv1 c) (by rw [eK_0, x_up_s])) k_606 k_73 k_604 k_605 rfl hd_X3_init ⟨(Nat.le_of_ble_eq_true rfl), (Nat.le_of_ble_eq_true rfl)⟩ rfl (by first | exact Nat.le_of_ble_eq_true rfl | simp [x_crf, Value.category]) rfl rfl D_X2_addLeaf_0.2.2.2.1 ⟨(Nat.le_of_ble_eq_true rfl), (Nat.le_of_ble_eq_true rfl)⟩ (fun _ S_5 h_5 => ?_)
  obtain rfl := h_5
  obtain ⟨I1, eI1⟩ : ∃ I1, I1 = x_u2 (x_u2 (x_u2 I_0 v 1 (nI 1)) v 2 (nI 1)) v 0 (cv1 c) := ⟨_, rfl⟩
  rw [← eI1]
  have i1v : I1 v 0 = cv1 c ∧ I1 v 1 = nI 1 ∧ I1 v 2 = nI 1 := by rw [eI1]; simp [x_u2, x_up]
  have i1o : ∀ q, q ≠ v → I1 q = I q := fun q hq => by rw [eI1, x_u2_a _ _ hq, x_u2_a _ _ hq, x_u2_a _ _ hq, eI_0, x_up_n _ _ hq]
  have q1o : ∀ q, q ≠ v → Q_0 q = Q q := fun q hq => by rw [eQ_0, x_up_n _ _ hq]
  have k1o : ∀ q, q ≠ v → K_0 q = K q := fun q hq => by rw [eK_0, x_up_n _ _ hq]
  have hne : ∀ q, K q ≠ 0 → q ≠ v := fun q hq e => hq (by rw [e]; exact fv)
  have hx : EXT K N I Q K_0 N I1 Q_0 := fun a ha => ⟨k1o a (hne a ha), rfl, i1o a (hne a ha), q1o a (hne a ha)⟩
  have hz1 := hx.lz hz
  have hT1 := hx.tp hT0
  have hnd1 := hx.nd hnd
  have hpl1 : I1 pq 1 = nI Pw.length := by rw [i1o pq (hne pq (by omega))]; exact hpl
  have hsg1 : SEG (Q_0 pn) 0 Pw := by rw [q1o pn (hne pn (by omega))]; exact hsg
  have hro : RowOK K_0 N I1 Q_0 pq pn 40 Pw.length := hz1.2.2.2.2.1.ok hpl1 (by omega)
  have hkv : K_0 v = 3 := by rw [eK_0, x_up_s]
  have hvq : Q_0 v 3 = none ∧ Q_0 v 4 = none := by rw [eQ_0, x_up_s]; exact ⟨rfl, rfl⟩
  have hvA : v ∉ ino A := fun h => hne v (by rw [(hnd v h).1]; omega) rfl
  have hAne : ∀ q ∈ ino A, q ≠ v := fun q hq e => hvA (e ▸ hq)
  refine x_astore_n C (lv' := [_, _, _, _, _, _, _]) D_X2_addLeaf_0.2.2.2.2.1 rfl (Nat.le_of_ble_eq_true rfl) rfl (by first | exact Or.inr ⟨_, rfl⟩ | exact va_rf_or _ | exact Or.inl rfl) rfl ?_
  refine x_aload_n C D_X2_addLeaf_0.2.2.2.2.2.1 rfl rfl (by first | exact Or.inr ⟨_, rfl⟩ | exact va_rf_or _ | exact Or.inl rfl) ?_
  refine x_getQ C (ci := 1) (k0 := 0) hz1.1 (by decide) rfl (by decide) in_X1 k_110 rfl rfl D_X2_addLeaf_0.2.2.2.2.2.2.1 ?_
  refine x_eqr hz1.2.2.1 ?_
  refine x_callVi C (y := yX4_length) (c_X4_length l G pq hz1.2.2.2.2.1.1) (ci := 3) hz1.2.2.2.2.1.1 (by decide) rfl rfl k_220 k_221 k_222 k_63 k_223 hd_X4_length ⟨(Nat.le_of_ble_eq_true rfl), (Nat.le_of_ble_eq_true rfl)⟩ rfl (by first | exact Nat.le_of_ble_eq_true rfl | simp [x_crf, Value.category]) rfl rfl D_X2_addLeaf_0.2.2.2.2.2.2.2.1 ⟨(Nat.le_of_ble_eq_true rfl), (Nat.le_of_ble_eq_true rfl)⟩ (fun r_13 S_13 h_13 => ?_)
  obtain ⟨rfl, rfl⟩ := h_13
  refine x_eqi _ hpl1 ?_
  refine x_iconst C (v := nI 1) D_X2_addLeaf_0.2.2.2.2.2.2.2.2.1 (by decide +kernel) ?_
  refine x_isub C D_X2_addLeaf_0.2.2.2.2.2.2.2.2.2.1 ?_
  refine x_istore_n C (lv' := [_, _, _, _, _, _, _]) D_X2_addLeaf_0.2.2.2.2.2.2.2.2.2.2.1 rfl (Nat.le_of_ble_eq_true rfl) rfl rfl ?_
  refine x_aload_n C D_X2_addLeaf_0.2.2.2.2.2.2.2.2.2.2.2 rfl rfl (by first | exact Or.inr ⟨_, rfl⟩ | exact va_rf_or _ | exact Or.inl rfl) ?_
  refine x_getQ C (ci := 1) (k0 := 0) hz1.1 (by decide) rfl (by decide) in_X1 k_110 rfl rfl D_X2_addLeaf_1.1 ?_
  refine x_eqr hz1.2.2.1 ?_
  refine x_iload_n C D_X2_addLeaf_1.2.1 rfl rfl ?_
  refine x_callVq C (y := yX4_at) (c_X4_at l G pq pn 40 Pw.length (nI Pw.length - nI 1) hro) (ci := 3) hz1.2.2.2.2.1.1 (by decide) rfl rfl k_272 k_273 k_274 k_63 k_275 hd_X4_at ⟨(Nat.le_of_ble_eq_true rfl), (Nat.le_of_ble_eq_true rfl)⟩ rfl (by first | exact Nat.le_of_ble_eq_true rfl | simp [x_crf, Value.category]) rfl rfl D_X2_addLeaf_1.2.2.1 ⟨(Nat.le_of_ble_eq_true rfl), (Nat.le_of_ble_eq_true rfl)⟩ (fun r_24 S_24 h_24 => ?_)
  obtain ⟨hr24, rfl⟩ := h_24
  refine x_astore C (lv' := [_, _, _, _, _, _, _]) D_X2_addLeaf_1.2.2.2.1 (Nat.le_of_ble_eq_true rfl) rfl (by first | exact Or.inr ⟨_, rfl⟩ | exact va_rf_or _ | exact Or.inl rfl) rfl ?_
  have L_68 : ∀ (Q2 : Nat → Nat → Option Nat) (x3 : Int32), (TP K_0 Q2 (insA od1 cd c v A 0) (Q2 t 2)) → (∀ q, q ∉ ino A → q ≠ v → q ≠ t → Q2 q = Q q) → (∀ j, j ≠ 2 → Q2 t j = Q t j) → XW pP l eE rm_X2_addLeaf_1 sS mM aA bB hH cC G Z 1 5 (K_0, N, I1, Q2, J) 68 [some (.ref t), some (.int (cv1 c)), some (.ref v), some (.int x3), none, none, none] [] := by
    intro Q2 x3 hT2 hQ2 hQt
    have hpnA0 : pn ∉ ino A := fun h => by have h1 := (hnd pn h).1; omega
    have hpqA0 : pq ∉ ino A := fun h => by have h1 := (hnd pq h).1; omega
    have hsg2 : SEG (Q2 pn) 0 Pw := by rw [hQ2 pn hpnA0 (hne pn (by omega)) (fun e => by rw [e, hkt] at hkpn; omega)]; exact hsg
    have hz2 : LZ K_0 N Q2 t 2 pq pn rw rn cap := by
      refine hz1.congr (fun a h3 h23 => ?_)
      by_cases hav : a = v
      · exact absurd hkv (hav ▸ h3)
      have haA : a ∉ ino A := fun h => h3 (hnd1 a h).1
      by_cases hat : a = t
      · subst hat
        rw [hQt 0 (by omega), hQt 1 (by omega), q1o a hav]; exact ⟨rfl, rfl⟩
      · rw [hQ2 a haA hav hat, q1o a hav]; exact ⟨rfl, rfl⟩
    refine x_iconst C (v := nI 0) D_X2_addLeaf_2.2.2.2.2.2.2.2.2.2.2.2 (by decide +kernel) ?_
    refine x_istore C (lv' := [_, _, _, _, _, _, _]) D_X2_addLeaf_3.1 (Nat.le_of_ble_eq_true rfl) rfl rfl ?_
    have L_71 : ∀ (w_71 : Nat) (i0 : Nat) (I3 : Nat → Nat → Int32) (v6 : Option Value), Pw.length - i0 < w_71 → (i0 ≤ Pw.length) → (∀ a, (a ∈ Pw.take i0 → I3 a = x_up (I1 a) 2 (I1 a 2 + nI 1)) ∧ (a ∉ Pw.take i0 → I3 a = I1 a)) → XW pP l eE rm_X2_addLeaf_1 sS mM aA bB hH cC G Z 1 5 (K_0, N, I3, Q2, J) 71 [some (.ref t), some (.int (cv1 c)), some (.ref v), some (.int x3), none, some (.int (nI i0)), v6] [] := by
      intro w_71
      induction w_71 with
      | zero =>
        intro i0 I3 v6 hw_71
        exact absurd hw_71 (Nat.not_lt_zero _)
      | succ w_71 ih_71 =>
        intro i0 I3 v6 hw_71 hi0 hI3
        have hpl3 : I3 pq 1 = nI Pw.length := by rw [(hI3 pq).2 (fun h => hpqA0 (hPm pq (List.mem_of_mem_take h)))]; exact hpl1
        refine x_iload C D_X2_addLeaf_3.2.1 rfl ?_
        refine x_aload_n C D_X2_addLeaf_3.2.2.1 rfl rfl (by first | exact Or.inr ⟨_, rfl⟩ | exact va_rf_or _ | exact Or.inl rfl) ?_
        refine x_getQ C (ci := 1) (k0 := 0) hz2.1 (by decide) rfl (by decide) in_X1 k_110 rfl rfl D_X2_addLeaf_3.2.2.2.1 ?_
        refine x_eqr hz2.2.2.1 ?_
        refine x_callVi C (y := yX4_length) (c_X4_length l G pq hz2.2.2.2.2.1.1) (ci := 3) hz2.2.2.2.2.1.1 (by decide) rfl rfl k_220 k_221 k_222 k_63 k_223 hd_X4_length ⟨(Nat.le_of_ble_eq_true rfl), (Nat.le_of_ble_eq_true rfl)⟩ rfl (by first | exact Nat.le_of_ble_eq_true rfl | simp [x_crf, Value.category]) rfl rfl D_X2_addLeaf_3.2.2.2.2.1 ⟨(Nat.le_of_ble_eq_true rfl), (Nat.le_of_ble_eq_true rfl)⟩ (fun r_77 S_77 h_77 => ?_)
        obtain ⟨rfl, rfl⟩ := h_77
        refine x_eqi _ hpl3 ?_
        refine x_icmp_ge C 116 D_X2_addLeaf_3.2.2.2.2.2.1 (by decide) (fun c_80 => ?_) (fun c_80 => ?_)
        · skip
          have hie : i0 = Pw.length := by
            have h9 := (nI_leI (by omega) (by omega)).mp c_80
            omega
          refine x_aload_n C D_X2_addLeaf_4.2.2.2.2.2.2.2.2.2.1 rfl rfl (by first | exact Or.inr ⟨_, rfl⟩ | exact va_rf_or _ | exact Or.inl rfl) ?_
          refine x_getQ C (ci := 1) (k0 := 0) hz2.1 (by decide) rfl (by decide) in_X1 k_110 rfl rfl D_X2_addLeaf_4.2.2.2.2.2.2.2.2.2.2.1 ?_
          refine x_eqr hz2.2.2.1 ?_
          refine x_aload_n C D_X2_addLeaf_4.2.2.2.2.2.2.2.2.2.2.2 rfl rfl (by first | exact Or.inr ⟨_, rfl⟩ | exact va_rf_or _ | exact Or.inl rfl) ?_
          refine x_callVv C (y := yX4_append) (c_X4_append l G pq pn 40 Pw.length v (hz2.2.2.2.2.1.ok hpl3 (by omega)) hkv (by omega)) (ci := 3) hz2.2.2.2.2.1.1 (by decide) rfl rfl k_224 k_225 k_226 k_63 k_227 hd_X4_append ⟨(Nat.le_of_ble_eq_true rfl), (Nat.le_of_ble_eq_true rfl)⟩ rfl (by first | exact Nat.le_of_ble_eq_true rfl | simp [x_crf, Value.category]) rfl rfl D_X2_addLeaf_5.1 ⟨(Nat.le_of_ble_eq_true rfl), (Nat.le_of_ble_eq_true rfl)⟩ (fun _ S_121 h_121 => ?_)
          obtain rfl := h_121
          refine ret _ _ _ _ _ rfl D_X2_addLeaf_5.2 (Nat.le_of_ble_eq_true rfl) (Nat.le_of_ble_eq_true rfl) ?_
          have hIP : ∀ a, (a ∈ Pw → I3 a = x_up (I1 a) 2 (I1 a 2 + nI 1)) ∧ (a ∉ Pw → I3 a = I1 a) := fun a => by
            have h9 := hI3 a
            rw [hie, List.take_length] at h9
            exact h9
          have hvP : v ∉ Pw := fun h => hvA (hPm v h)
          have hpqA : pq ∉ ino A := fun h => by have h1 := (hnd pq h).1; omega
          have hpqv : v ≠ pq := fun e => hne pq (by omega) e.symm
          have hpnA : pn ∉ ino A := fun h => by have h1 := (hnd pn h).1; omega
          have hpnv : v ≠ pn := fun e => hne pn (by omega) e.symm
          have hpnt : t ≠ pn := fun e => by rw [e, hkpn] at hkt; omega
          have hfin : ∀ q, q ≠ pq → x_u2 I3 pq 1 (nI (Pw.length + 1)) q = I3 q := fun q h => x_u2_a _ _ h
          have hv3 : I3 v = I1 v := (hIP v).2 hvP
          refine ⟨v, K_0, _, _, rfl, fv, eK_0, ?_, ?_, ?_, ?_, ?_, ?_, ?_, ?_, ?_, ?_, ?_⟩
          · have hT3 : TP K_0 (x_u2 Q2 pn Pw.length (some v)) (insA od1 cd c v A 0) (Q2 t 2) := hT2.row (by rw [k1o pn (hne pn (by omega))]; exact hkpn) _
            rw [x_u2_a _ _ hpnt]; exact hT3
          · refine ins_WT (I := I) (by rw [hfin v hpqv, hv3]; exact i1v.2.2) A 0 hw0 hnd0 hsf (fun a ha hp => ?_) (fun a ha hp => ?_)
            · rw [hfin a (fun e => hpqA (e ▸ ha)), (hIP a).1 (by rw [ePw]; exact hp), x_up_s, i1o a (hAne a ha)]
            · rw [hfin a (fun e => hpqA (e ▸ ha)), (hIP a).2 (by rw [ePw]; exact hp), i1o a (hAne a ha)]
          · rw [hfin v hpqv, hv3]; exact i1v.1
          · rw [hfin v hpqv, hv3]; exact i1v.2.1
          · intro q h1 h2 h3
            rw [hfin q h3, (hIP q).2 (fun h => h1 (hPm q h)), i1o q h2]
          · intro q j h1 h2 h3
            rw [hfin q h2]
            by_cases hq : q ∈ Pw
            · rw [(hIP q).1 hq, x_up_n _ _ h3, i1o q h1]
            · rw [(hIP q).2 hq, i1o q h1]
          · intro j hj
            rw [x_u2_j _ _ hj, (hIP pq).2 (fun h => hpqA (hPm pq h)), i1o pq (fun e => hpqv e.symm)]
          · intro q h1 h2 h3 h4
            rw [x_u2_a _ _ h3]
            exact hQ2 q h1 h2 h4
          · intro j hj
            rw [x_u2_a _ _ hpnt]
            exact hQt j hj
          · rw [x_u2_s, ePw]
          · rw [x_u2, x_up_s, ← ePw]
            exact SEG_app (SEG_congr hsg2 (fun i h1 h2 => x_up_n _ _ (by omega))) (SEG_one (by rw [Nat.zero_add]; exact x_up_s _ _ _))
        · skip
          have hil : i0 < Pw.length := by
            rcases Nat.lt_or_ge i0 Pw.length with h | h
            · exact h
            · exact absurd ((nI_leI (by omega) (by omega)).mpr h) c_80
          obtain ⟨p1, hp1⟩ : ∃ p1, Pw[i0]? = some p1 := ⟨_, List.getElem?_eq_getElem hil⟩
          have hp1m : p1 ∈ Pw := List.mem_of_getElem? hp1
          have hp1k : K_0 p1 = 3 := (hnd1 p1 (hPm p1 hp1m)).1
          refine x_aload_n C D_X2_addLeaf_3.2.2.2.2.2.2.1 rfl rfl (by first | exact Or.inr ⟨_, rfl⟩ | exact va_rf_or _ | exact Or.inl rfl) ?_
          refine x_getQ C (ci := 1) (k0 := 0) hz2.1 (by decide) rfl (by decide) in_X1 k_110 rfl rfl D_X2_addLeaf_3.2.2.2.2.2.2.2.1 ?_
          refine x_eqr hz2.2.2.1 ?_
          refine x_iload C D_X2_addLeaf_3.2.2.2.2.2.2.2.2.1 rfl ?_
          refine x_callVq C (y := yX4_at) (c_X4_at l G pq pn 40 Pw.length (nI i0) (hz2.2.2.2.2.1.ok hpl3 (by omega))) (ci := 3) hz2.2.2.2.2.1.1 (by decide) rfl rfl k_272 k_273 k_274 k_63 k_275 hd_X4_at ⟨(Nat.le_of_ble_eq_true rfl), (Nat.le_of_ble_eq_true rfl)⟩ rfl (by first | exact Nat.le_of_ble_eq_true rfl | simp [x_crf, Value.category]) rfl rfl D_X2_addLeaf_3.2.2.2.2.2.2.2.2.2.1 ⟨(Nat.le_of_ble_eq_true rfl), (Nat.le_of_ble_eq_true rfl)⟩ (fun r_89 S_89 h_89 => ?_)
          obtain ⟨hr89, rfl⟩ := h_89
          rw [atv_in _ hil (by omega), ← Nat.zero_add i0, hsg2 i0 hil, hp1] at hr89
          subst hr89
          refine x_astore C (lv' := [_, _, _, _, _, _, _]) D_X2_addLeaf_3.2.2.2.2.2.2.2.2.2.2.1 (Nat.le_of_ble_eq_true rfl) rfl (by first | exact Or.inr ⟨_, rfl⟩ | exact va_rf_or _ | exact Or.inl rfl) rfl ?_
          refine x_aload C D_X2_addLeaf_3.2.2.2.2.2.2.2.2.2.2.2 rfl (by first | exact Or.inr ⟨_, rfl⟩ | exact va_rf_or _ | exact Or.inl rfl) ?_
          refine x_ifnull C 110 D_X2_addLeaf_4.1 (by decide) (fun e_96 => ?_) (fun x9 e_96 => ?_)
          · skip
            exact absurd e_96 (by simp)
            --end
          · skip
            obtain rfl : p1 = x9 := Option.some.inj e_96
            refine x_aload C D_X2_addLeaf_4.2.1 rfl (by first | exact Or.inr ⟨_, rfl⟩ | exact va_rf_or _ | exact Or.inl rfl) ?_
            refine x_dup C D_X2_addLeaf_4.2.2.1 (by first | rfl | exact x_crf _) ?_
            refine x_getI C (ci := 2) (k0 := 2) hp1k (by decide) rfl (by decide) in_X3 k_619 rfl rfl D_X2_addLeaf_4.2.2.2.1 ?_
            refine x_iconst C (v := nI 1) D_X2_addLeaf_4.2.2.2.2.1 (by decide +kernel) ?_
            refine x_iadd C D_X2_addLeaf_4.2.2.2.2.2.1 ?_
            refine x_putI C (ci := 2) (k0 := 2) hp1k (by decide) rfl (by decide) in_X3 k_619 rfl tyX3 tyX3_ok nmX3 rfl (by rfl) rfl rfl rfl D_X2_addLeaf_4.2.2.2.2.2.2.1 (fun I4 eI4 => ?_)
            refine x_iinc C (lv' := [_, _, _, _, _, _, _]) D_X2_addLeaf_4.2.2.2.2.2.2.2.1 rfl (x_inc_1 _) rfl rfl ?_
            refine x_lv (lv := [_, _, _, _, _, some (.int (nI (i0 + 1))), _]) (by rw [nI_add]) ?_
            refine x_goto C 71 D_X2_addLeaf_4.2.2.2.2.2.2.2.2.1 (by decide) ?_
            refine ih_71 (i0 + 1) I4 _ (by omega) (by omega) (fun a => ⟨fun h => ?_, fun h => ?_⟩)
            · rcases (take_succ_mem hp1).mp h with h1 | rfl
              · have hap : a ≠ p1 := fun e => take_nodup_at hPn hp1 (e ▸ h1)
                rw [eI4, x_u2_a _ _ hap]; exact (hI3 a).1 h1
              · have h2 := (hI3 a).2 (take_nodup_at hPn hp1)
                rw [eI4, x_u2, x_up_s, h2]
            · have h1 : ¬ (a ∈ Pw.take i0 ∨ a = p1) := fun h2 => h ((take_succ_mem hp1).mpr h2)
              rw [eI4, x_u2_a _ _ (fun e => h1 (Or.inr e))]
              exact (hI3 a).2 (fun h2 => h1 (Or.inl h2))
    exact L_71 _ 0 I1 _ (Nat.lt_succ_self _) (Nat.zero_le _) (fun a => ⟨fun h => by simp at h, fun _ => rfl⟩)
  refine x_aload C D_X2_addLeaf_1.2.2.2.2.1 rfl (by first | exact Or.inr ⟨_, rfl⟩ | exact va_rf_or _ | exact Or.inl rfl) ?_
  refine x_ifnonnull C 42 D_X2_addLeaf_1.2.2.2.2.2.1 (by decide) (fun p0 e_31 => ?_) (fun e_31 => ?_)
  · skip
    subst e_31
    have h9 : 0 < Pw.length := by
      rcases Nat.eq_zero_or_pos Pw.length with h | h
      · rw [h, atv_out _ (Or.inl (by decide)) (by omega)] at hr24
        cases hr24
      · exact h
    rw [pk_sub (by omega), atv_in _ (by omega) (by omega), ← Nat.zero_add (Pw.length - 1), hsg1 _ (by omega)] at hr24
    obtain ⟨P0, hPe⟩ : ∃ P0, Pw = P0 ++ [p0] := by
      rcases List.eq_nil_or_concat Pw with h | ⟨P0, z, h⟩
      · rw [h] at h9; simp at h9
      · rw [List.concat_eq_append] at h
        rw [h] at hr24
        simp at hr24
        exact ⟨P0, by rw [h, hr24]⟩
    have hp0 : p0 ∈ ino A := hPm p0 (by rw [hPe]; simp)
    have hp0n := hnd1 p0 hp0
    have hlp : Pw.length - 1 = P0.length := by rw [hPe]; simp
    refine x_aload_n C D_X2_addLeaf_1.2.2.2.2.2.2.2.2.2.2.1 rfl rfl (by first | exact Or.inr ⟨_, rfl⟩ | exact va_rf_or _ | exact Or.inl rfl) ?_
    refine x_iload_n C D_X2_addLeaf_1.2.2.2.2.2.2.2.2.2.2.2 rfl rfl ?_
    refine x_aload C D_X2_addLeaf_2.1 rfl (by first | exact Or.inr ⟨_, rfl⟩ | exact va_rf_or _ | exact Or.inl rfl) ?_
    refine x_iload_n C D_X2_addLeaf_2.2.1 rfl rfl ?_
    rw [pk_sub (by omega), hlp]
    refine x_callUz C (x := ⟨"ScapegoatSpur$LazyTree", "belongsLeft", "(ILScapegoatSpur$Node;I)Z"⟩) (y := yX2_belongsLeft) (owner := "ScapegoatSpur$LazyTree") (c_X2_belongsLeft_1 l G t c P0.length p0 cd hz1.1 hc (by omega) hp0n.1 hp0n.2.1 hp0n.2.2) (ci := 1) hz1.1 (by decide) rfl k_228 k_0 k_1 k_230 k_61 k_231 rfl hu_X2_belongsLeft ⟨(Nat.le_of_ble_eq_true rfl), (Nat.le_of_ble_eq_true rfl)⟩ rfl (by first | exact Nat.le_of_ble_eq_true rfl | simp [x_crf, Value.category]) rfl rfl D_X2_addLeaf_2.2.2.1 ⟨(Nat.le_of_ble_eq_true rfl), (Nat.le_of_ble_eq_true rfl)⟩ (fun r_47 S_47 h_47 => ?_)
    obtain ⟨rfl, rfl⟩ := h_47
    refine x_if_eq C 62 D_X2_addLeaf_2.2.2.2.1 (by decide) (fun c_50 => ?_) (fun c_50 => ?_)
    · skip
      have c1 : ¬ od1 P0.length c < od1 P0.length (cd p0) := by
        intro h
        rw [decide_eq_true h] at c_50
        exact absurd c_50 (by decide)
      have hps := pside_last (od := od1) (cd := cd) (c := c) A 0 p0 hsf (by rw [← ePw, hPe]; simp)
      rw [← ePw, hPe, List.length_append, List.length_singleton, Nat.zero_add, Nat.add_sub_cancel, if_neg c1] at hps
      refine x_aload C D_X2_addLeaf_2.2.2.2.2.2.2.2.2.1 rfl (by first | exact Or.inr ⟨_, rfl⟩ | exact va_rf_or _ | exact Or.inl rfl) ?_
      refine x_aload_n C D_X2_addLeaf_2.2.2.2.2.2.2.2.2.2.1 rfl rfl (by first | exact Or.inr ⟨_, rfl⟩ | exact va_rf_or _ | exact Or.inl rfl) ?_
      refine x_putQ C (ci := 2) (k0 := 4) hp0n.1 (by decide) rfl (by decide) in_X3 k_625 rfl tyX3 tyX3_ok nmX3 rfl (by first | exact rfl | exact (rfl : _ = va_rf (some _)) | exact (rfl : _ = va_rf none)) (by rfl) (by first | rfl | exact x_narq _ _) (by first | rfl | exact x_fitq _ _) rfl D_X2_addLeaf_2.2.2.2.2.2.2.2.2.2.2.1 (fun Q_65 eQ_65 => ?_)
      refine x_fgt 4 (lv' := [_, _, _, _, _, _, _]) rfl ?_
      have hvp : v ≠ p0 := fun e => hvA (e ▸ hp0)
      have htp : t ≠ p0 := fun e => by have h1 := (hnd p0 hp0).1; rw [← e, hkt] at h1; omega
      refine L_68 _ _ ?_ ?_ ?_
      · have h : TP K_0 Q_65 (insA od1 cd c v A 0) (Q t 2) := by
          refine ins_TP ?_ A 0 _ hT0 hnd0 (fun a ha => (hnd1 a ha).1) _ hps ?_ ?_
          · exact ⟨rfl, hkv, by rw [eQ_65, x_u2_a _ _ hvp, hvq.1]; rfl, by rw [eQ_65, x_u2_a _ _ hvp, hvq.2]; rfl⟩
          · intro a j ha hj
            by_cases hap : a = p0
            · subst hap
              rw [eQ_65, x_u2_j _ _ (fun e => hj (by rw [e])), q1o a (hAne a ha)]
            · rw [eQ_65, x_u2_a _ _ hap, q1o a (hAne a ha)]
          · rw [eQ_65, x_u2_s]
        rw [show Q_65 t 2 = Q t 2 by rw [eQ_65, x_u2_a _ _ htp, q1o t (hne t (by omega))]]
        exact h
      · intro a h1 h2 h3
        have hap : a ≠ p0 := fun e => h1 (e ▸ hp0)
        rw [eQ_65, x_u2_a _ _ hap, q1o a h2]
      · intro j hj
        rw [eQ_65, x_u2_a _ _ htp, q1o t (hne t (by omega))]
    · skip
      have c1 : od1 P0.length c < od1 P0.length (cd p0) := by
        by_cases h : od1 P0.length c < od1 P0.length (cd p0)
        · exact h
        · rw [decide_eq_false h] at c_50
          exact absurd rfl c_50
      have hps := pside_last (od := od1) (cd := cd) (c := c) A 0 p0 hsf (by rw [← ePw, hPe]; simp)
      rw [← ePw, hPe, List.length_append, List.length_singleton, Nat.zero_add, Nat.add_sub_cancel, if_pos c1] at hps
      refine x_aload C D_X2_addLeaf_2.2.2.2.2.1 rfl (by first | exact Or.inr ⟨_, rfl⟩ | exact va_rf_or _ | exact Or.inl rfl) ?_
      refine x_aload_n C D_X2_addLeaf_2.2.2.2.2.2.1 rfl rfl (by first | exact Or.inr ⟨_, rfl⟩ | exact va_rf_or _ | exact Or.inl rfl) ?_
      refine x_putQ C (ci := 2) (k0 := 3) hp0n.1 (by decide) rfl (by decide) in_X3 k_622 rfl tyX3 tyX3_ok nmX3 rfl (by first | exact rfl | exact (rfl : _ = va_rf (some _)) | exact (rfl : _ = va_rf none)) (by rfl) (by first | rfl | exact x_narq _ _) (by first | rfl | exact x_fitq _ _) rfl D_X2_addLeaf_2.2.2.2.2.2.2.1 (fun Q_56 eQ_56 => ?_)
      refine x_goto C 68 D_X2_addLeaf_2.2.2.2.2.2.2.2.1 (by decide) ?_
      refine x_fgt 4 (lv' := [_, _, _, _, _, _, _]) rfl ?_
      have hvp : v ≠ p0 := fun e => hvA (e ▸ hp0)
      have htp : t ≠ p0 := fun e => by have h1 := (hnd p0 hp0).1; rw [← e, hkt] at h1; omega
      refine L_68 _ _ ?_ ?_ ?_
      · have h : TP K_0 Q_56 (insA od1 cd c v A 0) (Q t 2) := by
          refine ins_TP ?_ A 0 _ hT0 hnd0 (fun a ha => (hnd1 a ha).1) _ hps ?_ ?_
          · exact ⟨rfl, hkv, by rw [eQ_56, x_u2_a _ _ hvp, hvq.1]; rfl, by rw [eQ_56, x_u2_a _ _ hvp, hvq.2]; rfl⟩
          · intro a j ha hj
            by_cases hap : a = p0
            · subst hap
              rw [eQ_56, x_u2_j _ _ (fun e => hj (by rw [e])), q1o a (hAne a ha)]
            · rw [eQ_56, x_u2_a _ _ hap, q1o a (hAne a ha)]
          · rw [eQ_56, x_u2_s]
        rw [show Q_56 t 2 = Q t 2 by rw [eQ_56, x_u2_a _ _ htp, q1o t (hne t (by omega))]]
        exact h
      · intro a h1 h2 h3
        have hap : a ≠ p0 := fun e => h1 (e ▸ hp0)
        rw [eQ_56, x_u2_a _ _ hap, q1o a h2]
      · intro j hj
        rw [eQ_56, x_u2_a _ _ htp, q1o t (hne t (by omega))]
  · skip
    subst e_31
    have hA0 : A = .leaf () := by
      cases A with
      | leaf _ => rfl
      | branch q tl_ tr_ =>
        have h9 : 0 < Pw.length := by rw [ePw]; simp [spath]
        rw [pk_sub (by omega), atv_in _ (by omega) (by omega), ← Nat.zero_add (Pw.length - 1), hsg1 _ (by omega), List.getElem?_eq_getElem (by omega)] at hr24
        cases hr24
    refine x_aload_n C D_X2_addLeaf_1.2.2.2.2.2.2.1 rfl rfl (by first | exact Or.inr ⟨_, rfl⟩ | exact va_rf_or _ | exact Or.inl rfl) ?_
    refine x_aload_n C D_X2_addLeaf_1.2.2.2.2.2.2.2.1 rfl rfl (by first | exact Or.inr ⟨_, rfl⟩ | exact va_rf_or _ | exact Or.inl rfl) ?_
    refine x_putQ C (ci := 1) (k0 := 2) hz1.1 (by decide) rfl (by decide) in_X1 k_112 rfl tyX1 tyX1_ok nmX1 rfl (by first | exact rfl | exact (rfl : _ = va_rf (some _)) | exact (rfl : _ = va_rf none)) (by rfl) (by first | rfl | exact x_narq _ _) (by first | rfl | exact x_fitq _ _) rfl D_X2_addLeaf_1.2.2.2.2.2.2.2.2.1 (fun Q_36 eQ_36 => ?_)
    refine x_goto C 68 D_X2_addLeaf_1.2.2.2.2.2.2.2.2.2.1 (by decide) ?_
    refine x_fgt 4 (lv' := [_, _, _, _, _, _, _]) rfl ?_
    refine L_68 _ _ ?_ ?_ ?_
    · rw [eQ_36, x_u2_s, hA0]
      have htv : v ≠ t := fun e => hne t (by omega) e.symm
      exact ⟨rfl, hkv, by rw [x_u2_a _ _ htv, hvq.1]; rfl, by rw [x_u2_a _ _ htv, hvq.2]; rfl⟩
    · intro a h1 h2 h3
      rw [eQ_36, x_u2_a _ _ h3, q1o a h2]
    · intro j hj
      rw [eQ_36, x_u2_j _ _ hj, q1o t (hne t (by omega))]
abbrev rm_X2_addLeaf_5 : Room := { frames := 2, cells := 1, slots := 5, locals := 45 }
set_option maxHeartbeats 4000000 in
set_option maxRecDepth 100000 in
theorem c_X2_addLeaf_5 (l : Launch) (G : xG) {K N : Nat → Nat} {I : Nat → Nat → Int32} {Q : Nat → Nat → Option Nat} {J : Nat → Nat → Int64} (t pq pn rw rn cap : Nat) (c : Nat) (A : Tr) (cd : Nat → Nat) (hz : LZ K N Q t 5 pq pn rw rn cap) (hT0 : TP K Q A (Q t 2)) (hw0 : WT I A) (hnd0 : (ino A).Nodup) (hnd : ND cv5 10000 K I cd (ino A)) (hA : ht A < 40) (hc : c < 10000) (hsf : sfind od5 cd c A 0 = none) (hpl : I pq 1 = nI (spath od5 cd c A 0).length) (hsg : SEG (Q pn) 0 (spath od5 cd c A 0)) : XM l yX2_addLeaf cX2_addLeaf 7 none rm_X2_addLeaf_5 G Rv [.ref t, .int (cv5 c)] (K, N, I, Q, J) (fun _ S1 => ∃ v K1 I1 Q1, S1 = (K1, N, I1, Q1, J) ∧ K v = 0 ∧ K1 = x_up K v 3 ∧ TP K1 Q1 (insA od5 cd c v A 0) (Q1 t 2) ∧ WT I1 (insA od5 cd c v A 0) ∧ I1 v 0 = cv5 c ∧ I1 v 1 = nI 1 ∧ (∀ q, q ∉ ino A → q ≠ v → q ≠ pq → I1 q = I q) ∧ (∀ q j, q ≠ v → q ≠ pq → j ≠ 2 → I1 q j = I q j) ∧ (∀ j, j ≠ 1 → I1 pq j = I pq j) ∧ (∀ q, q ∉ ino A → q ≠ v → q ≠ pn → q ≠ t → Q1 q = Q q) ∧ (∀ j, j ≠ 2 → Q1 t j = Q t j) ∧ I1 pq 1 = nI ((spath od5 cd c A 0).length + 1) ∧ SEG (Q1 pn) 0 (spath od5 cd c A 0 ++ [v])) := by
  refine x_metv (lv := [_, _, _, _, _, _, _]) (by decide +kernel) (x_cc (by first | rfl | exact x_crf _) (x_cc (by first | rfl | exact x_crf _) x_cn)) (Nat.le_of_ble_eq_true rfl) rfl ?_
  intro pP eE sS mM aA bB hH cC Z C hini ret
  have hkt := hz.1
  have hpk := hz.2.2.2.2.1
  have hkpq := hpk.1
  have hkpn := hpk.2.2.1
  obtain ⟨Pw, ePw⟩ : ∃ Pw, Pw = spath od5 cd c A 0 := ⟨_, rfl⟩
  have hPl : Pw.length ≤ ht A := by rw [ePw]; exact spath_len _ _ _ _ _
  have hPm : ∀ a ∈ Pw, a ∈ ino A := fun a ha => spath_mem _ _ _ _ _ _ (by rw [← ePw]; exact ha)
  have hPn : Pw.Nodup := by rw [ePw]; exact spath_nodup _ _ hnd0
  rw [← ePw] at hpl hsg
  have hP3 : ∀ a ∈ Pw, K a = 3 := fun a ha => (hnd a (hPm a ha)).1
  refine x_new C (ci := 2) rfl (by decide) in_X3 tyX3 tyX3_ok x_layX3 k_602 k_603 k_73 (Nat.le_of_ble_eq_true rfl) (Nat.le_of_ble_eq_true rfl) D_X2_addLeaf_0.1 (fun v K_0 I_0 Q_0 fv eK_0 eI_0 eQ_0 => ?_)
  refine x_dup C D_X2_addLeaf_0.2.1 (by first | rfl | exact x_crf _) ?_
  refine x_iload_n C D_X2_addLeaf_0.2.2.1 rfl rfl ?_
  refine x_callI (ret := none) C (y := yX3_init) (c_X3_init l G v (cv5 c) (by rw [eK_0, x_up_s])) k_606 k_73 k_604 k_605 rfl hd_X3_init ⟨(Nat.le_of_ble_eq_true rfl), (Nat.le_of_ble_eq_true rfl)⟩ rfl (by first | exact Nat.le_of_ble_eq_true rfl | simp [x_crf, Value.category]) rfl rfl D_X2_addLeaf_0.2.2.2.1 ⟨(Nat.le_of_ble_eq_true rfl), (Nat.le_of_ble_eq_true rfl)⟩ (fun _ S_5 h_5 => ?_)
  obtain rfl := h_5
  obtain ⟨I1, eI1⟩ : ∃ I1, I1 = x_u2 (x_u2 (x_u2 I_0 v 1 (nI 1)) v 2 (nI 1)) v 0 (cv5 c) := ⟨_, rfl⟩
  rw [← eI1]
  have i1v : I1 v 0 = cv5 c ∧ I1 v 1 = nI 1 ∧ I1 v 2 = nI 1 := by rw [eI1]; simp [x_u2, x_up]
  have i1o : ∀ q, q ≠ v → I1 q = I q := fun q hq => by rw [eI1, x_u2_a _ _ hq, x_u2_a _ _ hq, x_u2_a _ _ hq, eI_0, x_up_n _ _ hq]
  have q1o : ∀ q, q ≠ v → Q_0 q = Q q := fun q hq => by rw [eQ_0, x_up_n _ _ hq]
  have k1o : ∀ q, q ≠ v → K_0 q = K q := fun q hq => by rw [eK_0, x_up_n _ _ hq]
  have hne : ∀ q, K q ≠ 0 → q ≠ v := fun q hq e => hq (by rw [e]; exact fv)
  have hx : EXT K N I Q K_0 N I1 Q_0 := fun a ha => ⟨k1o a (hne a ha), rfl, i1o a (hne a ha), q1o a (hne a ha)⟩
  have hz1 := hx.lz hz
  have hT1 := hx.tp hT0
  have hnd1 := hx.nd hnd
  have hpl1 : I1 pq 1 = nI Pw.length := by rw [i1o pq (hne pq (by omega))]; exact hpl
  have hsg1 : SEG (Q_0 pn) 0 Pw := by rw [q1o pn (hne pn (by omega))]; exact hsg
  have hro : RowOK K_0 N I1 Q_0 pq pn 40 Pw.length := hz1.2.2.2.2.1.ok hpl1 (by omega)
  have hkv : K_0 v = 3 := by rw [eK_0, x_up_s]
  have hvq : Q_0 v 3 = none ∧ Q_0 v 4 = none := by rw [eQ_0, x_up_s]; exact ⟨rfl, rfl⟩
  have hvA : v ∉ ino A := fun h => hne v (by rw [(hnd v h).1]; omega) rfl
  have hAne : ∀ q ∈ ino A, q ≠ v := fun q hq e => hvA (e ▸ hq)
  refine x_astore_n C (lv' := [_, _, _, _, _, _, _]) D_X2_addLeaf_0.2.2.2.2.1 rfl (Nat.le_of_ble_eq_true rfl) rfl (by first | exact Or.inr ⟨_, rfl⟩ | exact va_rf_or _ | exact Or.inl rfl) rfl ?_
  refine x_aload_n C D_X2_addLeaf_0.2.2.2.2.2.1 rfl rfl (by first | exact Or.inr ⟨_, rfl⟩ | exact va_rf_or _ | exact Or.inl rfl) ?_
  refine x_getQ C (ci := 4) (k0 := 0) hz1.1 (by decide) rfl (by decide) in_X5 k_110 rfl rfl D_X2_addLeaf_0.2.2.2.2.2.2.1 ?_
  refine x_eqr hz1.2.2.1 ?_
  refine x_callVi C (y := yX4_length) (c_X4_length l G pq hz1.2.2.2.2.1.1) (ci := 3) hz1.2.2.2.2.1.1 (by decide) rfl rfl k_220 k_221 k_222 k_63 k_223 hd_X4_length ⟨(Nat.le_of_ble_eq_true rfl), (Nat.le_of_ble_eq_true rfl)⟩ rfl (by first | exact Nat.le_of_ble_eq_true rfl | simp [x_crf, Value.category]) rfl rfl D_X2_addLeaf_0.2.2.2.2.2.2.2.1 ⟨(Nat.le_of_ble_eq_true rfl), (Nat.le_of_ble_eq_true rfl)⟩ (fun r_13 S_13 h_13 => ?_)
  obtain ⟨rfl, rfl⟩ := h_13
  refine x_eqi _ hpl1 ?_
  refine x_iconst C (v := nI 1) D_X2_addLeaf_0.2.2.2.2.2.2.2.2.1 (by decide +kernel) ?_
  refine x_isub C D_X2_addLeaf_0.2.2.2.2.2.2.2.2.2.1 ?_
  refine x_istore_n C (lv' := [_, _, _, _, _, _, _]) D_X2_addLeaf_0.2.2.2.2.2.2.2.2.2.2.1 rfl (Nat.le_of_ble_eq_true rfl) rfl rfl ?_
  refine x_aload_n C D_X2_addLeaf_0.2.2.2.2.2.2.2.2.2.2.2 rfl rfl (by first | exact Or.inr ⟨_, rfl⟩ | exact va_rf_or _ | exact Or.inl rfl) ?_
  refine x_getQ C (ci := 4) (k0 := 0) hz1.1 (by decide) rfl (by decide) in_X5 k_110 rfl rfl D_X2_addLeaf_1.1 ?_
  refine x_eqr hz1.2.2.1 ?_
  refine x_iload_n C D_X2_addLeaf_1.2.1 rfl rfl ?_
  refine x_callVq C (y := yX4_at) (c_X4_at l G pq pn 40 Pw.length (nI Pw.length - nI 1) hro) (ci := 3) hz1.2.2.2.2.1.1 (by decide) rfl rfl k_272 k_273 k_274 k_63 k_275 hd_X4_at ⟨(Nat.le_of_ble_eq_true rfl), (Nat.le_of_ble_eq_true rfl)⟩ rfl (by first | exact Nat.le_of_ble_eq_true rfl | simp [x_crf, Value.category]) rfl rfl D_X2_addLeaf_1.2.2.1 ⟨(Nat.le_of_ble_eq_true rfl), (Nat.le_of_ble_eq_true rfl)⟩ (fun r_24 S_24 h_24 => ?_)
  obtain ⟨hr24, rfl⟩ := h_24
  refine x_astore C (lv' := [_, _, _, _, _, _, _]) D_X2_addLeaf_1.2.2.2.1 (Nat.le_of_ble_eq_true rfl) rfl (by first | exact Or.inr ⟨_, rfl⟩ | exact va_rf_or _ | exact Or.inl rfl) rfl ?_
  have L_68 : ∀ (Q2 : Nat → Nat → Option Nat) (x3 : Int32), (TP K_0 Q2 (insA od5 cd c v A 0) (Q2 t 2)) → (∀ q, q ∉ ino A → q ≠ v → q ≠ t → Q2 q = Q q) → (∀ j, j ≠ 2 → Q2 t j = Q t j) → XW pP l eE rm_X2_addLeaf_5 sS mM aA bB hH cC G Z 1 5 (K_0, N, I1, Q2, J) 68 [some (.ref t), some (.int (cv5 c)), some (.ref v), some (.int x3), none, none, none] [] := by
    intro Q2 x3 hT2 hQ2 hQt
    have hpnA0 : pn ∉ ino A := fun h => by have h1 := (hnd pn h).1; omega
    have hpqA0 : pq ∉ ino A := fun h => by have h1 := (hnd pq h).1; omega
    have hsg2 : SEG (Q2 pn) 0 Pw := by rw [hQ2 pn hpnA0 (hne pn (by omega)) (fun e => by rw [e, hkt] at hkpn; omega)]; exact hsg
    have hz2 : LZ K_0 N Q2 t 5 pq pn rw rn cap := by
      refine hz1.congr (fun a h3 h23 => ?_)
      by_cases hav : a = v
      · exact absurd hkv (hav ▸ h3)
      have haA : a ∉ ino A := fun h => h3 (hnd1 a h).1
      by_cases hat : a = t
      · subst hat
        rw [hQt 0 (by omega), hQt 1 (by omega), q1o a hav]; exact ⟨rfl, rfl⟩
      · rw [hQ2 a haA hav hat, q1o a hav]; exact ⟨rfl, rfl⟩
    refine x_iconst C (v := nI 0) D_X2_addLeaf_2.2.2.2.2.2.2.2.2.2.2.2 (by decide +kernel) ?_
    refine x_istore C (lv' := [_, _, _, _, _, _, _]) D_X2_addLeaf_3.1 (Nat.le_of_ble_eq_true rfl) rfl rfl ?_
    have L_71 : ∀ (w_71 : Nat) (i0 : Nat) (I3 : Nat → Nat → Int32) (v6 : Option Value), Pw.length - i0 < w_71 → (i0 ≤ Pw.length) → (∀ a, (a ∈ Pw.take i0 → I3 a = x_up (I1 a) 2 (I1 a 2 + nI 1)) ∧ (a ∉ Pw.take i0 → I3 a = I1 a)) → XW pP l eE rm_X2_addLeaf_5 sS mM aA bB hH cC G Z 1 5 (K_0, N, I3, Q2, J) 71 [some (.ref t), some (.int (cv5 c)), some (.ref v), some (.int x3), none, some (.int (nI i0)), v6] [] := by
      intro w_71
      induction w_71 with
      | zero =>
        intro i0 I3 v6 hw_71
        exact absurd hw_71 (Nat.not_lt_zero _)
      | succ w_71 ih_71 =>
        intro i0 I3 v6 hw_71 hi0 hI3
        have hpl3 : I3 pq 1 = nI Pw.length := by rw [(hI3 pq).2 (fun h => hpqA0 (hPm pq (List.mem_of_mem_take h)))]; exact hpl1
        refine x_iload C D_X2_addLeaf_3.2.1 rfl ?_
        refine x_aload_n C D_X2_addLeaf_3.2.2.1 rfl rfl (by first | exact Or.inr ⟨_, rfl⟩ | exact va_rf_or _ | exact Or.inl rfl) ?_
        refine x_getQ C (ci := 4) (k0 := 0) hz2.1 (by decide) rfl (by decide) in_X5 k_110 rfl rfl D_X2_addLeaf_3.2.2.2.1 ?_
        refine x_eqr hz2.2.2.1 ?_
        refine x_callVi C (y := yX4_length) (c_X4_length l G pq hz2.2.2.2.2.1.1) (ci := 3) hz2.2.2.2.2.1.1 (by decide) rfl rfl k_220 k_221 k_222 k_63 k_223 hd_X4_length ⟨(Nat.le_of_ble_eq_true rfl), (Nat.le_of_ble_eq_true rfl)⟩ rfl (by first | exact Nat.le_of_ble_eq_true rfl | simp [x_crf, Value.category]) rfl rfl D_X2_addLeaf_3.2.2.2.2.1 ⟨(Nat.le_of_ble_eq_true rfl), (Nat.le_of_ble_eq_true rfl)⟩ (fun r_77 S_77 h_77 => ?_)
        obtain ⟨rfl, rfl⟩ := h_77
        refine x_eqi _ hpl3 ?_
        refine x_icmp_ge C 116 D_X2_addLeaf_3.2.2.2.2.2.1 (by decide) (fun c_80 => ?_) (fun c_80 => ?_)
        · skip
          have hie : i0 = Pw.length := by
            have h9 := (nI_leI (by omega) (by omega)).mp c_80
            omega
          refine x_aload_n C D_X2_addLeaf_4.2.2.2.2.2.2.2.2.2.1 rfl rfl (by first | exact Or.inr ⟨_, rfl⟩ | exact va_rf_or _ | exact Or.inl rfl) ?_
          refine x_getQ C (ci := 4) (k0 := 0) hz2.1 (by decide) rfl (by decide) in_X5 k_110 rfl rfl D_X2_addLeaf_4.2.2.2.2.2.2.2.2.2.2.1 ?_
          refine x_eqr hz2.2.2.1 ?_
          refine x_aload_n C D_X2_addLeaf_4.2.2.2.2.2.2.2.2.2.2.2 rfl rfl (by first | exact Or.inr ⟨_, rfl⟩ | exact va_rf_or _ | exact Or.inl rfl) ?_
          refine x_callVv C (y := yX4_append) (c_X4_append l G pq pn 40 Pw.length v (hz2.2.2.2.2.1.ok hpl3 (by omega)) hkv (by omega)) (ci := 3) hz2.2.2.2.2.1.1 (by decide) rfl rfl k_224 k_225 k_226 k_63 k_227 hd_X4_append ⟨(Nat.le_of_ble_eq_true rfl), (Nat.le_of_ble_eq_true rfl)⟩ rfl (by first | exact Nat.le_of_ble_eq_true rfl | simp [x_crf, Value.category]) rfl rfl D_X2_addLeaf_5.1 ⟨(Nat.le_of_ble_eq_true rfl), (Nat.le_of_ble_eq_true rfl)⟩ (fun _ S_121 h_121 => ?_)
          obtain rfl := h_121
          refine ret _ _ _ _ _ rfl D_X2_addLeaf_5.2 (Nat.le_of_ble_eq_true rfl) (Nat.le_of_ble_eq_true rfl) ?_
          have hIP : ∀ a, (a ∈ Pw → I3 a = x_up (I1 a) 2 (I1 a 2 + nI 1)) ∧ (a ∉ Pw → I3 a = I1 a) := fun a => by
            have h9 := hI3 a
            rw [hie, List.take_length] at h9
            exact h9
          have hvP : v ∉ Pw := fun h => hvA (hPm v h)
          have hpqA : pq ∉ ino A := fun h => by have h1 := (hnd pq h).1; omega
          have hpqv : v ≠ pq := fun e => hne pq (by omega) e.symm
          have hpnA : pn ∉ ino A := fun h => by have h1 := (hnd pn h).1; omega
          have hpnv : v ≠ pn := fun e => hne pn (by omega) e.symm
          have hpnt : t ≠ pn := fun e => by rw [e, hkpn] at hkt; omega
          have hfin : ∀ q, q ≠ pq → x_u2 I3 pq 1 (nI (Pw.length + 1)) q = I3 q := fun q h => x_u2_a _ _ h
          have hv3 : I3 v = I1 v := (hIP v).2 hvP
          refine ⟨v, K_0, _, _, rfl, fv, eK_0, ?_, ?_, ?_, ?_, ?_, ?_, ?_, ?_, ?_, ?_, ?_⟩
          · have hT3 : TP K_0 (x_u2 Q2 pn Pw.length (some v)) (insA od5 cd c v A 0) (Q2 t 2) := hT2.row (by rw [k1o pn (hne pn (by omega))]; exact hkpn) _
            rw [x_u2_a _ _ hpnt]; exact hT3
          · refine ins_WT (I := I) (by rw [hfin v hpqv, hv3]; exact i1v.2.2) A 0 hw0 hnd0 hsf (fun a ha hp => ?_) (fun a ha hp => ?_)
            · rw [hfin a (fun e => hpqA (e ▸ ha)), (hIP a).1 (by rw [ePw]; exact hp), x_up_s, i1o a (hAne a ha)]
            · rw [hfin a (fun e => hpqA (e ▸ ha)), (hIP a).2 (by rw [ePw]; exact hp), i1o a (hAne a ha)]
          · rw [hfin v hpqv, hv3]; exact i1v.1
          · rw [hfin v hpqv, hv3]; exact i1v.2.1
          · intro q h1 h2 h3
            rw [hfin q h3, (hIP q).2 (fun h => h1 (hPm q h)), i1o q h2]
          · intro q j h1 h2 h3
            rw [hfin q h2]
            by_cases hq : q ∈ Pw
            · rw [(hIP q).1 hq, x_up_n _ _ h3, i1o q h1]
            · rw [(hIP q).2 hq, i1o q h1]
          · intro j hj
            rw [x_u2_j _ _ hj, (hIP pq).2 (fun h => hpqA (hPm pq h)), i1o pq (fun e => hpqv e.symm)]
          · intro q h1 h2 h3 h4
            rw [x_u2_a _ _ h3]
            exact hQ2 q h1 h2 h4
          · intro j hj
            rw [x_u2_a _ _ hpnt]
            exact hQt j hj
          · rw [x_u2_s, ePw]
          · rw [x_u2, x_up_s, ← ePw]
            exact SEG_app (SEG_congr hsg2 (fun i h1 h2 => x_up_n _ _ (by omega))) (SEG_one (by rw [Nat.zero_add]; exact x_up_s _ _ _))
        · skip
          have hil : i0 < Pw.length := by
            rcases Nat.lt_or_ge i0 Pw.length with h | h
            · exact h
            · exact absurd ((nI_leI (by omega) (by omega)).mpr h) c_80
          obtain ⟨p1, hp1⟩ : ∃ p1, Pw[i0]? = some p1 := ⟨_, List.getElem?_eq_getElem hil⟩
          have hp1m : p1 ∈ Pw := List.mem_of_getElem? hp1
          have hp1k : K_0 p1 = 3 := (hnd1 p1 (hPm p1 hp1m)).1
          refine x_aload_n C D_X2_addLeaf_3.2.2.2.2.2.2.1 rfl rfl (by first | exact Or.inr ⟨_, rfl⟩ | exact va_rf_or _ | exact Or.inl rfl) ?_
          refine x_getQ C (ci := 4) (k0 := 0) hz2.1 (by decide) rfl (by decide) in_X5 k_110 rfl rfl D_X2_addLeaf_3.2.2.2.2.2.2.2.1 ?_
          refine x_eqr hz2.2.2.1 ?_
          refine x_iload C D_X2_addLeaf_3.2.2.2.2.2.2.2.2.1 rfl ?_
          refine x_callVq C (y := yX4_at) (c_X4_at l G pq pn 40 Pw.length (nI i0) (hz2.2.2.2.2.1.ok hpl3 (by omega))) (ci := 3) hz2.2.2.2.2.1.1 (by decide) rfl rfl k_272 k_273 k_274 k_63 k_275 hd_X4_at ⟨(Nat.le_of_ble_eq_true rfl), (Nat.le_of_ble_eq_true rfl)⟩ rfl (by first | exact Nat.le_of_ble_eq_true rfl | simp [x_crf, Value.category]) rfl rfl D_X2_addLeaf_3.2.2.2.2.2.2.2.2.2.1 ⟨(Nat.le_of_ble_eq_true rfl), (Nat.le_of_ble_eq_true rfl)⟩ (fun r_89 S_89 h_89 => ?_)
          obtain ⟨hr89, rfl⟩ := h_89
          rw [atv_in _ hil (by omega), ← Nat.zero_add i0, hsg2 i0 hil, hp1] at hr89
          subst hr89
          refine x_astore C (lv' := [_, _, _, _, _, _, _]) D_X2_addLeaf_3.2.2.2.2.2.2.2.2.2.2.1 (Nat.le_of_ble_eq_true rfl) rfl (by first | exact Or.inr ⟨_, rfl⟩ | exact va_rf_or _ | exact Or.inl rfl) rfl ?_
          refine x_aload C D_X2_addLeaf_3.2.2.2.2.2.2.2.2.2.2.2 rfl (by first | exact Or.inr ⟨_, rfl⟩ | exact va_rf_or _ | exact Or.inl rfl) ?_
          refine x_ifnull C 110 D_X2_addLeaf_4.1 (by decide) (fun e_96 => ?_) (fun x9 e_96 => ?_)
          · skip
            exact absurd e_96 (by simp)
            --end
          · skip
            obtain rfl : p1 = x9 := Option.some.inj e_96
            refine x_aload C D_X2_addLeaf_4.2.1 rfl (by first | exact Or.inr ⟨_, rfl⟩ | exact va_rf_or _ | exact Or.inl rfl) ?_
            refine x_dup C D_X2_addLeaf_4.2.2.1 (by first | rfl | exact x_crf _) ?_
            refine x_getI C (ci := 2) (k0 := 2) hp1k (by decide) rfl (by decide) in_X3 k_619 rfl rfl D_X2_addLeaf_4.2.2.2.1 ?_
            refine x_iconst C (v := nI 1) D_X2_addLeaf_4.2.2.2.2.1 (by decide +kernel) ?_
            refine x_iadd C D_X2_addLeaf_4.2.2.2.2.2.1 ?_
            refine x_putI C (ci := 2) (k0 := 2) hp1k (by decide) rfl (by decide) in_X3 k_619 rfl tyX3 tyX3_ok nmX3 rfl (by rfl) rfl rfl rfl D_X2_addLeaf_4.2.2.2.2.2.2.1 (fun I4 eI4 => ?_)
            refine x_iinc C (lv' := [_, _, _, _, _, _, _]) D_X2_addLeaf_4.2.2.2.2.2.2.2.1 rfl (x_inc_1 _) rfl rfl ?_
            refine x_lv (lv := [_, _, _, _, _, some (.int (nI (i0 + 1))), _]) (by rw [nI_add]) ?_
            refine x_goto C 71 D_X2_addLeaf_4.2.2.2.2.2.2.2.2.1 (by decide) ?_
            refine ih_71 (i0 + 1) I4 _ (by omega) (by omega) (fun a => ⟨fun h => ?_, fun h => ?_⟩)
            · rcases (take_succ_mem hp1).mp h with h1 | rfl
              · have hap : a ≠ p1 := fun e => take_nodup_at hPn hp1 (e ▸ h1)
                rw [eI4, x_u2_a _ _ hap]; exact (hI3 a).1 h1
              · have h2 := (hI3 a).2 (take_nodup_at hPn hp1)
                rw [eI4, x_u2, x_up_s, h2]
            · have h1 : ¬ (a ∈ Pw.take i0 ∨ a = p1) := fun h2 => h ((take_succ_mem hp1).mpr h2)
              rw [eI4, x_u2_a _ _ (fun e => h1 (Or.inr e))]
              exact (hI3 a).2 (fun h2 => h1 (Or.inl h2))
    exact L_71 _ 0 I1 _ (Nat.lt_succ_self _) (Nat.zero_le _) (fun a => ⟨fun h => by simp at h, fun _ => rfl⟩)
  refine x_aload C D_X2_addLeaf_1.2.2.2.2.1 rfl (by first | exact Or.inr ⟨_, rfl⟩ | exact va_rf_or _ | exact Or.inl rfl) ?_
  refine x_ifnonnull C 42 D_X2_addLeaf_1.2.2.2.2.2.1 (by decide) (fun p0 e_31 => ?_) (fun e_31 => ?_)
  · skip
    subst e_31
    have h9 : 0 < Pw.length := by
      rcases Nat.eq_zero_or_pos Pw.length with h | h
      · rw [h, atv_out _ (Or.inl (by decide)) (by omega)] at hr24
        cases hr24
      · exact h
    rw [pk_sub (by omega), atv_in _ (by omega) (by omega), ← Nat.zero_add (Pw.length - 1), hsg1 _ (by omega)] at hr24
    obtain ⟨P0, hPe⟩ : ∃ P0, Pw = P0 ++ [p0] := by
      rcases List.eq_nil_or_concat Pw with h | ⟨P0, z, h⟩
      · rw [h] at h9; simp at h9
      · rw [List.concat_eq_append] at h
        rw [h] at hr24
        simp at hr24
        exact ⟨P0, by rw [h, hr24]⟩
    have hp0 : p0 ∈ ino A := hPm p0 (by rw [hPe]; simp)
    have hp0n := hnd1 p0 hp0
    have hlp : Pw.length - 1 = P0.length := by rw [hPe]; simp
    refine x_aload_n C D_X2_addLeaf_1.2.2.2.2.2.2.2.2.2.2.1 rfl rfl (by first | exact Or.inr ⟨_, rfl⟩ | exact va_rf_or _ | exact Or.inl rfl) ?_
    refine x_iload_n C D_X2_addLeaf_1.2.2.2.2.2.2.2.2.2.2.2 rfl rfl ?_
    refine x_aload C D_X2_addLeaf_2.1 rfl (by first | exact Or.inr ⟨_, rfl⟩ | exact va_rf_or _ | exact Or.inl rfl) ?_
    refine x_iload_n C D_X2_addLeaf_2.2.1 rfl rfl ?_
    rw [pk_sub (by omega), hlp]
    refine x_callUz C (x := ⟨"ScapegoatSpur$LazyTree", "belongsLeft", "(ILScapegoatSpur$Node;I)Z"⟩) (y := yX2_belongsLeft) (owner := "ScapegoatSpur$LazyTree") (c_X2_belongsLeft_5 l G t c P0.length p0 cd hz1.1 hc (by omega) hp0n.1 hp0n.2.1 hp0n.2.2) (ci := 4) hz1.1 (by decide) rfl k_228 k_0 k_2 k_230 k_61 k_231 rfl hu_X2_belongsLeft ⟨(Nat.le_of_ble_eq_true rfl), (Nat.le_of_ble_eq_true rfl)⟩ rfl (by first | exact Nat.le_of_ble_eq_true rfl | simp [x_crf, Value.category]) rfl rfl D_X2_addLeaf_2.2.2.1 ⟨(Nat.le_of_ble_eq_true rfl), (Nat.le_of_ble_eq_true rfl)⟩ (fun r_47 S_47 h_47 => ?_)
    obtain ⟨rfl, rfl⟩ := h_47
    refine x_if_eq C 62 D_X2_addLeaf_2.2.2.2.1 (by decide) (fun c_50 => ?_) (fun c_50 => ?_)
    · skip
      have c1 : ¬ od5 P0.length c < od5 P0.length (cd p0) := by
        intro h
        rw [decide_eq_true h] at c_50
        exact absurd c_50 (by decide)
      have hps := pside_last (od := od5) (cd := cd) (c := c) A 0 p0 hsf (by rw [← ePw, hPe]; simp)
      rw [← ePw, hPe, List.length_append, List.length_singleton, Nat.zero_add, Nat.add_sub_cancel, if_neg c1] at hps
      refine x_aload C D_X2_addLeaf_2.2.2.2.2.2.2.2.2.1 rfl (by first | exact Or.inr ⟨_, rfl⟩ | exact va_rf_or _ | exact Or.inl rfl) ?_
      refine x_aload_n C D_X2_addLeaf_2.2.2.2.2.2.2.2.2.2.1 rfl rfl (by first | exact Or.inr ⟨_, rfl⟩ | exact va_rf_or _ | exact Or.inl rfl) ?_
      refine x_putQ C (ci := 2) (k0 := 4) hp0n.1 (by decide) rfl (by decide) in_X3 k_625 rfl tyX3 tyX3_ok nmX3 rfl (by first | exact rfl | exact (rfl : _ = va_rf (some _)) | exact (rfl : _ = va_rf none)) (by rfl) (by first | rfl | exact x_narq _ _) (by first | rfl | exact x_fitq _ _) rfl D_X2_addLeaf_2.2.2.2.2.2.2.2.2.2.2.1 (fun Q_65 eQ_65 => ?_)
      refine x_fgt 4 (lv' := [_, _, _, _, _, _, _]) rfl ?_
      have hvp : v ≠ p0 := fun e => hvA (e ▸ hp0)
      have htp : t ≠ p0 := fun e => by have h1 := (hnd p0 hp0).1; rw [← e, hkt] at h1; omega
      refine L_68 _ _ ?_ ?_ ?_
      · have h : TP K_0 Q_65 (insA od5 cd c v A 0) (Q t 2) := by
          refine ins_TP ?_ A 0 _ hT0 hnd0 (fun a ha => (hnd1 a ha).1) _ hps ?_ ?_
          · exact ⟨rfl, hkv, by rw [eQ_65, x_u2_a _ _ hvp, hvq.1]; rfl, by rw [eQ_65, x_u2_a _ _ hvp, hvq.2]; rfl⟩
          · intro a j ha hj
            by_cases hap : a = p0
            · subst hap
              rw [eQ_65, x_u2_j _ _ (fun e => hj (by rw [e])), q1o a (hAne a ha)]
            · rw [eQ_65, x_u2_a _ _ hap, q1o a (hAne a ha)]
          · rw [eQ_65, x_u2_s]
        rw [show Q_65 t 2 = Q t 2 by rw [eQ_65, x_u2_a _ _ htp, q1o t (hne t (by omega))]]
        exact h
      · intro a h1 h2 h3
        have hap : a ≠ p0 := fun e => h1 (e ▸ hp0)
        rw [eQ_65, x_u2_a _ _ hap, q1o a h2]
      · intro j hj
        rw [eQ_65, x_u2_a _ _ htp, q1o t (hne t (by omega))]
    · skip
      have c1 : od5 P0.length c < od5 P0.length (cd p0) := by
        by_cases h : od5 P0.length c < od5 P0.length (cd p0)
        · exact h
        · rw [decide_eq_false h] at c_50
          exact absurd rfl c_50
      have hps := pside_last (od := od5) (cd := cd) (c := c) A 0 p0 hsf (by rw [← ePw, hPe]; simp)
      rw [← ePw, hPe, List.length_append, List.length_singleton, Nat.zero_add, Nat.add_sub_cancel, if_pos c1] at hps
      refine x_aload C D_X2_addLeaf_2.2.2.2.2.1 rfl (by first | exact Or.inr ⟨_, rfl⟩ | exact va_rf_or _ | exact Or.inl rfl) ?_
      refine x_aload_n C D_X2_addLeaf_2.2.2.2.2.2.1 rfl rfl (by first | exact Or.inr ⟨_, rfl⟩ | exact va_rf_or _ | exact Or.inl rfl) ?_
      refine x_putQ C (ci := 2) (k0 := 3) hp0n.1 (by decide) rfl (by decide) in_X3 k_622 rfl tyX3 tyX3_ok nmX3 rfl (by first | exact rfl | exact (rfl : _ = va_rf (some _)) | exact (rfl : _ = va_rf none)) (by rfl) (by first | rfl | exact x_narq _ _) (by first | rfl | exact x_fitq _ _) rfl D_X2_addLeaf_2.2.2.2.2.2.2.1 (fun Q_56 eQ_56 => ?_)
      refine x_goto C 68 D_X2_addLeaf_2.2.2.2.2.2.2.2.1 (by decide) ?_
      refine x_fgt 4 (lv' := [_, _, _, _, _, _, _]) rfl ?_
      have hvp : v ≠ p0 := fun e => hvA (e ▸ hp0)
      have htp : t ≠ p0 := fun e => by have h1 := (hnd p0 hp0).1; rw [← e, hkt] at h1; omega
      refine L_68 _ _ ?_ ?_ ?_
      · have h : TP K_0 Q_56 (insA od5 cd c v A 0) (Q t 2) := by
          refine ins_TP ?_ A 0 _ hT0 hnd0 (fun a ha => (hnd1 a ha).1) _ hps ?_ ?_
          · exact ⟨rfl, hkv, by rw [eQ_56, x_u2_a _ _ hvp, hvq.1]; rfl, by rw [eQ_56, x_u2_a _ _ hvp, hvq.2]; rfl⟩
          · intro a j ha hj
            by_cases hap : a = p0
            · subst hap
              rw [eQ_56, x_u2_j _ _ (fun e => hj (by rw [e])), q1o a (hAne a ha)]
            · rw [eQ_56, x_u2_a _ _ hap, q1o a (hAne a ha)]
          · rw [eQ_56, x_u2_s]
        rw [show Q_56 t 2 = Q t 2 by rw [eQ_56, x_u2_a _ _ htp, q1o t (hne t (by omega))]]
        exact h
      · intro a h1 h2 h3
        have hap : a ≠ p0 := fun e => h1 (e ▸ hp0)
        rw [eQ_56, x_u2_a _ _ hap, q1o a h2]
      · intro j hj
        rw [eQ_56, x_u2_a _ _ htp, q1o t (hne t (by omega))]
  · skip
    subst e_31
    have hA0 : A = .leaf () := by
      cases A with
      | leaf _ => rfl
      | branch q tl_ tr_ =>
        have h9 : 0 < Pw.length := by rw [ePw]; simp [spath]
        rw [pk_sub (by omega), atv_in _ (by omega) (by omega), ← Nat.zero_add (Pw.length - 1), hsg1 _ (by omega), List.getElem?_eq_getElem (by omega)] at hr24
        cases hr24
    refine x_aload_n C D_X2_addLeaf_1.2.2.2.2.2.2.1 rfl rfl (by first | exact Or.inr ⟨_, rfl⟩ | exact va_rf_or _ | exact Or.inl rfl) ?_
    refine x_aload_n C D_X2_addLeaf_1.2.2.2.2.2.2.2.1 rfl rfl (by first | exact Or.inr ⟨_, rfl⟩ | exact va_rf_or _ | exact Or.inl rfl) ?_
    refine x_putQ C (ci := 4) (k0 := 2) hz1.1 (by decide) rfl (by decide) in_X5 k_112 rfl tyX5 tyX5_ok nmX5 rfl (by first | exact rfl | exact (rfl : _ = va_rf (some _)) | exact (rfl : _ = va_rf none)) (by rfl) (by first | rfl | exact x_narq _ _) (by first | rfl | exact x_fitq _ _) rfl D_X2_addLeaf_1.2.2.2.2.2.2.2.2.1 (fun Q_36 eQ_36 => ?_)
    refine x_goto C 68 D_X2_addLeaf_1.2.2.2.2.2.2.2.2.2.1 (by decide) ?_
    refine x_fgt 4 (lv' := [_, _, _, _, _, _, _]) rfl ?_
    refine L_68 _ _ ?_ ?_ ?_
    · rw [eQ_36, x_u2_s, hA0]
      have htv : v ≠ t := fun e => hne t (by omega) e.symm
      exact ⟨rfl, hkv, by rw [x_u2_a _ _ htv, hvq.1]; rfl, by rw [x_u2_a _ _ htv, hvq.2]; rfl⟩
    · intro a h1 h2 h3
      rw [eQ_36, x_u2_a _ _ h3, q1o a h2]
    · intro j hj
      rw [eQ_36, x_u2_j _ _ hj, q1o t (hne t (by omega))]
