theorem D_X4_length_0 : decode cX4_length 0 = .ok (.aload_n 0, 1) ∧ decode cX4_length 1 = .ok (.getfield 7, 3) ∧ decode cX4_length 4 = .ok (.ireturn, 1) := by decide +kernel
theorem D_X4_empty_0 : decode cX4_empty 0 = .ok (.aload_n 0, 1) ∧ decode cX4_empty 1 = .ok (.iconst 0, 1) ∧ decode cX4_empty 2 = .ok (.putfield 7, 3) ∧ decode cX4_empty 5 = .ok (.return_, 1) := by decide +kernel
theorem D_X4_append_0 : decode cX4_append 0 = .ok (.aload_n 0, 1) ∧ decode cX4_append 1 = .ok (.getfield 7, 3) ∧ decode cX4_append 4 = .ok (.ifCond .lt 35, 3) ∧ decode cX4_append 7 = .ok (.aload_n 0, 1) ∧ decode cX4_append 8 = .ok (.getfield 7, 3) ∧ decode cX4_append 11 = .ok (.aload_n 0, 1) ∧ decode cX4_append 12 = .ok (.getfield 15, 3) ∧ decode cX4_append 15 = .ok (.arraylength, 1) ∧ decode cX4_append 16 = .ok (.if_icmp .ge 23, 3) ∧ decode cX4_append 19 = .ok (.aload_n 0, 1) ∧ decode cX4_append 20 = .ok (.getfield 15, 3) ∧ decode cX4_append 23 = .ok (.aload_n 0, 1) := by decide +kernel
theorem D_X4_append_1 : decode cX4_append 24 = .ok (.getfield 7, 3) ∧ decode cX4_append 27 = .ok (.aload_n 1, 1) ∧ decode cX4_append 28 = .ok (.aastore, 1) ∧ decode cX4_append 29 = .ok (.aload_n 0, 1) ∧ decode cX4_append 30 = .ok (.dup, 1) ∧ decode cX4_append 31 = .ok (.getfield 7, 3) ∧ decode cX4_append 34 = .ok (.iconst 1, 1) ∧ decode cX4_append 35 = .ok (.iadd, 1) ∧ decode cX4_append 36 = .ok (.putfield 7, 3) ∧ decode cX4_append 39 = .ok (.return_, 1) := by decide +kernel
theorem D_X4_at_0 : decode cX4_at 0 = .ok (.iload_n 1, 1) ∧ decode cX4_at 1 = .ok (.ifCond .lt 29, 3) ∧ decode cX4_at 4 = .ok (.iload_n 1, 1) ∧ decode cX4_at 5 = .ok (.aload_n 0, 1) ∧ decode cX4_at 6 = .ok (.getfield 7, 3) ∧ decode cX4_at 9 = .ok (.if_icmp .ge 21, 3) ∧ decode cX4_at 12 = .ok (.iload_n 1, 1) ∧ decode cX4_at 13 = .ok (.aload_n 0, 1) ∧ decode cX4_at 14 = .ok (.getfield 15, 3) ∧ decode cX4_at 17 = .ok (.arraylength, 1) ∧ decode cX4_at 18 = .ok (.if_icmp .ge 12, 3) ∧ decode cX4_at 21 = .ok (.aload_n 0, 1) := by decide +kernel
theorem D_X4_at_1 : decode cX4_at 22 = .ok (.getfield 15, 3) ∧ decode cX4_at 25 = .ok (.iload_n 1, 1) ∧ decode cX4_at 26 = .ok (.aaload, 1) ∧ decode cX4_at 27 = .ok (.goto 4, 3) ∧ decode cX4_at 30 = .ok (.aconst_null, 1) ∧ decode cX4_at 31 = .ok (.areturn, 1) := by decide +kernel
theorem D_X4_put_0 : decode cX4_put 0 = .ok (.iload_n 1, 1) ∧ decode cX4_put 1 = .ok (.ifCond .lt 27, 3) ∧ decode cX4_put 4 = .ok (.iload_n 1, 1) ∧ decode cX4_put 5 = .ok (.aload_n 0, 1) ∧ decode cX4_put 6 = .ok (.getfield 7, 3) ∧ decode cX4_put 9 = .ok (.if_icmp .ge 19, 3) ∧ decode cX4_put 12 = .ok (.iload_n 1, 1) ∧ decode cX4_put 13 = .ok (.aload_n 0, 1) ∧ decode cX4_put 14 = .ok (.getfield 15, 3) ∧ decode cX4_put 17 = .ok (.arraylength, 1) ∧ decode cX4_put 18 = .ok (.if_icmp .ge 10, 3) ∧ decode cX4_put 21 = .ok (.aload_n 0, 1) := by decide +kernel
theorem D_X4_put_1 : decode cX4_put 22 = .ok (.getfield 15, 3) ∧ decode cX4_put 25 = .ok (.iload_n 1, 1) ∧ decode cX4_put 26 = .ok (.aload_n 2, 1) ∧ decode cX4_put 27 = .ok (.aastore, 1) ∧ decode cX4_put 28 = .ok (.return_, 1) := by decide +kernel
theorem D_X3_weightOf_0 : decode cX3_weightOf 0 = .ok (.aload_n 0, 1) ∧ decode cX3_weightOf 1 = .ok (.ifnonnull 7, 3) ∧ decode cX3_weightOf 4 = .ok (.iconst 0, 1) ∧ decode cX3_weightOf 5 = .ok (.goto 7, 3) ∧ decode cX3_weightOf 8 = .ok (.aload_n 0, 1) ∧ decode cX3_weightOf 9 = .ok (.getfield 13, 3) ∧ decode cX3_weightOf 12 = .ok (.ireturn, 1) := by decide +kernel
theorem D_X4_init_0 : decode cX4_init 0 = .ok (.aload_n 0, 1) ∧ decode cX4_init 1 = .ok (.invokespecial 1, 3) ∧ decode cX4_init 4 = .ok (.aload_n 0, 1) ∧ decode cX4_init 5 = .ok (.iconst 0, 1) ∧ decode cX4_init 6 = .ok (.putfield 7, 3) ∧ decode cX4_init 9 = .ok (.aload_n 0, 1) ∧ decode cX4_init 10 = .ok (.iload_n 1, 1) ∧ decode cX4_init 11 = .ok (.ifCond .ge 7, 3) ∧ decode cX4_init 14 = .ok (.iconst 0, 1) ∧ decode cX4_init 15 = .ok (.goto 4, 3) ∧ decode cX4_init 18 = .ok (.iload_n 1, 1) ∧ decode cX4_init 19 = .ok (.anewarray 13, 3) := by decide +kernel
theorem D_X4_init_1 : decode cX4_init 22 = .ok (.putfield 15, 3) ∧ decode cX4_init 25 = .ok (.return_, 1) := by decide +kernel
theorem D_X3_init_0 : decode cX3_init 0 = .ok (.aload_n 0, 1) ∧ decode cX3_init 1 = .ok (.invokespecial 1, 3) ∧ decode cX3_init 4 = .ok (.aload_n 0, 1) ∧ decode cX3_init 5 = .ok (.iconst 1, 1) ∧ decode cX3_init 6 = .ok (.putfield 7, 3) ∧ decode cX3_init 9 = .ok (.aload_n 0, 1) ∧ decode cX3_init 10 = .ok (.iconst 1, 1) ∧ decode cX3_init 11 = .ok (.putfield 13, 3) ∧ decode cX3_init 14 = .ok (.aload_n 0, 1) ∧ decode cX3_init 15 = .ok (.iload_n 1, 1) ∧ decode cX3_init 16 = .ok (.putfield 17, 3) ∧ decode cX3_init 19 = .ok (.return_, 1) := by decide +kernel
theorem D_X0_init_0 : decode cX0_init 0 = .ok (.aload_n 0, 1) ∧ decode cX0_init 1 = .ok (.invokespecial 1, 3) ∧ decode cX0_init 4 = .ok (.aload_n 0, 1) ∧ decode cX0_init 5 = .ok (.iconst 1, 1) ∧ decode cX0_init 6 = .ok (.putfield 7, 3) ∧ decode cX0_init 9 = .ok (.aload_n 0, 1) ∧ decode cX0_init 10 = .ok (.iconst 0, 1) ∧ decode cX0_init 11 = .ok (.putfield 13, 3) ∧ decode cX0_init 14 = .ok (.aload_n 0, 1) ∧ decode cX0_init 15 = .ok (.iload_n 1, 1) ∧ decode cX0_init 16 = .ok (.putfield 17, 3) ∧ decode cX0_init 19 = .ok (.return_, 1) := by decide +kernel
abbrev rm_X4_length : Room := { frames := 0, cells := 0, slots := 0, locals := 0 }
set_option maxHeartbeats 4000000 in
set_option maxRecDepth 100000 in
theorem c_X4_length (l : Launch) (G : xG) {K N : Nat → Nat} {I : Nat → Nat → Int32} {Q : Nat → Nat → Option Nat} {J : Nat → Nat → Int64} (rq : Nat) (h : K rq = 4) : XM l yX4_length cX4_length 1 (some .int) rm_X4_length G Ri [.ref rq] (K, N, I, Q, J) (fun r S1 => r = I rq 1 ∧ S1 = (K, N, I, Q, J)) := by
  refine x_meti (lv := [_]) (by decide +kernel) (x_cc (by first | rfl | exact x_crf _) x_cn) (Nat.le_of_ble_eq_true rfl) rfl ?_
  intro pP eE sS mM aA bB hH cC Z C hini ret
  refine x_aload_n C D_X4_length_0.1 rfl rfl (by first | exact Or.inr ⟨_, rfl⟩ | exact va_rf_or _ | exact Or.inl rfl) ?_
  refine x_getI C (ci := 3) (k0 := 1) (by assumption) (by decide) rfl (by decide) in_X4 k_104 rfl rfl D_X4_length_0.2.1 ?_
  refine ret _ _ _ _ _ _ rfl D_X4_length_0.2.2 (Nat.le_of_ble_eq_true rfl) (Nat.le_of_ble_eq_true rfl) ?_
  exact ⟨rfl, rfl⟩
abbrev rm_X4_empty : Room := { frames := 0, cells := 0, slots := 0, locals := 0 }
set_option maxHeartbeats 4000000 in
set_option maxRecDepth 100000 in
theorem c_X4_empty (l : Launch) (G : xG) {K N : Nat → Nat} {I : Nat → Nat → Int32} {Q : Nat → Nat → Option Nat} {J : Nat → Nat → Int64} (rq : Nat) (h : K rq = 4) : XM l yX4_empty cX4_empty 1 none rm_X4_empty G Rv [.ref rq] (K, N, I, Q, J) (fun _ S1 => S1 = (K, N, x_u2 I rq 1 (nI 0), Q, J)) := by
  refine x_metv (lv := [_]) (by decide +kernel) (x_cc (by first | rfl | exact x_crf _) x_cn) (Nat.le_of_ble_eq_true rfl) rfl ?_
  intro pP eE sS mM aA bB hH cC Z C hini ret
  refine x_aload_n C D_X4_empty_0.1 rfl rfl (by first | exact Or.inr ⟨_, rfl⟩ | exact va_rf_or _ | exact Or.inl rfl) ?_
  refine x_iconst C (v := nI 0) D_X4_empty_0.2.1 (by decide +kernel) ?_
  refine x_putI C (ci := 3) (k0 := 1) (by assumption) (by decide) rfl (by decide) in_X4 k_104 rfl tyX4 tyX4_ok nmX4 rfl (by rfl) rfl rfl rfl D_X4_empty_0.2.2.1 (fun I_2 eI_2 => ?_)
  refine ret _ _ _ _ _ rfl D_X4_empty_0.2.2.2 (Nat.le_of_ble_eq_true rfl) (Nat.le_of_ble_eq_true rfl) ?_
  rw [eI_2]
abbrev rm_X4_at : Room := { frames := 0, cells := 0, slots := 0, locals := 0 }
set_option maxHeartbeats 4000000 in
set_option maxRecDepth 100000 in
theorem c_X4_at (l : Launch) (G : xG) {K N : Nat → Nat} {I : Nat → Nat → Int32} {Q : Nat → Nat → Option Nat} {J : Nat → Nat → Int64} (rq nq cap n : Nat) (x : Int32) (h : RowOK K N I Q rq nq cap n) : XM l yX4_at cX4_at 2 (some (.object "ScapegoatSpur$Node")) rm_X4_at G Rq [.ref rq, .int x] (K, N, I, Q, J) (fun r S1 => r = atv n (Q nq) x ∧ S1 = (K, N, I, Q, J)) := by
  refine x_metq (lv := [_, _]) (by decide +kernel) (x_cc (by first | rfl | exact x_crf _) (x_cc (by first | rfl | exact x_crf _) x_cn)) (Nat.le_of_ble_eq_true rfl) rfl ?_
  intro pP eE sS mM aA bB hH cC Z C hini ret
  obtain ⟨hk, hq, hk2, hN, hcap, hn, hnc⟩ := h
  refine x_iload_n C D_X4_at_0.1 rfl rfl ?_
  refine x_if_lt C 30 D_X4_at_0.2.1 (by decide) (fun c_1 => ?_) (fun c_1 => ?_)
  · skip
    have c1 := atv_out (Q nq) (n := n) (x := x) (Or.inl c_1) (by omega)
    refine x_null C D_X4_at_1.2.2.2.2.1 ?_
    refine ret _ _ _ _ _ _ _ ⟨_, rfl⟩ D_X4_at_1.2.2.2.2.2 (Nat.le_of_ble_eq_true rfl) (Nat.le_of_ble_eq_true rfl) (by first | exact rfl | exact (rfl : _ = va_rf (some _)) | exact (rfl : _ = va_rf none)) ?_
    exact ⟨c1.symm, rfl⟩
  · skip
    refine x_iload_n C D_X4_at_0.2.2.1 rfl rfl ?_
    refine x_aload_n C D_X4_at_0.2.2.2.1 rfl rfl (by first | exact Or.inr ⟨_, rfl⟩ | exact va_rf_or _ | exact Or.inl rfl) ?_
    refine x_getI C (ci := 3) (k0 := 1) (by assumption) (by decide) rfl (by decide) in_X4 k_104 rfl rfl D_X4_at_0.2.2.2.2.1 ?_
    refine x_eqi _ hn ?_
    refine x_icmp_ge C 30 D_X4_at_0.2.2.2.2.2.1 (by decide) (fun c_9 => ?_) (fun c_9 => ?_)
    · skip
      have c1 := atv_out (Q nq) (n := n) (x := x) (Or.inr c_9) (by omega)
      refine x_null C D_X4_at_1.2.2.2.2.1 ?_
      refine ret _ _ _ _ _ _ _ ⟨_, rfl⟩ D_X4_at_1.2.2.2.2.2 (Nat.le_of_ble_eq_true rfl) (Nat.le_of_ble_eq_true rfl) (by first | exact rfl | exact (rfl : _ = va_rf (some _)) | exact (rfl : _ = va_rf none)) ?_
      exact ⟨c1.symm, rfl⟩
    · skip
      obtain ⟨j, rfl, hj⟩ := nn_idx c_1 c_9 (by omega)
      refine x_iload_n C D_X4_at_0.2.2.2.2.2.2.1 rfl rfl ?_
      refine x_aload_n C D_X4_at_0.2.2.2.2.2.2.2.1 rfl rfl (by first | exact Or.inr ⟨_, rfl⟩ | exact va_rf_or _ | exact Or.inl rfl) ?_
      refine x_getQ C (ci := 3) (k0 := 0) (by assumption) (by decide) rfl (by decide) in_X4 k_103 rfl rfl D_X4_at_0.2.2.2.2.2.2.2.2.1 ?_
      refine x_eqr hq ?_
      refine x_alen_23 C hk2 D_X4_at_0.2.2.2.2.2.2.2.2.2.1 ?_
      refine x_icmp_ge C 30 D_X4_at_0.2.2.2.2.2.2.2.2.2.2.1 (by decide) (fun c_18 => ?_) (fun c_18 => ?_)
      · skip
        exact absurd ((nI_leI (by omega) (by omega)).mp c_18) (by omega)
        --end
      · skip
        refine x_aload_n C D_X4_at_0.2.2.2.2.2.2.2.2.2.2.2 rfl rfl (by first | exact Or.inr ⟨_, rfl⟩ | exact va_rf_or _ | exact Or.inl rfl) ?_
        refine x_getQ C (ci := 3) (k0 := 0) (by assumption) (by decide) rfl (by decide) in_X4 k_103 rfl rfl D_X4_at_1.1 ?_
        refine x_eqr hq ?_
        refine x_iload_n C D_X4_at_1.2.1 rfl rfl ?_
        refine x_aald C j hk2 rfl (by omega) (by omega) D_X4_at_1.2.2.1 ?_
        refine x_nmq (fun o_26 eo_26 => ?_)
        refine x_goto C 31 D_X4_at_1.2.2.2.1 (by decide) ?_
        refine ret _ _ _ _ _ _ _ ⟨_, rfl⟩ D_X4_at_1.2.2.2.2.2 (Nat.le_of_ble_eq_true rfl) (Nat.le_of_ble_eq_true rfl) (by first | exact rfl | exact (rfl : _ = va_rf (some _)) | exact (rfl : _ = va_rf none)) ?_
        exact ⟨by rw [atv_in _ hj (by omega)]; exact eo_26, rfl⟩
abbrev rm_X4_append : Room := { frames := 0, cells := 0, slots := 0, locals := 0 }
set_option maxHeartbeats 4000000 in
set_option maxRecDepth 100000 in
theorem c_X4_append (l : Launch) (G : xG) {K N : Nat → Nat} {I : Nat → Nat → Int32} {Q : Nat → Nat → Option Nat} {J : Nat → Nat → Int64} (rq nq cap n v : Nat) (h : RowOK K N I Q rq nq cap n) (hv : K v = 3) (hlt : n < cap) : XM l yX4_append cX4_append 2 none rm_X4_append G Rv [.ref rq, .ref v] (K, N, I, Q, J) (fun _ S1 => S1 = (K, N, x_u2 I rq 1 (nI (n + 1)), x_u2 Q nq n (some v), J)) := by
  refine x_metv (lv := [_, _]) (by decide +kernel) (x_cc (by first | rfl | exact x_crf _) (x_cc (by first | rfl | exact x_crf _) x_cn)) (Nat.le_of_ble_eq_true rfl) rfl ?_
  intro pP eE sS mM aA bB hH cC Z C hini ret
  obtain ⟨hk, hq, hk2, hN, hcap, hn, hnc⟩ := h
  refine x_aload_n C D_X4_append_0.1 rfl rfl (by first | exact Or.inr ⟨_, rfl⟩ | exact va_rf_or _ | exact Or.inl rfl) ?_
  refine x_getI C (ci := 3) (k0 := 1) (by assumption) (by decide) rfl (by decide) in_X4 k_104 rfl rfl D_X4_append_0.2.1 ?_
  refine x_eqi _ hn ?_
  refine x_if_lt C 39 D_X4_append_0.2.2.1 (by decide) (fun c_4 => ?_) (fun c_4 => ?_)
  · skip
    exact absurd c_4 (nI_pos (by omega))
    --end
  · skip
    refine x_aload_n C D_X4_append_0.2.2.2.1 rfl rfl (by first | exact Or.inr ⟨_, rfl⟩ | exact va_rf_or _ | exact Or.inl rfl) ?_
    refine x_getI C (ci := 3) (k0 := 1) (by assumption) (by decide) rfl (by decide) in_X4 k_104 rfl rfl D_X4_append_0.2.2.2.2.1 ?_
    refine x_eqi _ hn ?_
    refine x_aload_n C D_X4_append_0.2.2.2.2.2.1 rfl rfl (by first | exact Or.inr ⟨_, rfl⟩ | exact va_rf_or _ | exact Or.inl rfl) ?_
    refine x_getQ C (ci := 3) (k0 := 0) (by assumption) (by decide) rfl (by decide) in_X4 k_103 rfl rfl D_X4_append_0.2.2.2.2.2.2.1 ?_
    refine x_eqr hq ?_
    refine x_alen_23 C hk2 D_X4_append_0.2.2.2.2.2.2.2.1 ?_
    refine x_icmp_ge C 39 D_X4_append_0.2.2.2.2.2.2.2.2.1 (by decide) (fun c_16 => ?_) (fun c_16 => ?_)
    · skip
      exact absurd ((nI_leI (by omega) (by omega)).mp c_16) (by omega)
      --end
    · skip
      refine x_aload_n C D_X4_append_0.2.2.2.2.2.2.2.2.2.1 rfl rfl (by first | exact Or.inr ⟨_, rfl⟩ | exact va_rf_or _ | exact Or.inl rfl) ?_
      refine x_getQ C (ci := 3) (k0 := 0) (by assumption) (by decide) rfl (by decide) in_X4 k_103 rfl rfl D_X4_append_0.2.2.2.2.2.2.2.2.2.2.1 ?_
      refine x_eqr hq ?_
      refine x_aload_n C D_X4_append_0.2.2.2.2.2.2.2.2.2.2.2 rfl rfl (by first | exact Or.inr ⟨_, rfl⟩ | exact va_rf_or _ | exact Or.inl rfl) ?_
      refine x_getI C (ci := 3) (k0 := 1) (by assumption) (by decide) rfl (by decide) in_X4 k_104 rfl rfl D_X4_append_1.1 ?_
      refine x_eqi _ hn ?_
      refine x_aload_n C D_X4_append_1.2.1 rfl rfl (by first | exact Or.inr ⟨_, rfl⟩ | exact va_rf_or _ | exact Or.inl rfl) ?_
      refine x_aast C n hk2 hv rfl (by omega) (by omega) D_X4_append_1.2.2.1 (fun Q_28 eQ_28 => ?_)
      refine x_aload_n C D_X4_append_1.2.2.2.1 rfl rfl (by first | exact Or.inr ⟨_, rfl⟩ | exact va_rf_or _ | exact Or.inl rfl) ?_
      refine x_dup C D_X4_append_1.2.2.2.2.1 (by first | rfl | exact x_crf _) ?_
      refine x_getI C (ci := 3) (k0 := 1) (by assumption) (by decide) rfl (by decide) in_X4 k_104 rfl rfl D_X4_append_1.2.2.2.2.2.1 ?_
      refine x_eqi _ hn ?_
      refine x_iconst C (v := nI 1) D_X4_append_1.2.2.2.2.2.2.1 (by decide +kernel) ?_
      refine x_iadd C D_X4_append_1.2.2.2.2.2.2.2.1 ?_
      refine x_eqi (nI (n + 1)) (nI_add n 1) ?_
      refine x_putI C (ci := 3) (k0 := 1) (by assumption) (by decide) rfl (by decide) in_X4 k_104 rfl tyX4 tyX4_ok nmX4 rfl (by rfl) rfl rfl rfl D_X4_append_1.2.2.2.2.2.2.2.2.1 (fun I_36 eI_36 => ?_)
      refine ret _ _ _ _ _ rfl D_X4_append_1.2.2.2.2.2.2.2.2.2 (Nat.le_of_ble_eq_true rfl) (Nat.le_of_ble_eq_true rfl) ?_
      rw [eI_36, eQ_28]
abbrev rm_X4_put : Room := { frames := 0, cells := 0, slots := 0, locals := 0 }
set_option maxHeartbeats 4000000 in
set_option maxRecDepth 100000 in
theorem c_X4_put (l : Launch) (G : xG) {K N : Nat → Nat} {I : Nat → Nat → Int32} {Q : Nat → Nat → Option Nat} {J : Nat → Nat → Int64} (rq nq cap n j v : Nat) (x : Int32) (h : RowOK K N I Q rq nq cap n) (hv : K v = 3) (hx : x = nI j) (hlt : j < n) : XM l yX4_put cX4_put 3 none rm_X4_put G Rv [.ref rq, .int x, .ref v] (K, N, I, Q, J) (fun _ S1 => S1 = (K, N, I, x_u2 Q nq j (some v), J)) := by
  refine x_metv (lv := [_, _, _]) (by decide +kernel) (x_cc (by first | rfl | exact x_crf _) (x_cc (by first | rfl | exact x_crf _) (x_cc (by first | rfl | exact x_crf _) x_cn))) (Nat.le_of_ble_eq_true rfl) rfl ?_
  intro pP eE sS mM aA bB hH cC Z C hini ret
  obtain ⟨hk, hq, hk2, hN, hcap, hn, hnc⟩ := h
  refine x_iload_n C D_X4_put_0.1 rfl rfl ?_
  refine x_if_lt C 28 D_X4_put_0.2.1 (by decide) (fun c_1 => ?_) (fun c_1 => ?_)
  · skip
    exact absurd (hx ▸ c_1) (nI_pos (by omega))
    --end
  · skip
    refine x_iload_n C D_X4_put_0.2.2.1 rfl rfl ?_
    refine x_aload_n C D_X4_put_0.2.2.2.1 rfl rfl (by first | exact Or.inr ⟨_, rfl⟩ | exact va_rf_or _ | exact Or.inl rfl) ?_
    refine x_getI C (ci := 3) (k0 := 1) (by assumption) (by decide) rfl (by decide) in_X4 k_104 rfl rfl D_X4_put_0.2.2.2.2.1 ?_
    refine x_eqi _ hn ?_
    refine x_icmp_ge C 28 D_X4_put_0.2.2.2.2.2.1 (by decide) (fun c_9 => ?_) (fun c_9 => ?_)
    · skip
      exact absurd ((nI_leI (by omega) (by omega)).mp (hx ▸ c_9)) (by omega)
      --end
    · skip
      refine x_iload_n C D_X4_put_0.2.2.2.2.2.2.1 rfl rfl ?_
      refine x_aload_n C D_X4_put_0.2.2.2.2.2.2.2.1 rfl rfl (by first | exact Or.inr ⟨_, rfl⟩ | exact va_rf_or _ | exact Or.inl rfl) ?_
      refine x_getQ C (ci := 3) (k0 := 0) (by assumption) (by decide) rfl (by decide) in_X4 k_103 rfl rfl D_X4_put_0.2.2.2.2.2.2.2.2.1 ?_
      refine x_eqr hq ?_
      refine x_alen_23 C hk2 D_X4_put_0.2.2.2.2.2.2.2.2.2.1 ?_
      refine x_icmp_ge C 28 D_X4_put_0.2.2.2.2.2.2.2.2.2.2.1 (by decide) (fun c_18 => ?_) (fun c_18 => ?_)
      · skip
        exact absurd ((nI_leI (by omega) (by omega)).mp (hx ▸ c_18)) (by omega)
        --end
      · skip
        refine x_aload_n C D_X4_put_0.2.2.2.2.2.2.2.2.2.2.2 rfl rfl (by first | exact Or.inr ⟨_, rfl⟩ | exact va_rf_or _ | exact Or.inl rfl) ?_
        refine x_getQ C (ci := 3) (k0 := 0) (by assumption) (by decide) rfl (by decide) in_X4 k_103 rfl rfl D_X4_put_1.1 ?_
        refine x_eqr hq ?_
        refine x_iload_n C D_X4_put_1.2.1 rfl rfl ?_
        refine x_aload_n C D_X4_put_1.2.2.1 rfl rfl (by first | exact Or.inr ⟨_, rfl⟩ | exact va_rf_or _ | exact Or.inl rfl) ?_
        refine x_aast C j hk2 hv hx (by omega) (by omega) D_X4_put_1.2.2.2.1 (fun Q_27 eQ_27 => ?_)
        refine ret _ _ _ _ _ rfl D_X4_put_1.2.2.2.2 (Nat.le_of_ble_eq_true rfl) (Nat.le_of_ble_eq_true rfl) ?_
        rw [eQ_27]
abbrev rm_X3_weightOf : Room := { frames := 0, cells := 0, slots := 0, locals := 0 }
set_option maxHeartbeats 4000000 in
set_option maxRecDepth 100000 in
theorem c_X3_weightOf (l : Launch) (G : xG) {K N : Nat → Nat} {I : Nat → Nat → Int32} {Q : Nat → Nat → Option Nat} {J : Nat → Nat → Int64} (o : Option Nat) (h : ∀ q, o = some q → K q = 3) : XM l yX3_weightOf cX3_weightOf 1 (some .int) rm_X3_weightOf G Ri [va_rf o] (K, N, I, Q, J) (fun r S1 => r = wOf I o ∧ S1 = (K, N, I, Q, J)) := by
  refine x_meti (lv := [_]) (by decide +kernel) (x_cc (by first | rfl | exact x_crf _) x_cn) (Nat.le_of_ble_eq_true rfl) rfl ?_
  intro pP eE sS mM aA bB hH cC Z C hini ret
  refine x_aload_n C D_X3_weightOf_0.1 rfl rfl (by first | exact Or.inr ⟨_, rfl⟩ | exact va_rf_or _ | exact Or.inl rfl) ?_
  refine x_ifnonnull C 8 D_X3_weightOf_0.2.1 (by decide) (fun q_1 e_1 => ?_) (fun e_1 => ?_)
  · skip
    subst e_1
    refine x_aload_n C D_X3_weightOf_0.2.2.2.2.1 rfl rfl (by first | exact Or.inr ⟨_, rfl⟩ | exact va_rf_or _ | exact Or.inl rfl) ?_
    refine x_getI C (ci := 2) (k0 := 2) (h _ rfl) (by decide) rfl (by decide) in_X3 k_615 rfl rfl D_X3_weightOf_0.2.2.2.2.2.1 ?_
    refine ret _ _ _ _ _ _ rfl D_X3_weightOf_0.2.2.2.2.2.2 (Nat.le_of_ble_eq_true rfl) (Nat.le_of_ble_eq_true rfl) ?_
    exact ⟨rfl, rfl⟩
  · skip
    subst e_1
    refine x_iconst C (v := nI 0) D_X3_weightOf_0.2.2.1 (by decide +kernel) ?_
    refine x_goto C 12 D_X3_weightOf_0.2.2.2.1 (by decide) ?_
    refine ret _ _ _ _ _ _ rfl D_X3_weightOf_0.2.2.2.2.2.2 (Nat.le_of_ble_eq_true rfl) (Nat.le_of_ble_eq_true rfl) ?_
    exact ⟨rfl, rfl⟩
