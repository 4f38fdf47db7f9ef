theorem D_X9_pointOf_0 : decode cX9_pointOf 0 = .ok (.iconst (-1), 1) ∧ decode cX9_pointOf 1 = .ok (.istore_n 3, 1) ∧ decode cX9_pointOf 2 = .ok (.iconst 0, 1) ∧ decode cX9_pointOf 3 = .ok (.istore 4, 2) ∧ decode cX9_pointOf 5 = .ok (.iload 4, 2) ∧ decode cX9_pointOf 7 = .ok (.aload_n 0, 1) ∧ decode cX9_pointOf 8 = .ok (.getfield 149, 3) ∧ decode cX9_pointOf 11 = .ok (.if_icmp .ge 38, 3) ∧ decode cX9_pointOf 14 = .ok (.aload_n 0, 1) ∧ decode cX9_pointOf 15 = .ok (.getfield 26, 3) ∧ decode cX9_pointOf 18 = .ok (.iload 4, 2) ∧ decode cX9_pointOf 20 = .ok (.iaload, 1) := by decide +kernel
theorem D_X9_pointOf_1 : decode cX9_pointOf 21 = .ok (.iload_n 1, 1) ∧ decode cX9_pointOf 22 = .ok (.if_icmp .ne 19, 3) ∧ decode cX9_pointOf 25 = .ok (.aload_n 0, 1) ∧ decode cX9_pointOf 26 = .ok (.getfield 29, 3) ∧ decode cX9_pointOf 29 = .ok (.iload 4, 2) ∧ decode cX9_pointOf 31 = .ok (.iaload, 1) ∧ decode cX9_pointOf 32 = .ok (.iload_n 2, 1) ∧ decode cX9_pointOf 33 = .ok (.if_icmp .ne 8, 3) ∧ decode cX9_pointOf 36 = .ok (.iload 4, 2) ∧ decode cX9_pointOf 38 = .ok (.goto 4, 3) ∧ decode cX9_pointOf 41 = .ok (.iload_n 3, 1) ∧ decode cX9_pointOf 42 = .ok (.istore_n 3, 1) := by decide +kernel
theorem D_X9_pointOf_2 : decode cX9_pointOf 43 = .ok (.iinc 4 1, 3) ∧ decode cX9_pointOf 46 = .ok (.goto (-41), 3) ∧ decode cX9_pointOf 49 = .ok (.iload_n 3, 1) ∧ decode cX9_pointOf 50 = .ok (.ireturn, 1) := by decide +kernel
theorem D_X9_isLess_0 : decode cX9_isLess 0 = .ok (.iload 4, 2) ∧ decode cX9_isLess 2 = .ok (.iconst 2, 1) ∧ decode cX9_isLess 3 = .ok (.irem, 1) ∧ decode cX9_isLess 4 = .ok (.ifCond .ne 26, 3) ∧ decode cX9_isLess 7 = .ok (.iload_n 0, 1) ∧ decode cX9_isLess 8 = .ok (.iload_n 2, 1) ∧ decode cX9_isLess 9 = .ok (.if_icmp .lt 13, 3) ∧ decode cX9_isLess 12 = .ok (.iload_n 0, 1) ∧ decode cX9_isLess 13 = .ok (.iload_n 2, 1) ∧ decode cX9_isLess 14 = .ok (.if_icmp .ne 12, 3) ∧ decode cX9_isLess 17 = .ok (.iload_n 1, 1) ∧ decode cX9_isLess 18 = .ok (.iload_n 3, 1) := by decide +kernel
theorem D_X9_isLess_1 : decode cX9_isLess 19 = .ok (.if_icmp .ge 7, 3) ∧ decode cX9_isLess 22 = .ok (.iconst 1, 1) ∧ decode cX9_isLess 23 = .ok (.goto 27, 3) ∧ decode cX9_isLess 26 = .ok (.iconst 0, 1) ∧ decode cX9_isLess 27 = .ok (.goto 23, 3) ∧ decode cX9_isLess 30 = .ok (.iload_n 1, 1) ∧ decode cX9_isLess 31 = .ok (.iload_n 3, 1) ∧ decode cX9_isLess 32 = .ok (.if_icmp .lt 13, 3) ∧ decode cX9_isLess 35 = .ok (.iload_n 1, 1) ∧ decode cX9_isLess 36 = .ok (.iload_n 3, 1) ∧ decode cX9_isLess 37 = .ok (.if_icmp .ne 12, 3) ∧ decode cX9_isLess 40 = .ok (.iload_n 0, 1) := by decide +kernel
theorem D_X9_isLess_2 : decode cX9_isLess 41 = .ok (.iload_n 2, 1) ∧ decode cX9_isLess 42 = .ok (.if_icmp .ge 7, 3) ∧ decode cX9_isLess 45 = .ok (.iconst 1, 1) ∧ decode cX9_isLess 46 = .ok (.goto 4, 3) ∧ decode cX9_isLess 49 = .ok (.iconst 0, 1) ∧ decode cX9_isLess 50 = .ok (.ireturn, 1) := by decide +kernel
theorem D_X9_livingPoints_0 : decode cX9_livingPoints 0 = .ok (.iconst 0, 1) ∧ decode cX9_livingPoints 1 = .ok (.istore_n 1, 1) ∧ decode cX9_livingPoints 2 = .ok (.iconst 0, 1) ∧ decode cX9_livingPoints 3 = .ok (.istore_n 2, 1) ∧ decode cX9_livingPoints 4 = .ok (.iload_n 2, 1) ∧ decode cX9_livingPoints 5 = .ok (.aload_n 0, 1) ∧ decode cX9_livingPoints 6 = .ok (.getfield 149, 3) ∧ decode cX9_livingPoints 9 = .ok (.if_icmp .ge 26, 3) ∧ decode cX9_livingPoints 12 = .ok (.iload_n 1, 1) ∧ decode cX9_livingPoints 13 = .ok (.aload_n 0, 1) ∧ decode cX9_livingPoints 14 = .ok (.getfield 32, 3) ∧ decode cX9_livingPoints 17 = .ok (.iload_n 2, 1) := by decide +kernel
theorem D_X9_livingPoints_1 : decode cX9_livingPoints 18 = .ok (.baload, 1) ∧ decode cX9_livingPoints 19 = .ok (.ifCond .eq 7, 3) ∧ decode cX9_livingPoints 22 = .ok (.iconst 1, 1) ∧ decode cX9_livingPoints 23 = .ok (.goto 4, 3) ∧ decode cX9_livingPoints 26 = .ok (.iconst 0, 1) ∧ decode cX9_livingPoints 27 = .ok (.iadd, 1) ∧ decode cX9_livingPoints 28 = .ok (.istore_n 1, 1) ∧ decode cX9_livingPoints 29 = .ok (.iinc 2 1, 3) ∧ decode cX9_livingPoints 32 = .ok (.goto (-28), 3) ∧ decode cX9_livingPoints 35 = .ok (.iload_n 1, 1) ∧ decode cX9_livingPoints 36 = .ok (.ireturn, 1) := by decide +kernel
theorem D_X9_pointsBefore_0 : decode cX9_pointsBefore 0 = .ok (.iconst 0, 1) ∧ decode cX9_pointsBefore 1 = .ok (.istore_n 2, 1) ∧ decode cX9_pointsBefore 2 = .ok (.iconst 0, 1) ∧ decode cX9_pointsBefore 3 = .ok (.istore_n 3, 1) ∧ decode cX9_pointsBefore 4 = .ok (.iload_n 3, 1) ∧ decode cX9_pointsBefore 5 = .ok (.aload_n 0, 1) ∧ decode cX9_pointsBefore 6 = .ok (.getfield 149, 3) ∧ decode cX9_pointsBefore 9 = .ok (.if_icmp .ge 80, 3) ∧ decode cX9_pointsBefore 12 = .ok (.iload_n 2, 1) ∧ decode cX9_pointsBefore 13 = .ok (.aload_n 0, 1) ∧ decode cX9_pointsBefore 14 = .ok (.getfield 38, 3) ∧ decode cX9_pointsBefore 17 = .ok (.iload_n 3, 1) := by decide +kernel
theorem D_X9_pointsBefore_1 : decode cX9_pointsBefore 18 = .ok (.baload, 1) ∧ decode cX9_pointsBefore 19 = .ok (.ifCond .eq 61, 3) ∧ decode cX9_pointsBefore 22 = .ok (.aload_n 0, 1) ∧ decode cX9_pointsBefore 23 = .ok (.getfield 35, 3) ∧ decode cX9_pointsBefore 26 = .ok (.iload_n 3, 1) ∧ decode cX9_pointsBefore 27 = .ok (.iaload, 1) ∧ decode cX9_pointsBefore 28 = .ok (.aload_n 0, 1) ∧ decode cX9_pointsBefore 29 = .ok (.getfield 35, 3) ∧ decode cX9_pointsBefore 32 = .ok (.iload_n 1, 1) ∧ decode cX9_pointsBefore 33 = .ok (.iaload, 1) ∧ decode cX9_pointsBefore 34 = .ok (.if_icmp .ne 46, 3) ∧ decode cX9_pointsBefore 37 = .ok (.aload_n 0, 1) := by decide +kernel
theorem D_X9_pointsBefore_2 : decode cX9_pointsBefore 38 = .ok (.getfield 26, 3) ∧ decode cX9_pointsBefore 41 = .ok (.iload_n 3, 1) ∧ decode cX9_pointsBefore 42 = .ok (.iaload, 1) ∧ decode cX9_pointsBefore 43 = .ok (.aload_n 0, 1) ∧ decode cX9_pointsBefore 44 = .ok (.getfield 29, 3) ∧ decode cX9_pointsBefore 47 = .ok (.iload_n 3, 1) ∧ decode cX9_pointsBefore 48 = .ok (.iaload, 1) ∧ decode cX9_pointsBefore 49 = .ok (.aload_n 0, 1) ∧ decode cX9_pointsBefore 50 = .ok (.getfield 26, 3) ∧ decode cX9_pointsBefore 53 = .ok (.iload_n 1, 1) ∧ decode cX9_pointsBefore 54 = .ok (.iaload, 1) ∧ decode cX9_pointsBefore 55 = .ok (.aload_n 0, 1) := by decide +kernel
theorem D_X9_pointsBefore_3 : decode cX9_pointsBefore 56 = .ok (.getfield 29, 3) ∧ decode cX9_pointsBefore 59 = .ok (.iload_n 1, 1) ∧ decode cX9_pointsBefore 60 = .ok (.iaload, 1) ∧ decode cX9_pointsBefore 61 = .ok (.aload_n 0, 1) ∧ decode cX9_pointsBefore 62 = .ok (.getfield 35, 3) ∧ decode cX9_pointsBefore 65 = .ok (.iload_n 1, 1) ∧ decode cX9_pointsBefore 66 = .ok (.iaload, 1) ∧ decode cX9_pointsBefore 67 = .ok (.invokestatic 48, 3) ∧ decode cX9_pointsBefore 70 = .ok (.invokestatic 152, 3) ∧ decode cX9_pointsBefore 73 = .ok (.ifCond .eq 7, 3) ∧ decode cX9_pointsBefore 76 = .ok (.iconst 1, 1) ∧ decode cX9_pointsBefore 77 = .ok (.goto 4, 3) := by decide +kernel
theorem D_X9_pointsBefore_4 : decode cX9_pointsBefore 80 = .ok (.iconst 0, 1) ∧ decode cX9_pointsBefore 81 = .ok (.iadd, 1) ∧ decode cX9_pointsBefore 82 = .ok (.istore_n 2, 1) ∧ decode cX9_pointsBefore 83 = .ok (.iinc 3 1, 3) ∧ decode cX9_pointsBefore 86 = .ok (.goto (-82), 3) ∧ decode cX9_pointsBefore 89 = .ok (.iload_n 2, 1) ∧ decode cX9_pointsBefore 90 = .ok (.ireturn, 1) := by decide +kernel
theorem D_X9_pointsWith_0 : decode cX9_pointsWith 0 = .ok (.iconst 0, 1) ∧ decode cX9_pointsWith 1 = .ok (.istore_n 2, 1) ∧ decode cX9_pointsWith 2 = .ok (.iconst 0, 1) ∧ decode cX9_pointsWith 3 = .ok (.istore_n 3, 1) ∧ decode cX9_pointsWith 4 = .ok (.iload_n 3, 1) ∧ decode cX9_pointsWith 5 = .ok (.aload_n 0, 1) ∧ decode cX9_pointsWith 6 = .ok (.getfield 149, 3) ∧ decode cX9_pointsWith 9 = .ok (.if_icmp .ge 41, 3) ∧ decode cX9_pointsWith 12 = .ok (.iload_n 2, 1) ∧ decode cX9_pointsWith 13 = .ok (.aload_n 0, 1) ∧ decode cX9_pointsWith 14 = .ok (.getfield 38, 3) ∧ decode cX9_pointsWith 17 = .ok (.iload_n 3, 1) := by decide +kernel
theorem D_X9_pointsWith_1 : decode cX9_pointsWith 18 = .ok (.baload, 1) ∧ decode cX9_pointsWith 19 = .ok (.ifCond .eq 22, 3) ∧ decode cX9_pointsWith 22 = .ok (.aload_n 0, 1) ∧ decode cX9_pointsWith 23 = .ok (.getfield 35, 3) ∧ decode cX9_pointsWith 26 = .ok (.iload_n 3, 1) ∧ decode cX9_pointsWith 27 = .ok (.iaload, 1) ∧ decode cX9_pointsWith 28 = .ok (.aload_n 0, 1) ∧ decode cX9_pointsWith 29 = .ok (.getfield 35, 3) ∧ decode cX9_pointsWith 32 = .ok (.iload_n 1, 1) ∧ decode cX9_pointsWith 33 = .ok (.iaload, 1) ∧ decode cX9_pointsWith 34 = .ok (.if_icmp .ne 7, 3) ∧ decode cX9_pointsWith 37 = .ok (.iconst 1, 1) := by decide +kernel
theorem D_X9_pointsWith_2 : decode cX9_pointsWith 38 = .ok (.goto 4, 3) ∧ decode cX9_pointsWith 41 = .ok (.iconst 0, 1) ∧ decode cX9_pointsWith 42 = .ok (.iadd, 1) ∧ decode cX9_pointsWith 43 = .ok (.istore_n 2, 1) ∧ decode cX9_pointsWith 44 = .ok (.iinc 3 1, 3) ∧ decode cX9_pointsWith 47 = .ok (.goto (-43), 3) ∧ decode cX9_pointsWith 50 = .ok (.iload_n 2, 1) ∧ decode cX9_pointsWith 51 = .ok (.ireturn, 1) := by decide +kernel
theorem D_X9_pointWeight_0 : decode cX9_pointWeight 0 = .ok (.aload_n 0, 1) ∧ decode cX9_pointWeight 1 = .ok (.getfield 35, 3) ∧ decode cX9_pointWeight 4 = .ok (.aload_n 0, 1) ∧ decode cX9_pointWeight 5 = .ok (.getfield 149, 3) ∧ decode cX9_pointWeight 8 = .ok (.iload_n 1, 1) ∧ decode cX9_pointWeight 9 = .ok (.invokestatic 67, 3) ∧ decode cX9_pointWeight 12 = .ok (.ireturn, 1) := by decide +kernel
abbrev rm_X9_pointOf : Room := { frames := 0, cells := 0, slots := 0, locals := 0 }
set_option maxHeartbeats 4000000 in
set_option maxRecDepth 100000 in
theorem c_X9_pointOf (l : Launch) (G : xG) {K N : Nat → Nat} {I : Nat → Nat → Int32} {Q : Nat → Nat → Option Nat} {J : Nat → Nat → Int64} (m n : Nat) (ar : Nat → Nat) (x y : Int32) (hM : MZ K N Q m ar) (hn : I m 10 = nI n) (hnb : n ≤ 122)  : XM l yX9_pointOf cX9_pointOf 5 (some .int) rm_X9_pointOf G Ri [.ref m, .int x, .int y] (K, N, I, Q, J) (fun r S1 => r = oI (lastF (fun i => decide (I (ar 12) i = x) && decide (I (ar 13) i = y)) n) ∧ S1 = (K, N, I, Q, J)) := by
  refine x_meti (lv := [_, _, _, _, _]) (by decide +kernel) (x_cc (by first | rfl | exact x_crf _) (x_cc (by first | rfl | exact x_crf _) (x_cc (by first | rfl | exact x_crf _) x_cn))) (Nat.le_of_ble_eq_true rfl) rfl ?_
  intro pP eE sS mM aA bB hH cC Z C hini ret
  have hk9 := hM.1
  refine x_iconst C (v := (-1)) D_X9_pointOf_0.1 (by decide +kernel) ?_
  refine x_istore_n C (lv' := [_, _, _, _, _]) D_X9_pointOf_0.2.1 rfl (Nat.le_of_ble_eq_true rfl) (by first | rfl | exact x_ok_q rfl) rfl ?_
  refine x_iconst C (v := nI 0) D_X9_pointOf_0.2.2.1 (by decide +kernel) ?_
  refine x_istore C (lv' := [_, _, _, _, _]) D_X9_pointOf_0.2.2.2.1 (Nat.le_of_ble_eq_true rfl) (by first | rfl | exact x_ok_q rfl) rfl ?_
  have L_5 : ∀ (w_5 : Nat) (k0 : Nat), n - k0 < w_5 → (k0 ≤ n) → XW pP l eE rm_X9_pointOf sS mM aA bB hH cC G Z 0 0 (K, N, I, Q, J) 5 [some (.ref m), some (.int x), some (.int y), some (.int (oI (lastF (fun i => decide (I (ar 12) i = x) && decide (I (ar 13) i = y)) k0))), some (.int (nI k0))] [] := by
    intro w_5
    induction w_5 with
    | zero =>
      intro k0 hw_5
      exact absurd hw_5 (Nat.not_lt_zero _)
    | succ w_5 ih_5 =>
      intro k0 hw_5 hk0
      refine x_iload C D_X9_pointOf_0.2.2.2.2.1 rfl ?_
      refine x_aload_n C D_X9_pointOf_0.2.2.2.2.2.1 rfl rfl (by first | exact Or.inr ⟨_, rfl⟩ | exact va_rf_or _ | exact Or.inl rfl) ?_
      refine x_getI C (ci := 8) (k0 := 10) (by assumption) (by decide) rfl (by decide) in_X9 k_912 rfl rfl D_X9_pointOf_0.2.2.2.2.2.2.1 ?_
      first
      | refine x_eqi _ (hn) ?_
      | skip
      refine x_icmp_ge C 49 D_X9_pointOf_0.2.2.2.2.2.2.2.1 (by decide) (fun c_11 => ?_) (fun c_11 => ?_)
      · skip
        first
        | have d_11 := cv_le c_11 (by omega) (by omega)
        | skip
        obtain rfl : k0 = n := by omega
        refine x_iload_n C D_X9_pointOf_2.2.2.1 rfl rfl ?_
        refine ret _ _ _ _ _ _ rfl D_X9_pointOf_2.2.2.2 (Nat.le_of_ble_eq_true rfl) (Nat.le_of_ble_eq_true rfl) ?_
        exact ⟨rfl, rfl⟩
      · skip
        first
        | have d_11 := cv_nle c_11 (by omega) (by omega)
        | skip
        refine x_aload_n C D_X9_pointOf_0.2.2.2.2.2.2.2.2.1 rfl rfl (by first | exact Or.inr ⟨_, rfl⟩ | exact va_rf_or _ | exact Or.inl rfl) ?_
        refine x_getQ C (ci := 8) (k0 := 12) (by assumption) (by decide) rfl (by decide) in_X9 k_914 rfl rfl D_X9_pointOf_0.2.2.2.2.2.2.2.2.2.1 ?_
        refine x_eqr (hM.2.1 12 (by decide)).1 ?_
        refine x_iload C D_X9_pointOf_0.2.2.2.2.2.2.2.2.2.2.1 rfl ?_
        refine x_iald C _ (by first | assumption | exact (hM.2.1 _ (by decide)).2.1) rfl (by first | omega | (rw [hM.nk _ (by decide)]; omega) | (rw [hM.np _ (by decide)]; omega)) (by first | omega | (rw [hM.nk _ (by decide)]; omega) | (rw [hM.np _ (by decide)]; omega)) D_X9_pointOf_0.2.2.2.2.2.2.2.2.2.2.2 ?_
        first
        | refine x_eqi _ (hn) ?_
        | skip
        refine x_iload_n C D_X9_pointOf_1.1 rfl rfl ?_
        refine x_icmp_ne C 41 D_X9_pointOf_1.2.1 (by decide) (fun c_22 => ?_) (fun c_22 => ?_)
        · skip
          have hs : oI (lastF (fun i => decide (I (ar 12) i = x) && decide (I (ar 13) i = y)) (k0 + 1)) = oI (lastF (fun i => decide (I (ar 12) i = x) && decide (I (ar 13) i = y)) k0) := by simp [lastF, c_22]
          refine x_iload_n C D_X9_pointOf_1.2.2.2.2.2.2.2.2.2.2.1 rfl rfl ?_
          refine x_istore_n C (lv' := [_, _, _, _, _]) D_X9_pointOf_1.2.2.2.2.2.2.2.2.2.2.2 rfl (Nat.le_of_ble_eq_true rfl) (by first | rfl | exact x_ok_q rfl) rfl ?_
          first
          | refine x_iinc C (lv' := [_, _, _, _, _]) D_X9_pointOf_2.1 rfl (x_incN_1 _) (by first | rfl | exact x_ok_q rfl) rfl ?_
          | refine x_iinc C (lv' := [_, _, _, _, _]) D_X9_pointOf_2.1 rfl (x_inc_1 _) (by first | rfl | exact x_ok_q rfl) rfl ?_
          refine x_goto C 5 D_X9_pointOf_2.2.1 (by decide) ?_
          rw [← hs]
          exact ih_5 (k0 + 1) (by omega) (by omega)
        · skip
          refine x_aload_n C D_X9_pointOf_1.2.2.1 rfl rfl (by first | exact Or.inr ⟨_, rfl⟩ | exact va_rf_or _ | exact Or.inl rfl) ?_
          refine x_getQ C (ci := 8) (k0 := 13) (by assumption) (by decide) rfl (by decide) in_X9 k_915 rfl rfl D_X9_pointOf_1.2.2.2.1 ?_
          refine x_eqr (hM.2.1 13 (by decide)).1 ?_
          refine x_iload C D_X9_pointOf_1.2.2.2.2.1 rfl ?_
          refine x_iald C _ (by first | assumption | exact (hM.2.1 _ (by decide)).2.1) rfl (by first | omega | (rw [hM.nk _ (by decide)]; omega) | (rw [hM.np _ (by decide)]; omega)) (by first | omega | (rw [hM.nk _ (by decide)]; omega) | (rw [hM.np _ (by decide)]; omega)) D_X9_pointOf_1.2.2.2.2.2.1 ?_
          first
          | refine x_eqi _ (hn) ?_
          | skip
          refine x_iload_n C D_X9_pointOf_1.2.2.2.2.2.2.1 rfl rfl ?_
          refine x_icmp_ne C 41 D_X9_pointOf_1.2.2.2.2.2.2.2.1 (by decide) (fun c_33 => ?_) (fun c_33 => ?_)
          · skip
            have hs : oI (lastF (fun i => decide (I (ar 12) i = x) && decide (I (ar 13) i = y)) (k0 + 1)) = oI (lastF (fun i => decide (I (ar 12) i = x) && decide (I (ar 13) i = y)) k0) := by simp [lastF, c_33]
            refine x_iload_n C D_X9_pointOf_1.2.2.2.2.2.2.2.2.2.2.1 rfl rfl ?_
            refine x_istore_n C (lv' := [_, _, _, _, _]) D_X9_pointOf_1.2.2.2.2.2.2.2.2.2.2.2 rfl (Nat.le_of_ble_eq_true rfl) (by first | rfl | exact x_ok_q rfl) rfl ?_
            first
            | refine x_iinc C (lv' := [_, _, _, _, _]) D_X9_pointOf_2.1 rfl (x_incN_1 _) (by first | rfl | exact x_ok_q rfl) rfl ?_
            | refine x_iinc C (lv' := [_, _, _, _, _]) D_X9_pointOf_2.1 rfl (x_inc_1 _) (by first | rfl | exact x_ok_q rfl) rfl ?_
            refine x_goto C 5 D_X9_pointOf_2.2.1 (by decide) ?_
            rw [← hs]
            exact ih_5 (k0 + 1) (by omega) (by omega)
          · skip
            have hs : oI (lastF (fun i => decide (I (ar 12) i = x) && decide (I (ar 13) i = y)) (k0 + 1)) = nI k0 := by simp [lastF, c_22, c_33, oI]
            refine x_iload C D_X9_pointOf_1.2.2.2.2.2.2.2.2.1 rfl ?_
            refine x_goto C 42 D_X9_pointOf_1.2.2.2.2.2.2.2.2.2.1 (by decide) ?_
            refine x_istore_n C (lv' := [_, _, _, _, _]) D_X9_pointOf_1.2.2.2.2.2.2.2.2.2.2.2 rfl (Nat.le_of_ble_eq_true rfl) (by first | rfl | exact x_ok_q rfl) rfl ?_
            first
            | refine x_iinc C (lv' := [_, _, _, _, _]) D_X9_pointOf_2.1 rfl (x_incN_1 _) (by first | rfl | exact x_ok_q rfl) rfl ?_
            | refine x_iinc C (lv' := [_, _, _, _, _]) D_X9_pointOf_2.1 rfl (x_inc_1 _) (by first | rfl | exact x_ok_q rfl) rfl ?_
            refine x_goto C 5 D_X9_pointOf_2.2.1 (by decide) ?_
            rw [← hs]
            exact ih_5 (k0 + 1) (by omega) (by omega)
  exact L_5 _ 0 (Nat.lt_succ_self _) (Nat.zero_le _)
abbrev rm_X9_isLess : Room := { frames := 0, cells := 0, slots := 0, locals := 0 }
set_option maxHeartbeats 4000000 in
set_option maxRecDepth 100000 in
theorem c_X9_isLess (l : Launch) (G : xG) {K N : Nat → Nat} {I : Nat → Nat → Int32} {Q : Nat → Nat → Option Nat} {J : Nat → Nat → Int64} (a b d : Nat) (ha : a < 10000) (hb : b < 10000) (hd : d < 1000) : XM l yX9_isLess cX9_isLess 5 (some .boolean) rm_X9_isLess G Rz [.int (nI (a / 100)), .int (nI (a % 100)), .int (nI (b / 100)), .int (nI (b % 100)), .int (nI d)] (K, N, I, Q, J) (fun r S1 => r = decide (od5 d a < od5 d b) ∧ S1 = (K, N, I, Q, J)) := by
  refine x_metz (lv := [_, _, _, _, _]) (by decide +kernel) (x_cc (by first | rfl | exact x_crf _) (x_cc (by first | rfl | exact x_crf _) (x_cc (by first | rfl | exact x_crf _) (x_cc (by first | rfl | exact x_crf _) (x_cc (by first | rfl | exact x_crf _) x_cn))))) (Nat.le_of_ble_eq_true rfl) rfl ?_
  intro pP eE sS mM aA bB hH cC Z C hini ret
  refine x_iload C D_X9_isLess_0.1 rfl ?_
  refine x_iconst C (v := nI 2) D_X9_isLess_0.2.1 (by decide +kernel) ?_
  refine x_irem C D_X9_isLess_0.2.2.1 (by decide) ?_
  first
  | refine x_eqi _ (pk_rem (by omega) (by decide) (by decide)) ?_
  | skip
  refine x_if_ne C 30 D_X9_isLess_0.2.2.2.1 (by decide) (fun c_4 => ?_) (fun c_4 => ?_)
  · skip
    first
    | have d_4 := cz_ne c_4 (by omega)
    | have d_4 := cb_ne c_4
    | skip
    have he := od5_o (a := a) (b := b) (by omega : ¬ d % 2 = 0) ha hb
    refine x_iload_n C D_X9_isLess_1.2.2.2.2.2.1 rfl rfl ?_
    refine x_iload_n C D_X9_isLess_1.2.2.2.2.2.2.1 rfl rfl ?_
    refine x_icmp_lt C 45 D_X9_isLess_1.2.2.2.2.2.2.2.1 (by decide) (fun c_32 => ?_) (fun c_32 => ?_)
    · skip
      first
      | have d_32 := cv_lt c_32 (by omega) (by omega)
      | skip
      refine x_iconst C (v := nI 1) D_X9_isLess_2.2.2.1 (by decide +kernel) ?_
      refine x_goto C 50 D_X9_isLess_2.2.2.2.1 (by decide) ?_
      refine ret _ _ _ _ _ _ true rfl D_X9_isLess_2.2.2.2.2.2 (Nat.le_of_ble_eq_true rfl) (Nat.le_of_ble_eq_true rfl) rfl ?_
      refine ⟨?_, rfl⟩
      first
      | (rw [eq_comm, decide_eq_true_iff]; omega)
      | (rw [eq_comm, decide_eq_false_iff_not]; omega)
    · skip
      first
      | have d_32 := cv_nlt c_32 (by omega) (by omega)
      | skip
      refine x_iload_n C D_X9_isLess_1.2.2.2.2.2.2.2.2.1 rfl rfl ?_
      refine x_iload_n C D_X9_isLess_1.2.2.2.2.2.2.2.2.2.1 rfl rfl ?_
      refine x_icmp_ne C 49 D_X9_isLess_1.2.2.2.2.2.2.2.2.2.2.1 (by decide) (fun c_37 => ?_) (fun c_37 => ?_)
      · skip
        first
        | have d_37 := cv_ne c_37 (by omega) (by omega)
        | skip
        refine x_iconst C (v := nI 0) D_X9_isLess_2.2.2.2.2.1 (by decide +kernel) ?_
        refine ret _ _ _ _ _ _ false rfl D_X9_isLess_2.2.2.2.2.2 (Nat.le_of_ble_eq_true rfl) (Nat.le_of_ble_eq_true rfl) rfl ?_
        refine ⟨?_, rfl⟩
        first
        | (rw [eq_comm, decide_eq_true_iff]; omega)
        | (rw [eq_comm, decide_eq_false_iff_not]; omega)
      · skip
        first
        | have d_37 := cv_eq c_37 (by omega) (by omega)
        | skip
        refine x_iload_n C D_X9_isLess_1.2.2.2.2.2.2.2.2.2.2.2 rfl rfl ?_
        refine x_iload_n C D_X9_isLess_2.1 rfl rfl ?_
        refine x_icmp_ge C 49 D_X9_isLess_2.2.1 (by decide) (fun c_42 => ?_) (fun c_42 => ?_)
        · skip
          first
          | have d_42 := cv_le c_42 (by omega) (by omega)
          | skip
          refine x_iconst C (v := nI 0) D_X9_isLess_2.2.2.2.2.1 (by decide +kernel) ?_
          refine ret _ _ _ _ _ _ false rfl D_X9_isLess_2.2.2.2.2.2 (Nat.le_of_ble_eq_true rfl) (Nat.le_of_ble_eq_true rfl) rfl ?_
          refine ⟨?_, rfl⟩
          first
          | (rw [eq_comm, decide_eq_true_iff]; omega)
          | (rw [eq_comm, decide_eq_false_iff_not]; omega)
        · skip
          first
          | have d_42 := cv_nle c_42 (by omega) (by omega)
          | skip
          refine x_iconst C (v := nI 1) D_X9_isLess_2.2.2.1 (by decide +kernel) ?_
          refine x_goto C 50 D_X9_isLess_2.2.2.2.1 (by decide) ?_
          refine ret _ _ _ _ _ _ true rfl D_X9_isLess_2.2.2.2.2.2 (Nat.le_of_ble_eq_true rfl) (Nat.le_of_ble_eq_true rfl) rfl ?_
          refine ⟨?_, rfl⟩
          first
          | (rw [eq_comm, decide_eq_true_iff]; omega)
          | (rw [eq_comm, decide_eq_false_iff_not]; omega)
  · skip
    first
    | have d_4 := cz_eq c_4 (by omega)
    | have d_4 := cb_eq c_4
    | skip
    have he := od5_e (a := a) (b := b) d_4 ha hb
    refine x_iload_n C D_X9_isLess_0.2.2.2.2.1 rfl rfl ?_
    refine x_iload_n C D_X9_isLess_0.2.2.2.2.2.1 rfl rfl ?_
    refine x_icmp_lt C 22 D_X9_isLess_0.2.2.2.2.2.2.1 (by decide) (fun c_9 => ?_) (fun c_9 => ?_)
    · skip
      first
      | have d_9 := cv_lt c_9 (by omega) (by omega)
      | skip
      refine x_iconst C (v := nI 1) D_X9_isLess_1.2.1 (by decide +kernel) ?_
      refine x_goto C 50 D_X9_isLess_1.2.2.1 (by decide) ?_
      refine ret _ _ _ _ _ _ true rfl D_X9_isLess_2.2.2.2.2.2 (Nat.le_of_ble_eq_true rfl) (Nat.le_of_ble_eq_true rfl) rfl ?_
      refine ⟨?_, rfl⟩
      first
      | (rw [eq_comm, decide_eq_true_iff]; omega)
      | (rw [eq_comm, decide_eq_false_iff_not]; omega)
    · skip
      first
      | have d_9 := cv_nlt c_9 (by omega) (by omega)
      | skip
      refine x_iload_n C D_X9_isLess_0.2.2.2.2.2.2.2.1 rfl rfl ?_
      refine x_iload_n C D_X9_isLess_0.2.2.2.2.2.2.2.2.1 rfl rfl ?_
      refine x_icmp_ne C 26 D_X9_isLess_0.2.2.2.2.2.2.2.2.2.1 (by decide) (fun c_14 => ?_) (fun c_14 => ?_)
      · skip
        first
        | have d_14 := cv_ne c_14 (by omega) (by omega)
        | skip
        refine x_iconst C (v := nI 0) D_X9_isLess_1.2.2.2.1 (by decide +kernel) ?_
        refine x_goto C 50 D_X9_isLess_1.2.2.2.2.1 (by decide) ?_
        refine ret _ _ _ _ _ _ false rfl D_X9_isLess_2.2.2.2.2.2 (Nat.le_of_ble_eq_true rfl) (Nat.le_of_ble_eq_true rfl) rfl ?_
        refine ⟨?_, rfl⟩
        first
        | (rw [eq_comm, decide_eq_true_iff]; omega)
        | (rw [eq_comm, decide_eq_false_iff_not]; omega)
      · skip
        first
        | have d_14 := cv_eq c_14 (by omega) (by omega)
        | skip
        refine x_iload_n C D_X9_isLess_0.2.2.2.2.2.2.2.2.2.2.1 rfl rfl ?_
        refine x_iload_n C D_X9_isLess_0.2.2.2.2.2.2.2.2.2.2.2 rfl rfl ?_
        refine x_icmp_ge C 26 D_X9_isLess_1.1 (by decide) (fun c_19 => ?_) (fun c_19 => ?_)
        · skip
          first
          | have d_19 := cv_le c_19 (by omega) (by omega)
          | skip
          refine x_iconst C (v := nI 0) D_X9_isLess_1.2.2.2.1 (by decide +kernel) ?_
          refine x_goto C 50 D_X9_isLess_1.2.2.2.2.1 (by decide) ?_
          refine ret _ _ _ _ _ _ false rfl D_X9_isLess_2.2.2.2.2.2 (Nat.le_of_ble_eq_true rfl) (Nat.le_of_ble_eq_true rfl) rfl ?_
          refine ⟨?_, rfl⟩
          first
          | (rw [eq_comm, decide_eq_true_iff]; omega)
          | (rw [eq_comm, decide_eq_false_iff_not]; omega)
        · skip
          first
          | have d_19 := cv_nle c_19 (by omega) (by omega)
          | skip
          refine x_iconst C (v := nI 1) D_X9_isLess_1.2.1 (by decide +kernel) ?_
          refine x_goto C 50 D_X9_isLess_1.2.2.1 (by decide) ?_
          refine ret _ _ _ _ _ _ true rfl D_X9_isLess_2.2.2.2.2.2 (Nat.le_of_ble_eq_true rfl) (Nat.le_of_ble_eq_true rfl) rfl ?_
          refine ⟨?_, rfl⟩
          first
          | (rw [eq_comm, decide_eq_true_iff]; omega)
          | (rw [eq_comm, decide_eq_false_iff_not]; omega)
abbrev rm_X9_livingPoints : Room := { frames := 0, cells := 0, slots := 0, locals := 0 }
set_option maxHeartbeats 4000000 in
set_option maxRecDepth 100000 in
theorem c_X9_livingPoints (l : Launch) (G : xG) {K N : Nat → Nat} {I : Nat → Nat → Int32} {Q : Nat → Nat → Option Nat} {J : Nat → Nat → Int64} (m n : Nat) (ar : Nat → Nat) (pa : Nat → Bool) (hM : MZ K N Q m ar) (hn : I m 10 = nI n) (hnb : n ≤ 122) (hal : ∀ i, i < n → I (ar 14) i = xb (pa i)) : XM l yX9_livingPoints cX9_livingPoints 3 (some .int) rm_X9_livingPoints G Ri [.ref m] (K, N, I, Q, J) (fun r S1 => r = nI (cn pa n) ∧ S1 = (K, N, I, Q, J)) := by
  refine x_meti (lv := [_, _, _]) (by decide +kernel) (x_cc (by first | rfl | exact x_crf _) x_cn) (Nat.le_of_ble_eq_true rfl) rfl ?_
  intro pP eE sS mM aA bB hH cC Z C hini ret
  have hk9 := hM.1
  refine x_iconst C (v := nI 0) D_X9_livingPoints_0.1 (by decide +kernel) ?_
  refine x_istore_n C (lv' := [_, _, _]) D_X9_livingPoints_0.2.1 rfl (Nat.le_of_ble_eq_true rfl) (by first | rfl | exact x_ok_q rfl) rfl ?_
  refine x_iconst C (v := nI 0) D_X9_livingPoints_0.2.2.1 (by decide +kernel) ?_
  refine x_istore_n C (lv' := [_, _, _]) D_X9_livingPoints_0.2.2.2.1 rfl (Nat.le_of_ble_eq_true rfl) (by first | rfl | exact x_ok_q rfl) rfl ?_
  have L_4 : ∀ (w_4 : Nat) (k0 : Nat), n - k0 < w_4 → (k0 ≤ n) → XW pP l eE rm_X9_livingPoints sS mM aA bB hH cC G Z 0 0 (K, N, I, Q, J) 4 [some (.ref m), some (.int (nI (cn pa k0))), some (.int (nI k0))] [] := by
    intro w_4
    induction w_4 with
    | zero =>
      intro k0 hw_4
      exact absurd hw_4 (Nat.not_lt_zero _)
    | succ w_4 ih_4 =>
      intro k0 hw_4 hk0
      refine x_iload_n C D_X9_livingPoints_0.2.2.2.2.1 rfl rfl ?_
      refine x_aload_n C D_X9_livingPoints_0.2.2.2.2.2.1 rfl rfl (by first | exact Or.inr ⟨_, rfl⟩ | exact va_rf_or _ | exact Or.inl rfl) ?_
      refine x_getI C (ci := 8) (k0 := 10) (by assumption) (by decide) rfl (by decide) in_X9 k_912 rfl rfl D_X9_livingPoints_0.2.2.2.2.2.2.1 ?_
      first
      | refine x_eqi _ (hn) ?_
      | refine x_eqi _ (hal _ (by omega)) ?_
      | skip
      refine x_icmp_ge C 35 D_X9_livingPoints_0.2.2.2.2.2.2.2.1 (by decide) (fun c_9 => ?_) (fun c_9 => ?_)
      · skip
        first
        | have d_9 := cv_le c_9 (by omega) (by omega)
        | skip
        obtain rfl : k0 = n := by omega
        refine x_iload_n C D_X9_livingPoints_1.2.2.2.2.2.2.2.2.2.1 rfl rfl ?_
        refine ret _ _ _ _ _ _ rfl D_X9_livingPoints_1.2.2.2.2.2.2.2.2.2.2 (Nat.le_of_ble_eq_true rfl) (Nat.le_of_ble_eq_true rfl) ?_
        exact ⟨rfl, rfl⟩
      · skip
        first
        | have d_9 := cv_nle c_9 (by omega) (by omega)
        | skip
        have hcl := cn_le pa k0
        refine x_iload_n C D_X9_livingPoints_0.2.2.2.2.2.2.2.2.1 rfl rfl ?_
        refine x_aload_n C D_X9_livingPoints_0.2.2.2.2.2.2.2.2.2.1 rfl rfl (by first | exact Or.inr ⟨_, rfl⟩ | exact va_rf_or _ | exact Or.inl rfl) ?_
        refine x_getQ C (ci := 8) (k0 := 14) (by assumption) (by decide) rfl (by decide) in_X9 k_916 rfl rfl D_X9_livingPoints_0.2.2.2.2.2.2.2.2.2.2.1 ?_
        refine x_eqr (hM.2.1 14 (by decide)).1 ?_
        refine x_iload_n C D_X9_livingPoints_0.2.2.2.2.2.2.2.2.2.2.2 rfl rfl ?_
        refine x_zald C _ (by first | assumption | exact (hM.2.1 _ (by decide)).2.1) rfl (by first | omega | (rw [hM.nk _ (by decide)]; omega) | (rw [hM.np _ (by decide)]; omega)) (by first | omega | (rw [hM.nk _ (by decide)]; omega) | (rw [hM.np _ (by decide)]; omega)) D_X9_livingPoints_1.1 ?_
        first
        | refine x_eqi _ (hn) ?_
        | refine x_eqi _ (hal _ (by omega)) ?_
        | skip
        refine x_if_eq C 26 D_X9_livingPoints_1.2.1 (by decide) (fun c_19 => ?_) (fun c_19 => ?_)
        · skip
          first
          | have d_19 := cz_eq c_19 (by omega)
          | have d_19 := cb_eq c_19
          | skip
          have hs : cn pa (k0 + 1) = cn pa k0 + 0 := by simp [cn, d_19]
          refine x_iconst C (v := nI 0) D_X9_livingPoints_1.2.2.2.2.1 (by decide +kernel) ?_
          refine x_iadd C D_X9_livingPoints_1.2.2.2.2.2.1 ?_
          first
          | refine x_eqi _ (nI_add _ _) ?_
          | skip
          refine x_istore_n C (lv' := [_, _, _]) D_X9_livingPoints_1.2.2.2.2.2.2.1 rfl (Nat.le_of_ble_eq_true rfl) (by first | rfl | exact x_ok_q rfl) rfl ?_
          first
          | refine x_iinc C (lv' := [_, _, _]) D_X9_livingPoints_1.2.2.2.2.2.2.2.1 rfl (x_incN_1 _) (by first | rfl | exact x_ok_q rfl) rfl ?_
          | refine x_iinc C (lv' := [_, _, _]) D_X9_livingPoints_1.2.2.2.2.2.2.2.1 rfl (x_inc_1 _) (by first | rfl | exact x_ok_q rfl) rfl ?_
          refine x_goto C 4 D_X9_livingPoints_1.2.2.2.2.2.2.2.2.1 (by decide) ?_
          rw [← hs]
          exact ih_4 (k0 + 1) (by omega) (by omega)
        · skip
          first
          | have d_19 := cz_ne c_19 (by omega)
          | have d_19 := cb_ne c_19
          | skip
          have hs : cn pa (k0 + 1) = cn pa k0 + 1 := by simp [cn, d_19]
          refine x_iconst C (v := nI 1) D_X9_livingPoints_1.2.2.1 (by decide +kernel) ?_
          refine x_goto C 27 D_X9_livingPoints_1.2.2.2.1 (by decide) ?_
          refine x_iadd C D_X9_livingPoints_1.2.2.2.2.2.1 ?_
          first
          | refine x_eqi _ (nI_add _ _) ?_
          | skip
          refine x_istore_n C (lv' := [_, _, _]) D_X9_livingPoints_1.2.2.2.2.2.2.1 rfl (Nat.le_of_ble_eq_true rfl) (by first | rfl | exact x_ok_q rfl) rfl ?_
          first
          | refine x_iinc C (lv' := [_, _, _]) D_X9_livingPoints_1.2.2.2.2.2.2.2.1 rfl (x_incN_1 _) (by first | rfl | exact x_ok_q rfl) rfl ?_
          | refine x_iinc C (lv' := [_, _, _]) D_X9_livingPoints_1.2.2.2.2.2.2.2.1 rfl (x_inc_1 _) (by first | rfl | exact x_ok_q rfl) rfl ?_
          refine x_goto C 4 D_X9_livingPoints_1.2.2.2.2.2.2.2.2.1 (by decide) ?_
          rw [← hs]
          exact ih_4 (k0 + 1) (by omega) (by omega)
  exact L_4 _ 0 (Nat.lt_succ_self _) (Nat.zero_le _)
abbrev rm_X9_pointsBefore : Room := { frames := 1, cells := 0, slots := 0, locals := 24 }
theorem hd_X9_isLess : yX9_isLess.cls ≠ "java/lang/invoke/MethodHandle" ∧ yX9_isLess.cls ≠ "java/lang/invoke/VarHandle" ∧ (parseMethodDescriptor yX9_isLess.desc).map (fun d => d.parameters.length) = some 5 := by decide +kernel
set_option maxHeartbeats 4000000 in
set_option maxRecDepth 100000 in
theorem c_X9_pointsBefore (l : Launch) (G : xG) {K N : Nat → Nat} {I : Nat → Nat → Int32} {Q : Nat → Nat → Option Nat} {J : Nat → Nat → Int64} (m n i : Nat) (ar pc ps : Nat → Nat) (op : Nat → Bool) (hM : MZ K N Q m ar) (hn : I m 10 = nI n) (hnb : n ≤ 122) (h12 : ∀ i, i < n → I (ar 12) i = nI (pc i / 100)) (h13 : ∀ i, i < n → I (ar 13) i = nI (pc i % 100)) (hpc : ∀ i, i < n → pc i < 10000) (h15 : ∀ i, i < n → I (ar 15) i = nI (ps i)) (h16 : ∀ i, i < n → I (ar 16) i = xb (op i)) (hps : ∀ i, i < n → ps i < 2 ^ 28) (hi : i < n)  : XM l yX9_pointsBefore cX9_pointsBefore 4 (some .int) rm_X9_pointsBefore G Ri [.ref m, .int (nI i)] (K, N, I, Q, J) (fun r S1 => r = nI (cn (bfQ pc op ps i) n) ∧ S1 = (K, N, I, Q, J)) := by
  refine x_meti (lv := [_, _, _, _]) (by decide +kernel) (x_cc (by first | rfl | exact x_crf _) (x_cc (by first | rfl | exact x_crf _) x_cn)) (Nat.le_of_ble_eq_true rfl) rfl ?_
  intro pP eE sS mM aA bB hH cC Z C hini ret
  have hk9 := hM.1
  have hpsi := hps i hi
  have hdp := dep_lt30 (show ps i < 2 ^ 30 by omega)
  refine x_iconst C (v := nI 0) D_X9_pointsBefore_0.1 (by decide +kernel) ?_
  refine x_istore_n C (lv' := [_, _, _, _]) D_X9_pointsBefore_0.2.1 rfl (Nat.le_of_ble_eq_true rfl) (by first | rfl | exact x_ok_q rfl) rfl ?_
  refine x_iconst C (v := nI 0) D_X9_pointsBefore_0.2.2.1 (by decide +kernel) ?_
  refine x_istore_n C (lv' := [_, _, _, _]) D_X9_pointsBefore_0.2.2.2.1 rfl (Nat.le_of_ble_eq_true rfl) (by first | rfl | exact x_ok_q rfl) rfl ?_
  have L_4 : ∀ (w_4 : Nat) (k0 : Nat), n - k0 < w_4 → (k0 ≤ n) → XW pP l eE rm_X9_pointsBefore sS mM aA bB hH cC G Z 0 0 (K, N, I, Q, J) 4 [some (.ref m), some (.int (nI i)), some (.int (nI (cn (bfQ pc op ps i) k0))), some (.int (nI k0))] [] := by
    intro w_4
    induction w_4 with
    | zero =>
      intro k0 hw_4
      exact absurd hw_4 (Nat.not_lt_zero _)
    | succ w_4 ih_4 =>
      intro k0 hw_4 hk0
      refine x_iload_n C D_X9_pointsBefore_0.2.2.2.2.1 rfl rfl ?_
      refine x_aload_n C D_X9_pointsBefore_0.2.2.2.2.2.1 rfl rfl (by first | exact Or.inr ⟨_, rfl⟩ | exact va_rf_or _ | exact Or.inl rfl) ?_
      refine x_getI C (ci := 8) (k0 := 10) (by assumption) (by decide) rfl (by decide) in_X9 k_912 rfl rfl D_X9_pointsBefore_0.2.2.2.2.2.2.1 ?_
      first
      | refine x_eqi _ (hn) ?_
      | refine x_eqi _ (h16 _ (by omega)) ?_
      | refine x_eqi _ (h15 _ (by omega)) ?_
      | refine x_eqi _ (h12 _ (by omega)) ?_
      | refine x_eqi _ (h13 _ (by omega)) ?_
      | skip
      refine x_icmp_ge C 89 D_X9_pointsBefore_0.2.2.2.2.2.2.2.1 (by decide) (fun c_9 => ?_) (fun c_9 => ?_)
      · skip
        first
        | have d_9 := cv_le c_9 (by omega) (by omega)
        | skip
        obtain rfl : k0 = n := by omega
        refine x_iload_n C D_X9_pointsBefore_4.2.2.2.2.2.1 rfl rfl ?_
        refine ret _ _ _ _ _ _ rfl D_X9_pointsBefore_4.2.2.2.2.2.2 (Nat.le_of_ble_eq_true rfl) (Nat.le_of_ble_eq_true rfl) ?_
        exact ⟨rfl, rfl⟩
      · skip
        first
        | have d_9 := cv_nle c_9 (by omega) (by omega)
        | skip
        have hcl := cn_le (bfQ pc op ps i) k0
        have hpk := hps k0 (by omega)
        refine x_iload_n C D_X9_pointsBefore_0.2.2.2.2.2.2.2.2.1 rfl rfl ?_
        refine x_aload_n C D_X9_pointsBefore_0.2.2.2.2.2.2.2.2.2.1 rfl rfl (by first | exact Or.inr ⟨_, rfl⟩ | exact va_rf_or _ | exact Or.inl rfl) ?_
        refine x_getQ C (ci := 8) (k0 := 16) (by assumption) (by decide) rfl (by decide) in_X9 k_918 rfl rfl D_X9_pointsBefore_0.2.2.2.2.2.2.2.2.2.2.1 ?_
        refine x_eqr (hM.2.1 16 (by decide)).1 ?_
        refine x_iload_n C D_X9_pointsBefore_0.2.2.2.2.2.2.2.2.2.2.2 rfl rfl ?_
        refine x_zald C _ (by first | assumption | exact (hM.2.1 _ (by decide)).2.1) rfl (by first | omega | (rw [hM.nk _ (by decide)]; omega) | (rw [hM.np _ (by decide)]; omega)) (by first | omega | (rw [hM.nk _ (by decide)]; omega) | (rw [hM.np _ (by decide)]; omega)) D_X9_pointsBefore_1.1 ?_
        first
        | refine x_eqi _ (hn) ?_
        | refine x_eqi _ (h16 _ (by omega)) ?_
        | refine x_eqi _ (h15 _ (by omega)) ?_
        | refine x_eqi _ (h12 _ (by omega)) ?_
        | refine x_eqi _ (h13 _ (by omega)) ?_
        | skip
        refine x_if_eq C 80 D_X9_pointsBefore_1.2.1 (by decide) (fun c_19 => ?_) (fun c_19 => ?_)
        · skip
          first
          | have d_19 := cz_eq c_19 (by omega)
          | have d_19 := cb_eq c_19
          | skip
          have hs : cn (bfQ pc op ps i) (k0 + 1) = cn (bfQ pc op ps i) k0 + 0 := by simp [cn, bfQ, d_19]
          refine x_iconst C (v := nI 0) D_X9_pointsBefore_4.1 (by decide +kernel) ?_
          refine x_iadd C D_X9_pointsBefore_4.2.1 ?_
          first
          | refine x_eqi _ (nI_add _ _) ?_
          | skip
          refine x_istore_n C (lv' := [_, _, _, _]) D_X9_pointsBefore_4.2.2.1 rfl (Nat.le_of_ble_eq_true rfl) (by first | rfl | exact x_ok_q rfl) rfl ?_
          first
          | refine x_iinc C (lv' := [_, _, _, _]) D_X9_pointsBefore_4.2.2.2.1 rfl (x_incN_1 _) (by first | rfl | exact x_ok_q rfl) rfl ?_
          | refine x_iinc C (lv' := [_, _, _, _]) D_X9_pointsBefore_4.2.2.2.1 rfl (x_inc_1 _) (by first | rfl | exact x_ok_q rfl) rfl ?_
          refine x_goto C 4 D_X9_pointsBefore_4.2.2.2.2.1 (by decide) ?_
          rw [← hs]
          exact ih_4 (k0 + 1) (by omega) (by omega)
        · skip
          first
          | have d_19 := cz_ne c_19 (by omega)
          | have d_19 := cb_ne c_19
          | skip
          refine x_aload_n C D_X9_pointsBefore_1.2.2.1 rfl rfl (by first | exact Or.inr ⟨_, rfl⟩ | exact va_rf_or _ | exact Or.inl rfl) ?_
          refine x_getQ C (ci := 8) (k0 := 15) (by assumption) (by decide) rfl (by decide) in_X9 k_917 rfl rfl D_X9_pointsBefore_1.2.2.2.1 ?_
          refine x_eqr (hM.2.1 15 (by decide)).1 ?_
          refine x_iload_n C D_X9_pointsBefore_1.2.2.2.2.1 rfl rfl ?_
          refine x_iald C _ (by first | assumption | exact (hM.2.1 _ (by decide)).2.1) rfl (by first | omega | (rw [hM.nk _ (by decide)]; omega) | (rw [hM.np _ (by decide)]; omega)) (by first | omega | (rw [hM.nk _ (by decide)]; omega) | (rw [hM.np _ (by decide)]; omega)) D_X9_pointsBefore_1.2.2.2.2.2.1 ?_
          first
          | refine x_eqi _ (hn) ?_
          | refine x_eqi _ (h16 _ (by omega)) ?_
          | refine x_eqi _ (h15 _ (by omega)) ?_
          | refine x_eqi _ (h12 _ (by omega)) ?_
          | refine x_eqi _ (h13 _ (by omega)) ?_
          | skip
          refine x_aload_n C D_X9_pointsBefore_1.2.2.2.2.2.2.1 rfl rfl (by first | exact Or.inr ⟨_, rfl⟩ | exact va_rf_or _ | exact Or.inl rfl) ?_
          refine x_getQ C (ci := 8) (k0 := 15) (by assumption) (by decide) rfl (by decide) in_X9 k_917 rfl rfl D_X9_pointsBefore_1.2.2.2.2.2.2.2.1 ?_
          refine x_eqr (hM.2.1 15 (by decide)).1 ?_
          refine x_iload_n C D_X9_pointsBefore_1.2.2.2.2.2.2.2.2.1 rfl rfl ?_
          refine x_iald C _ (by first | assumption | exact (hM.2.1 _ (by decide)).2.1) rfl (by first | omega | (rw [hM.nk _ (by decide)]; omega) | (rw [hM.np _ (by decide)]; omega)) (by first | omega | (rw [hM.nk _ (by decide)]; omega) | (rw [hM.np _ (by decide)]; omega)) D_X9_pointsBefore_1.2.2.2.2.2.2.2.2.2.1 ?_
          first
          | refine x_eqi _ (hn) ?_
          | refine x_eqi _ (h16 _ (by omega)) ?_
          | refine x_eqi _ (h15 _ (by omega)) ?_
          | refine x_eqi _ (h12 _ (by omega)) ?_
          | refine x_eqi _ (h13 _ (by omega)) ?_
          | skip
          refine x_icmp_ne C 80 D_X9_pointsBefore_1.2.2.2.2.2.2.2.2.2.2.1 (by decide) (fun c_34 => ?_) (fun c_34 => ?_)
          · skip
            first
            | have d_34 := cv_ne c_34 (by omega) (by omega)
            | skip
            have hs : cn (bfQ pc op ps i) (k0 + 1) = cn (bfQ pc op ps i) k0 + 0 := by simp [cn, bfQ, d_34]
            refine x_iconst C (v := nI 0) D_X9_pointsBefore_4.1 (by decide +kernel) ?_
            refine x_iadd C D_X9_pointsBefore_4.2.1 ?_
            first
            | refine x_eqi _ (nI_add _ _) ?_
            | skip
            refine x_istore_n C (lv' := [_, _, _, _]) D_X9_pointsBefore_4.2.2.1 rfl (Nat.le_of_ble_eq_true rfl) (by first | rfl | exact x_ok_q rfl) rfl ?_
            first
            | refine x_iinc C (lv' := [_, _, _, _]) D_X9_pointsBefore_4.2.2.2.1 rfl (x_incN_1 _) (by first | rfl | exact x_ok_q rfl) rfl ?_
            | refine x_iinc C (lv' := [_, _, _, _]) D_X9_pointsBefore_4.2.2.2.1 rfl (x_inc_1 _) (by first | rfl | exact x_ok_q rfl) rfl ?_
            refine x_goto C 4 D_X9_pointsBefore_4.2.2.2.2.1 (by decide) ?_
            rw [← hs]
            exact ih_4 (k0 + 1) (by omega) (by omega)
          · skip
            first
            | have d_34 := cv_eq c_34 (by omega) (by omega)
            | skip
            refine x_aload_n C D_X9_pointsBefore_1.2.2.2.2.2.2.2.2.2.2.2 rfl rfl (by first | exact Or.inr ⟨_, rfl⟩ | exact va_rf_or _ | exact Or.inl rfl) ?_
            refine x_getQ C (ci := 8) (k0 := 12) (by assumption) (by decide) rfl (by decide) in_X9 k_914 rfl rfl D_X9_pointsBefore_2.1 ?_
            refine x_eqr (hM.2.1 12 (by decide)).1 ?_
            refine x_iload_n C D_X9_pointsBefore_2.2.1 rfl rfl ?_
            refine x_iald C _ (by first | assumption | exact (hM.2.1 _ (by decide)).2.1) rfl (by first | omega | (rw [hM.nk _ (by decide)]; omega) | (rw [hM.np _ (by decide)]; omega)) (by first | omega | (rw [hM.nk _ (by decide)]; omega) | (rw [hM.np _ (by decide)]; omega)) D_X9_pointsBefore_2.2.2.1 ?_
            first
            | refine x_eqi _ (hn) ?_
            | refine x_eqi _ (h16 _ (by omega)) ?_
            | refine x_eqi _ (h15 _ (by omega)) ?_
            | refine x_eqi _ (h12 _ (by omega)) ?_
            | refine x_eqi _ (h13 _ (by omega)) ?_
            | skip
            refine x_aload_n C D_X9_pointsBefore_2.2.2.2.1 rfl rfl (by first | exact Or.inr ⟨_, rfl⟩ | exact va_rf_or _ | exact Or.inl rfl) ?_
            refine x_getQ C (ci := 8) (k0 := 13) (by assumption) (by decide) rfl (by decide) in_X9 k_915 rfl rfl D_X9_pointsBefore_2.2.2.2.2.1 ?_
            refine x_eqr (hM.2.1 13 (by decide)).1 ?_
            refine x_iload_n C D_X9_pointsBefore_2.2.2.2.2.2.1 rfl rfl ?_
            refine x_iald C _ (by first | assumption | exact (hM.2.1 _ (by decide)).2.1) rfl (by first | omega | (rw [hM.nk _ (by decide)]; omega) | (rw [hM.np _ (by decide)]; omega)) (by first | omega | (rw [hM.nk _ (by decide)]; omega) | (rw [hM.np _ (by decide)]; omega)) D_X9_pointsBefore_2.2.2.2.2.2.2.1 ?_
            first
            | refine x_eqi _ (hn) ?_
            | refine x_eqi _ (h16 _ (by omega)) ?_
            | refine x_eqi _ (h15 _ (by omega)) ?_
            | refine x_eqi _ (h12 _ (by omega)) ?_
            | refine x_eqi _ (h13 _ (by omega)) ?_
            | skip
            refine x_aload_n C D_X9_pointsBefore_2.2.2.2.2.2.2.2.1 rfl rfl (by first | exact Or.inr ⟨_, rfl⟩ | exact va_rf_or _ | exact Or.inl rfl) ?_
            refine x_getQ C (ci := 8) (k0 := 12) (by assumption) (by decide) rfl (by decide) in_X9 k_914 rfl rfl D_X9_pointsBefore_2.2.2.2.2.2.2.2.2.1 ?_
            refine x_eqr (hM.2.1 12 (by decide)).1 ?_
            refine x_iload_n C D_X9_pointsBefore_2.2.2.2.2.2.2.2.2.2.1 rfl rfl ?_
            refine x_iald C _ (by first | assumption | exact (hM.2.1 _ (by decide)).2.1) rfl (by first | omega | (rw [hM.nk _ (by decide)]; omega) | (rw [hM.np _ (by decide)]; omega)) (by first | omega | (rw [hM.nk _ (by decide)]; omega) | (rw [hM.np _ (by decide)]; omega)) D_X9_pointsBefore_2.2.2.2.2.2.2.2.2.2.2.1 ?_
            first
            | refine x_eqi _ (hn) ?_
            | refine x_eqi _ (h16 _ (by omega)) ?_
            | refine x_eqi _ (h15 _ (by omega)) ?_
            | refine x_eqi _ (h12 _ (by omega)) ?_
            | refine x_eqi _ (h13 _ (by omega)) ?_
            | skip
            refine x_aload_n C D_X9_pointsBefore_2.2.2.2.2.2.2.2.2.2.2.2 rfl rfl (by first | exact Or.inr ⟨_, rfl⟩ | exact va_rf_or _ | exact Or.inl rfl) ?_
            refine x_getQ C (ci := 8) (k0 := 13) (by assumption) (by decide) rfl (by decide) in_X9 k_915 rfl rfl D_X9_pointsBefore_3.1 ?_
            refine x_eqr (hM.2.1 13 (by decide)).1 ?_
            refine x_iload_n C D_X9_pointsBefore_3.2.1 rfl rfl ?_
            refine x_iald C _ (by first | assumption | exact (hM.2.1 _ (by decide)).2.1) rfl (by first | omega | (rw [hM.nk _ (by decide)]; omega) | (rw [hM.np _ (by decide)]; omega)) (by first | omega | (rw [hM.nk _ (by decide)]; omega) | (rw [hM.np _ (by decide)]; omega)) D_X9_pointsBefore_3.2.2.1 ?_
            first
            | refine x_eqi _ (hn) ?_
            | refine x_eqi _ (h16 _ (by omega)) ?_
            | refine x_eqi _ (h15 _ (by omega)) ?_
            | refine x_eqi _ (h12 _ (by omega)) ?_
            | refine x_eqi _ (h13 _ (by omega)) ?_
            | skip
            refine x_aload_n C D_X9_pointsBefore_3.2.2.2.1 rfl rfl (by first | exact Or.inr ⟨_, rfl⟩ | exact va_rf_or _ | exact Or.inl rfl) ?_
            refine x_getQ C (ci := 8) (k0 := 15) (by assumption) (by decide) rfl (by decide) in_X9 k_917 rfl rfl D_X9_pointsBefore_3.2.2.2.2.1 ?_
            refine x_eqr (hM.2.1 15 (by decide)).1 ?_
            refine x_iload_n C D_X9_pointsBefore_3.2.2.2.2.2.1 rfl rfl ?_
            refine x_iald C _ (by first | assumption | exact (hM.2.1 _ (by decide)).2.1) rfl (by first | omega | (rw [hM.nk _ (by decide)]; omega) | (rw [hM.np _ (by decide)]; omega)) (by first | omega | (rw [hM.nk _ (by decide)]; omega) | (rw [hM.np _ (by decide)]; omega)) D_X9_pointsBefore_3.2.2.2.2.2.2.1 ?_
            first
            | refine x_eqi _ (hn) ?_
            | refine x_eqi _ (h16 _ (by omega)) ?_
            | refine x_eqi _ (h15 _ (by omega)) ?_
            | refine x_eqi _ (h12 _ (by omega)) ?_
            | refine x_eqi _ (h13 _ (by omega)) ?_
            | skip
            refine x_callSi C (y := yX9_depthOf) (c_X9_depthOf l G (ps i) (by omega)) k_1011 k_1012 k_67 k_1013 hd_X9_depthOf ⟨(Nat.le_of_ble_eq_true rfl), (Nat.le_of_ble_eq_true rfl)⟩ rfl (by first | exact Nat.le_of_ble_eq_true rfl | simp [x_crf, Value.category]) rfl rfl D_X9_pointsBefore_3.2.2.2.2.2.2.2.1 ⟨(Nat.le_of_ble_eq_true rfl), (Nat.le_of_ble_eq_true rfl)⟩ (fun r_67 S_67 h_67 => ?_)
            obtain ⟨rfl, rfl⟩ := h_67
            refine x_callSz C (y := yX9_isLess) (c_X9_isLess l G (pc k0) (pc i) (dep (ps i)) (hpc k0 (by omega)) (hpc i hi) (by omega)) k_1153 k_1154 k_67 k_1155 hd_X9_isLess ⟨(Nat.le_of_ble_eq_true rfl), (Nat.le_of_ble_eq_true rfl)⟩ rfl (by first | exact Nat.le_of_ble_eq_true rfl | simp [x_crf, Value.category]) rfl rfl D_X9_pointsBefore_3.2.2.2.2.2.2.2.2.1 ⟨(Nat.le_of_ble_eq_true rfl), (Nat.le_of_ble_eq_true rfl)⟩ (fun r_70 S_70 h_70 => ?_)
            obtain ⟨rfl, rfl⟩ := h_70
            refine x_if_eq C 80 D_X9_pointsBefore_3.2.2.2.2.2.2.2.2.2.1 (by decide) (fun c_73 => ?_) (fun c_73 => ?_)
            · skip
              first
              | have d_73 := cz_eq c_73 (by omega)
              | have d_73 := cb_eq c_73
              | skip
              have hs : cn (bfQ pc op ps i) (k0 + 1) = cn (bfQ pc op ps i) k0 + 0 := by simp [cn, bfQ, d_73]
              refine x_iconst C (v := nI 0) D_X9_pointsBefore_4.1 (by decide +kernel) ?_
              refine x_iadd C D_X9_pointsBefore_4.2.1 ?_
              first
              | refine x_eqi _ (nI_add _ _) ?_
              | skip
              refine x_istore_n C (lv' := [_, _, _, _]) D_X9_pointsBefore_4.2.2.1 rfl (Nat.le_of_ble_eq_true rfl) (by first | rfl | exact x_ok_q rfl) rfl ?_
              first
              | refine x_iinc C (lv' := [_, _, _, _]) D_X9_pointsBefore_4.2.2.2.1 rfl (x_incN_1 _) (by first | rfl | exact x_ok_q rfl) rfl ?_
              | refine x_iinc C (lv' := [_, _, _, _]) D_X9_pointsBefore_4.2.2.2.1 rfl (x_inc_1 _) (by first | rfl | exact x_ok_q rfl) rfl ?_
              refine x_goto C 4 D_X9_pointsBefore_4.2.2.2.2.1 (by decide) ?_
              rw [← hs]
              exact ih_4 (k0 + 1) (by omega) (by omega)
            · skip
              first
              | have d_73 := cz_ne c_73 (by omega)
              | have d_73 := cb_ne c_73
              | skip
              have hs : cn (bfQ pc op ps i) (k0 + 1) = cn (bfQ pc op ps i) k0 + 1 := by simp only [cn, bfQ, d_19, d_34, d_73]; simp
              refine x_iconst C (v := nI 1) D_X9_pointsBefore_3.2.2.2.2.2.2.2.2.2.2.1 (by decide +kernel) ?_
              refine x_goto C 81 D_X9_pointsBefore_3.2.2.2.2.2.2.2.2.2.2.2 (by decide) ?_
              refine x_iadd C D_X9_pointsBefore_4.2.1 ?_
              first
              | refine x_eqi _ (nI_add _ _) ?_
              | skip
              refine x_istore_n C (lv' := [_, _, _, _]) D_X9_pointsBefore_4.2.2.1 rfl (Nat.le_of_ble_eq_true rfl) (by first | rfl | exact x_ok_q rfl) rfl ?_
              first
              | refine x_iinc C (lv' := [_, _, _, _]) D_X9_pointsBefore_4.2.2.2.1 rfl (x_incN_1 _) (by first | rfl | exact x_ok_q rfl) rfl ?_
              | refine x_iinc C (lv' := [_, _, _, _]) D_X9_pointsBefore_4.2.2.2.1 rfl (x_inc_1 _) (by first | rfl | exact x_ok_q rfl) rfl ?_
              refine x_goto C 4 D_X9_pointsBefore_4.2.2.2.2.1 (by decide) ?_
              rw [← hs]
              exact ih_4 (k0 + 1) (by omega) (by omega)
  exact L_4 _ 0 (Nat.lt_succ_self _) (Nat.zero_le _)
abbrev rm_X9_pointsWith : Room := { frames := 0, cells := 0, slots := 0, locals := 0 }
set_option maxHeartbeats 4000000 in
set_option maxRecDepth 100000 in
theorem c_X9_pointsWith (l : Launch) (G : xG) {K N : Nat → Nat} {I : Nat → Nat → Int32} {Q : Nat → Nat → Option Nat} {J : Nat → Nat → Int64} (m n i : Nat) (ar ps : Nat → Nat) (op : Nat → Bool) (hM : MZ K N Q m ar) (hn : I m 10 = nI n) (hnb : n ≤ 122) (h15 : ∀ i, i < n → I (ar 15) i = nI (ps i)) (h16 : ∀ i, i < n → I (ar 16) i = xb (op i)) (hps : ∀ i, i < n → ps i < 2 ^ 28) (hi : i < n)  : XM l yX9_pointsWith cX9_pointsWith 4 (some .int) rm_X9_pointsWith G Ri [.ref m, .int (nI i)] (K, N, I, Q, J) (fun r S1 => r = nI (cn (wtQ op ps i) n) ∧ S1 = (K, N, I, Q, J)) := by
  refine x_meti (lv := [_, _, _, _]) (by decide +kernel) (x_cc (by first | rfl | exact x_crf _) (x_cc (by first | rfl | exact x_crf _) x_cn)) (Nat.le_of_ble_eq_true rfl) rfl ?_
  intro pP eE sS mM aA bB hH cC Z C hini ret
  have hk9 := hM.1
  have hpsi := hps i hi
  refine x_iconst C (v := nI 0) D_X9_pointsWith_0.1 (by decide +kernel) ?_
  refine x_istore_n C (lv' := [_, _, _, _]) D_X9_pointsWith_0.2.1 rfl (Nat.le_of_ble_eq_true rfl) (by first | rfl | exact x_ok_q rfl) rfl ?_
  refine x_iconst C (v := nI 0) D_X9_pointsWith_0.2.2.1 (by decide +kernel) ?_
  refine x_istore_n C (lv' := [_, _, _, _]) D_X9_pointsWith_0.2.2.2.1 rfl (Nat.le_of_ble_eq_true rfl) (by first | rfl | exact x_ok_q rfl) rfl ?_
  have L_4 : ∀ (w_4 : Nat) (k0 : Nat), n - k0 < w_4 → (k0 ≤ n) → XW pP l eE rm_X9_pointsWith sS mM aA bB hH cC G Z 0 0 (K, N, I, Q, J) 4 [some (.ref m), some (.int (nI i)), some (.int (nI (cn (wtQ op ps i) k0))), some (.int (nI k0))] [] := by
    intro w_4
    induction w_4 with
    | zero =>
      intro k0 hw_4
      exact absurd hw_4 (Nat.not_lt_zero _)
    | succ w_4 ih_4 =>
      intro k0 hw_4 hk0
      refine x_iload_n C D_X9_pointsWith_0.2.2.2.2.1 rfl rfl ?_
      refine x_aload_n C D_X9_pointsWith_0.2.2.2.2.2.1 rfl rfl (by first | exact Or.inr ⟨_, rfl⟩ | exact va_rf_or _ | exact Or.inl rfl) ?_
      refine x_getI C (ci := 8) (k0 := 10) (by assumption) (by decide) rfl (by decide) in_X9 k_912 rfl rfl D_X9_pointsWith_0.2.2.2.2.2.2.1 ?_
      first
      | refine x_eqi _ (hn) ?_
      | refine x_eqi _ (h16 _ (by omega)) ?_
      | refine x_eqi _ (h15 _ (by omega)) ?_
      | skip
      refine x_icmp_ge C 50 D_X9_pointsWith_0.2.2.2.2.2.2.2.1 (by decide) (fun c_9 => ?_) (fun c_9 => ?_)
      · skip
        first
        | have d_9 := cv_le c_9 (by omega) (by omega)
        | skip
        obtain rfl : k0 = n := by omega
        refine x_iload_n C D_X9_pointsWith_2.2.2.2.2.2.2.1 rfl rfl ?_
        refine ret _ _ _ _ _ _ rfl D_X9_pointsWith_2.2.2.2.2.2.2.2 (Nat.le_of_ble_eq_true rfl) (Nat.le_of_ble_eq_true rfl) ?_
        exact ⟨rfl, rfl⟩
      · skip
        first
        | have d_9 := cv_nle c_9 (by omega) (by omega)
        | skip
        have hcl := cn_le (wtQ op ps i) k0
        have hpk := hps k0 (by omega)
        refine x_iload_n C D_X9_pointsWith_0.2.2.2.2.2.2.2.2.1 rfl rfl ?_
        refine x_aload_n C D_X9_pointsWith_0.2.2.2.2.2.2.2.2.2.1 rfl rfl (by first | exact Or.inr ⟨_, rfl⟩ | exact va_rf_or _ | exact Or.inl rfl) ?_
        refine x_getQ C (ci := 8) (k0 := 16) (by assumption) (by decide) rfl (by decide) in_X9 k_918 rfl rfl D_X9_pointsWith_0.2.2.2.2.2.2.2.2.2.2.1 ?_
        refine x_eqr (hM.2.1 16 (by decide)).1 ?_
        refine x_iload_n C D_X9_pointsWith_0.2.2.2.2.2.2.2.2.2.2.2 rfl rfl ?_
        refine x_zald C _ (by first | assumption | exact (hM.2.1 _ (by decide)).2.1) rfl (by first | omega | (rw [hM.nk _ (by decide)]; omega) | (rw [hM.np _ (by decide)]; omega)) (by first | omega | (rw [hM.nk _ (by decide)]; omega) | (rw [hM.np _ (by decide)]; omega)) D_X9_pointsWith_1.1 ?_
        first
        | refine x_eqi _ (hn) ?_
        | refine x_eqi _ (h16 _ (by omega)) ?_
        | refine x_eqi _ (h15 _ (by omega)) ?_
        | skip
        refine x_if_eq C 41 D_X9_pointsWith_1.2.1 (by decide) (fun c_19 => ?_) (fun c_19 => ?_)
        · skip
          first
          | have d_19 := cz_eq c_19 (by omega)
          | have d_19 := cb_eq c_19
          | skip
          have hs : cn (wtQ op ps i) (k0 + 1) = cn (wtQ op ps i) k0 + 0 := by simp [cn, wtQ, d_19]
          refine x_iconst C (v := nI 0) D_X9_pointsWith_2.2.1 (by decide +kernel) ?_
          refine x_iadd C D_X9_pointsWith_2.2.2.1 ?_
          first
          | refine x_eqi _ (nI_add _ _) ?_
          | skip
          refine x_istore_n C (lv' := [_, _, _, _]) D_X9_pointsWith_2.2.2.2.1 rfl (Nat.le_of_ble_eq_true rfl) (by first | rfl | exact x_ok_q rfl) rfl ?_
          first
          | refine x_iinc C (lv' := [_, _, _, _]) D_X9_pointsWith_2.2.2.2.2.1 rfl (x_incN_1 _) (by first | rfl | exact x_ok_q rfl) rfl ?_
          | refine x_iinc C (lv' := [_, _, _, _]) D_X9_pointsWith_2.2.2.2.2.1 rfl (x_inc_1 _) (by first | rfl | exact x_ok_q rfl) rfl ?_
          refine x_goto C 4 D_X9_pointsWith_2.2.2.2.2.2.1 (by decide) ?_
          rw [← hs]
          exact ih_4 (k0 + 1) (by omega) (by omega)
        · skip
          first
          | have d_19 := cz_ne c_19 (by omega)
          | have d_19 := cb_ne c_19
          | skip
          refine x_aload_n C D_X9_pointsWith_1.2.2.1 rfl rfl (by first | exact Or.inr ⟨_, rfl⟩ | exact va_rf_or _ | exact Or.inl rfl) ?_
          refine x_getQ C (ci := 8) (k0 := 15) (by assumption) (by decide) rfl (by decide) in_X9 k_917 rfl rfl D_X9_pointsWith_1.2.2.2.1 ?_
          refine x_eqr (hM.2.1 15 (by decide)).1 ?_
          refine x_iload_n C D_X9_pointsWith_1.2.2.2.2.1 rfl rfl ?_
          refine x_iald C _ (by first | assumption | exact (hM.2.1 _ (by decide)).2.1) rfl (by first | omega | (rw [hM.nk _ (by decide)]; omega) | (rw [hM.np _ (by decide)]; omega)) (by first | omega | (rw [hM.nk _ (by decide)]; omega) | (rw [hM.np _ (by decide)]; omega)) D_X9_pointsWith_1.2.2.2.2.2.1 ?_
          first
          | refine x_eqi _ (hn) ?_
          | refine x_eqi _ (h16 _ (by omega)) ?_
          | refine x_eqi _ (h15 _ (by omega)) ?_
          | skip
          refine x_aload_n C D_X9_pointsWith_1.2.2.2.2.2.2.1 rfl rfl (by first | exact Or.inr ⟨_, rfl⟩ | exact va_rf_or _ | exact Or.inl rfl) ?_
          refine x_getQ C (ci := 8) (k0 := 15) (by assumption) (by decide) rfl (by decide) in_X9 k_917 rfl rfl D_X9_pointsWith_1.2.2.2.2.2.2.2.1 ?_
          refine x_eqr (hM.2.1 15 (by decide)).1 ?_
          refine x_iload_n C D_X9_pointsWith_1.2.2.2.2.2.2.2.2.1 rfl rfl ?_
          refine x_iald C _ (by first | assumption | exact (hM.2.1 _ (by decide)).2.1) rfl (by first | omega | (rw [hM.nk _ (by decide)]; omega) | (rw [hM.np _ (by decide)]; omega)) (by first | omega | (rw [hM.nk _ (by decide)]; omega) | (rw [hM.np _ (by decide)]; omega)) D_X9_pointsWith_1.2.2.2.2.2.2.2.2.2.1 ?_
          first
          | refine x_eqi _ (hn) ?_
          | refine x_eqi _ (h16 _ (by omega)) ?_
          | refine x_eqi _ (h15 _ (by omega)) ?_
          | skip
          refine x_icmp_ne C 41 D_X9_pointsWith_1.2.2.2.2.2.2.2.2.2.2.1 (by decide) (fun c_34 => ?_) (fun c_34 => ?_)
          · skip
            first
            | have d_34 := cv_ne c_34 (by omega) (by omega)
            | skip
            have hs : cn (wtQ op ps i) (k0 + 1) = cn (wtQ op ps i) k0 + 0 := by simp [cn, wtQ, d_34]
            refine x_iconst C (v := nI 0) D_X9_pointsWith_2.2.1 (by decide +kernel) ?_
            refine x_iadd C D_X9_pointsWith_2.2.2.1 ?_
            first
            | refine x_eqi _ (nI_add _ _) ?_
            | skip
            refine x_istore_n C (lv' := [_, _, _, _]) D_X9_pointsWith_2.2.2.2.1 rfl (Nat.le_of_ble_eq_true rfl) (by first | rfl | exact x_ok_q rfl) rfl ?_
            first
            | refine x_iinc C (lv' := [_, _, _, _]) D_X9_pointsWith_2.2.2.2.2.1 rfl (x_incN_1 _) (by first | rfl | exact x_ok_q rfl) rfl ?_
            | refine x_iinc C (lv' := [_, _, _, _]) D_X9_pointsWith_2.2.2.2.2.1 rfl (x_inc_1 _) (by first | rfl | exact x_ok_q rfl) rfl ?_
            refine x_goto C 4 D_X9_pointsWith_2.2.2.2.2.2.1 (by decide) ?_
            rw [← hs]
            exact ih_4 (k0 + 1) (by omega) (by omega)
          · skip
            first
            | have d_34 := cv_eq c_34 (by omega) (by omega)
            | skip
            have hs : cn (wtQ op ps i) (k0 + 1) = cn (wtQ op ps i) k0 + 1 := by simp [cn, wtQ, d_19, d_34]
            refine x_iconst C (v := nI 1) D_X9_pointsWith_1.2.2.2.2.2.2.2.2.2.2.2 (by decide +kernel) ?_
            refine x_goto C 42 D_X9_pointsWith_2.1 (by decide) ?_
            refine x_iadd C D_X9_pointsWith_2.2.2.1 ?_
            first
            | refine x_eqi _ (nI_add _ _) ?_
            | skip
            refine x_istore_n C (lv' := [_, _, _, _]) D_X9_pointsWith_2.2.2.2.1 rfl (Nat.le_of_ble_eq_true rfl) (by first | rfl | exact x_ok_q rfl) rfl ?_
            first
            | refine x_iinc C (lv' := [_, _, _, _]) D_X9_pointsWith_2.2.2.2.2.1 rfl (x_incN_1 _) (by first | rfl | exact x_ok_q rfl) rfl ?_
            | refine x_iinc C (lv' := [_, _, _, _]) D_X9_pointsWith_2.2.2.2.2.1 rfl (x_inc_1 _) (by first | rfl | exact x_ok_q rfl) rfl ?_
            refine x_goto C 4 D_X9_pointsWith_2.2.2.2.2.2.1 (by decide) ?_
            rw [← hs]
            exact ih_4 (k0 + 1) (by omega) (by omega)
  exact L_4 _ 0 (Nat.lt_succ_self _) (Nat.zero_le _)
abbrev rm_X9_pointWeight : Room := { frames := 3, cells := 0, slots := 0, locals := 67 }
set_option maxHeartbeats 4000000 in
set_option maxRecDepth 100000 in
theorem c_X9_pointWeight (l : Launch) (G : xG) {K N : Nat → Nat} {I : Nat → Nat → Int32} {Q : Nat → Nat → Option Nat} {J : Nat → Nat → Int64} (m n p0 : Nat) (ar ps : Nat → Nat) (hM : MZ K N Q m ar) (hn : I m 10 = nI n) (hnb : n ≤ 122) (h15 : ∀ i, i < n → I (ar 15) i = nI (ps i) ∧ ps i < 2 ^ 30) (hp : p0 < 2 ^ 30) : XM l yX9_pointWeight cX9_pointWeight 2 (some .int) rm_X9_pointWeight G Ri [.ref m, .int (nI p0)] (K, N, I, Q, J) (fun r S1 => r = nI (cnW n ps p0) ∧ S1 = (K, N, I, Q, J)) := by
  refine x_meti (lv := [_, _]) (by decide +kernel) (x_cc (by first | rfl | exact x_crf _) (x_cc (by first | rfl | exact x_crf _) x_cn)) (Nat.le_of_ble_eq_true rfl) rfl ?_
  intro pP eE sS mM aA bB hH cC Z C hini ret
  have hk9 := hM.1
  have h122 := hM.np 15 (by decide)
  refine x_aload_n C D_X9_pointWeight_0.1 rfl rfl (by first | exact Or.inr ⟨_, rfl⟩ | exact va_rf_or _ | exact Or.inl rfl) ?_
  refine x_getQ C (ci := 8) (k0 := 15) (by assumption) (by decide) rfl (by decide) in_X9 k_917 rfl rfl D_X9_pointWeight_0.2.1 ?_
  refine x_eqr (hM.2.1 15 (by decide)).1 ?_
  refine x_aload_n C D_X9_pointWeight_0.2.2.1 rfl rfl (by first | exact Or.inr ⟨_, rfl⟩ | exact va_rf_or _ | exact Or.inl rfl) ?_
  refine x_getI C (ci := 8) (k0 := 10) (by assumption) (by decide) rfl (by decide) in_X9 k_912 rfl rfl D_X9_pointWeight_0.2.2.2.1 ?_
  first
  | refine x_eqi _ (hn) ?_
  | skip
  refine x_iload_n C D_X9_pointWeight_0.2.2.2.2.1 rfl rfl ?_
  refine x_callSi C (y := yX9_weightAt) (c_X9_weightAt l G (ar 15) n p0 ps (hM.2.1 15 (by decide)).2.1 (by omega) (by omega) (by omega) hp h15) k_1005 k_1006 k_67 k_1007 hd_X9_weightAt ⟨(Nat.le_of_ble_eq_true rfl), (Nat.le_of_ble_eq_true rfl)⟩ rfl (by first | exact Nat.le_of_ble_eq_true rfl | simp [x_crf, Value.category]) rfl rfl D_X9_pointWeight_0.2.2.2.2.2.1 ⟨(Nat.le_of_ble_eq_true rfl), (Nat.le_of_ble_eq_true rfl)⟩ (fun r_9 S_9 h_9 => ?_)
  obtain ⟨rfl, rfl⟩ := h_9
  refine ret _ _ _ _ _ _ rfl D_X9_pointWeight_0.2.2.2.2.2.2 (Nat.le_of_ble_eq_true rfl) (Nat.le_of_ble_eq_true rfl) ?_
  exact ⟨rfl, rfl⟩
