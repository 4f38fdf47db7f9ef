theorem D_X7_top_0 : decode cX7_top 0 = .ok (.aload_n 0, 1) ∧ decode cX7_top 1 = .ok (.getfield 20, 3) ∧ decode cX7_top 4 = .ok (.areturn, 1) := by decide +kernel
theorem D_X7_turnCount_0 : decode cX7_turnCount 0 = .ok (.aload_n 0, 1) ∧ decode cX7_turnCount 1 = .ok (.getfield 24, 3) ∧ decode cX7_turnCount 4 = .ok (.ireturn, 1) := by decide +kernel
theorem D_X7_depthOf_0 : decode cX7_depthOf 0 = .ok (.aload_n 0, 1) ∧ decode cX7_depthOf 1 = .ok (.iload_n 1, 1) ∧ decode cX7_depthOf 2 = .ok (.invokevirtual 28, 3) ∧ decode cX7_depthOf 5 = .ok (.ifnonnull 7, 3) ∧ decode cX7_depthOf 8 = .ok (.iconst (-1), 1) ∧ decode cX7_depthOf 9 = .ok (.goto 12, 3) ∧ decode cX7_depthOf 12 = .ok (.aload_n 0, 1) ∧ decode cX7_depthOf 13 = .ok (.getfield 14, 3) ∧ decode cX7_depthOf 16 = .ok (.invokevirtual 32, 3) ∧ decode cX7_depthOf 19 = .ok (.iconst 1, 1) ∧ decode cX7_depthOf 20 = .ok (.isub, 1) ∧ decode cX7_depthOf 21 = .ok (.ireturn, 1) := by decide +kernel
theorem D_X7_find_0 : decode cX7_find 0 = .ok (.aload_n 0, 1) ∧ decode cX7_find 1 = .ok (.getfield 14, 3) ∧ decode cX7_find 4 = .ok (.invokevirtual 36, 3) ∧ decode cX7_find 7 = .ok (.aload_n 0, 1) ∧ decode cX7_find 8 = .ok (.getfield 20, 3) ∧ decode cX7_find 11 = .ok (.astore_n 2, 1) ∧ decode cX7_find 12 = .ok (.aload_n 2, 1) ∧ decode cX7_find 13 = .ok (.ifnull 44, 3) ∧ decode cX7_find 16 = .ok (.aload_n 0, 1) ∧ decode cX7_find 17 = .ok (.getfield 14, 3) ∧ decode cX7_find 20 = .ok (.aload_n 2, 1) ∧ decode cX7_find 21 = .ok (.invokevirtual 39, 3) := by decide +kernel
theorem D_X7_find_1 : decode cX7_find 24 = .ok (.aload_n 2, 1) ∧ decode cX7_find 25 = .ok (.getfield 43, 3) ∧ decode cX7_find 28 = .ok (.iload_n 1, 1) ∧ decode cX7_find 29 = .ok (.if_icmp .ne 5, 3) ∧ decode cX7_find 32 = .ok (.aload_n 2, 1) ∧ decode cX7_find 33 = .ok (.areturn, 1) ∧ decode cX7_find 34 = .ok (.iload_n 1, 1) ∧ decode cX7_find 35 = .ok (.aload_n 2, 1) ∧ decode cX7_find 36 = .ok (.getfield 43, 3) ∧ decode cX7_find 39 = .ok (.if_icmp .ge 10, 3) ∧ decode cX7_find 42 = .ok (.aload_n 2, 1) ∧ decode cX7_find 43 = .ok (.getfield 48, 3) := by decide +kernel
theorem D_X7_find_2 : decode cX7_find 46 = .ok (.goto 7, 3) ∧ decode cX7_find 49 = .ok (.aload_n 2, 1) ∧ decode cX7_find 50 = .ok (.getfield 51, 3) ∧ decode cX7_find 53 = .ok (.astore_n 2, 1) ∧ decode cX7_find 54 = .ok (.goto (-42), 3) ∧ decode cX7_find 57 = .ok (.aconst_null, 1) ∧ decode cX7_find 58 = .ok (.areturn, 1) := by decide +kernel
theorem D_X7_replace_0 : decode cX7_replace 0 = .ok (.aload_n 1, 1) ∧ decode cX7_replace 1 = .ok (.ifnonnull 11, 3) ∧ decode cX7_replace 4 = .ok (.aload_n 0, 1) ∧ decode cX7_replace 5 = .ok (.aload_n 3, 1) ∧ decode cX7_replace 6 = .ok (.putfield 20, 3) ∧ decode cX7_replace 9 = .ok (.goto 24, 3) ∧ decode cX7_replace 12 = .ok (.aload_n 1, 1) ∧ decode cX7_replace 13 = .ok (.getfield 48, 3) ∧ decode cX7_replace 16 = .ok (.aload_n 2, 1) ∧ decode cX7_replace 17 = .ok (.if_acmp .ne 11, 3) ∧ decode cX7_replace 20 = .ok (.aload_n 1, 1) ∧ decode cX7_replace 21 = .ok (.aload_n 3, 1) := by decide +kernel
theorem D_X7_replace_1 : decode cX7_replace 22 = .ok (.putfield 48, 3) ∧ decode cX7_replace 25 = .ok (.goto 8, 3) ∧ decode cX7_replace 28 = .ok (.aload_n 1, 1) ∧ decode cX7_replace 29 = .ok (.aload_n 3, 1) ∧ decode cX7_replace 30 = .ok (.putfield 51, 3) ∧ decode cX7_replace 33 = .ok (.return_, 1) := by decide +kernel
theorem D_X7_weigh_0 : decode cX7_weigh 0 = .ok (.aload_n 0, 1) ∧ decode cX7_weigh 1 = .ok (.aload_n 0, 1) ∧ decode cX7_weigh 2 = .ok (.getfield 48, 3) ∧ decode cX7_weigh 5 = .ok (.invokestatic 69, 3) ∧ decode cX7_weigh 8 = .ok (.aload_n 0, 1) ∧ decode cX7_weigh 9 = .ok (.getfield 51, 3) ∧ decode cX7_weigh 12 = .ok (.invokestatic 69, 3) ∧ decode cX7_weigh 15 = .ok (.iadd, 1) ∧ decode cX7_weigh 16 = .ok (.iconst 1, 1) ∧ decode cX7_weigh 17 = .ok (.iadd, 1) ∧ decode cX7_weigh 18 = .ok (.putfield 79, 3) ∧ decode cX7_weigh 21 = .ok (.return_, 1) := by decide +kernel
theorem D_X7_loadOf_0 : decode cX7_loadOf 0 = .ok (.aload_n 0, 1) ∧ decode cX7_loadOf 1 = .ok (.invokestatic 69, 3) ∧ decode cX7_loadOf 4 = .ok (.iconst 1, 1) ∧ decode cX7_loadOf 5 = .ok (.iadd, 1) ∧ decode cX7_loadOf 6 = .ok (.ireturn, 1) := by decide +kernel
theorem D_X7_balanced_0 : decode cX7_balanced 0 = .ok (.aload_n 1, 1) ∧ decode cX7_balanced 1 = .ok (.getfield 51, 3) ∧ decode cX7_balanced 4 = .ok (.invokestatic 82, 3) ∧ decode cX7_balanced 7 = .ok (.iconst 3, 1) ∧ decode cX7_balanced 8 = .ok (.aload_n 1, 1) ∧ decode cX7_balanced 9 = .ok (.getfield 48, 3) ∧ decode cX7_balanced 12 = .ok (.invokestatic 82, 3) ∧ decode cX7_balanced 15 = .ok (.imul, 1) ∧ decode cX7_balanced 16 = .ok (.if_icmp .le 46, 3) ∧ decode cX7_balanced 19 = .ok (.aload_n 1, 1) ∧ decode cX7_balanced 20 = .ok (.getfield 51, 3) ∧ decode cX7_balanced 23 = .ok (.astore_n 2, 1) := by decide +kernel
theorem D_X7_balanced_1 : decode cX7_balanced 24 = .ok (.aload_n 2, 1) ∧ decode cX7_balanced 25 = .ok (.ifnull 31, 3) ∧ decode cX7_balanced 28 = .ok (.aload_n 2, 1) ∧ decode cX7_balanced 29 = .ok (.getfield 48, 3) ∧ decode cX7_balanced 32 = .ok (.invokestatic 82, 3) ∧ decode cX7_balanced 35 = .ok (.iconst 2, 1) ∧ decode cX7_balanced 36 = .ok (.aload_n 2, 1) ∧ decode cX7_balanced 37 = .ok (.getfield 51, 3) ∧ decode cX7_balanced 40 = .ok (.invokestatic 82, 3) ∧ decode cX7_balanced 43 = .ok (.imul, 1) ∧ decode cX7_balanced 44 = .ok (.if_icmp .lt 12, 3) ∧ decode cX7_balanced 47 = .ok (.aload_n 1, 1) := by decide +kernel
theorem D_X7_balanced_2 : decode cX7_balanced 48 = .ok (.aload_n 0, 1) ∧ decode cX7_balanced 49 = .ok (.aload_n 2, 1) ∧ decode cX7_balanced 50 = .ok (.invokevirtual 85, 3) ∧ decode cX7_balanced 53 = .ok (.putfield 51, 3) ∧ decode cX7_balanced 56 = .ok (.aload_n 0, 1) ∧ decode cX7_balanced 57 = .ok (.aload_n 1, 1) ∧ decode cX7_balanced 58 = .ok (.invokevirtual 88, 3) ∧ decode cX7_balanced 61 = .ok (.areturn, 1) ∧ decode cX7_balanced 62 = .ok (.aload_n 1, 1) ∧ decode cX7_balanced 63 = .ok (.getfield 48, 3) ∧ decode cX7_balanced 66 = .ok (.invokestatic 82, 3) ∧ decode cX7_balanced 69 = .ok (.iconst 3, 1) := by decide +kernel
theorem D_X7_balanced_3 : decode cX7_balanced 70 = .ok (.aload_n 1, 1) ∧ decode cX7_balanced 71 = .ok (.getfield 51, 3) ∧ decode cX7_balanced 74 = .ok (.invokestatic 82, 3) ∧ decode cX7_balanced 77 = .ok (.imul, 1) ∧ decode cX7_balanced 78 = .ok (.if_icmp .le 46, 3) ∧ decode cX7_balanced 81 = .ok (.aload_n 1, 1) ∧ decode cX7_balanced 82 = .ok (.getfield 48, 3) ∧ decode cX7_balanced 85 = .ok (.astore_n 2, 1) ∧ decode cX7_balanced 86 = .ok (.aload_n 2, 1) ∧ decode cX7_balanced 87 = .ok (.ifnull 31, 3) ∧ decode cX7_balanced 90 = .ok (.aload_n 2, 1) ∧ decode cX7_balanced 91 = .ok (.getfield 51, 3) := by decide +kernel
theorem D_X7_balanced_4 : decode cX7_balanced 94 = .ok (.invokestatic 82, 3) ∧ decode cX7_balanced 97 = .ok (.iconst 2, 1) ∧ decode cX7_balanced 98 = .ok (.aload_n 2, 1) ∧ decode cX7_balanced 99 = .ok (.getfield 48, 3) ∧ decode cX7_balanced 102 = .ok (.invokestatic 82, 3) ∧ decode cX7_balanced 105 = .ok (.imul, 1) ∧ decode cX7_balanced 106 = .ok (.if_icmp .lt 12, 3) ∧ decode cX7_balanced 109 = .ok (.aload_n 1, 1) ∧ decode cX7_balanced 110 = .ok (.aload_n 0, 1) ∧ decode cX7_balanced 111 = .ok (.aload_n 2, 1) ∧ decode cX7_balanced 112 = .ok (.invokevirtual 88, 3) ∧ decode cX7_balanced 115 = .ok (.putfield 48, 3) := by decide +kernel
theorem D_X7_balanced_5 : decode cX7_balanced 118 = .ok (.aload_n 0, 1) ∧ decode cX7_balanced 119 = .ok (.aload_n 1, 1) ∧ decode cX7_balanced 120 = .ok (.invokevirtual 85, 3) ∧ decode cX7_balanced 123 = .ok (.areturn, 1) ∧ decode cX7_balanced 124 = .ok (.aload_n 1, 1) ∧ decode cX7_balanced 125 = .ok (.areturn, 1) := by decide +kernel
theorem D_X7_turnedLeft_0 : decode cX7_turnedLeft 0 = .ok (.aload_n 1, 1) ∧ decode cX7_turnedLeft 1 = .ok (.getfield 51, 3) ∧ decode cX7_turnedLeft 4 = .ok (.astore_n 2, 1) ∧ decode cX7_turnedLeft 5 = .ok (.aload_n 2, 1) ∧ decode cX7_turnedLeft 6 = .ok (.ifnonnull 5, 3) ∧ decode cX7_turnedLeft 9 = .ok (.aload_n 1, 1) ∧ decode cX7_turnedLeft 10 = .ok (.areturn, 1) ∧ decode cX7_turnedLeft 11 = .ok (.aload_n 1, 1) ∧ decode cX7_turnedLeft 12 = .ok (.aload_n 2, 1) ∧ decode cX7_turnedLeft 13 = .ok (.getfield 48, 3) ∧ decode cX7_turnedLeft 16 = .ok (.putfield 51, 3) ∧ decode cX7_turnedLeft 19 = .ok (.aload_n 2, 1) := by decide +kernel
theorem D_X7_turnedLeft_1 : decode cX7_turnedLeft 20 = .ok (.aload_n 1, 1) ∧ decode cX7_turnedLeft 21 = .ok (.putfield 48, 3) ∧ decode cX7_turnedLeft 24 = .ok (.aload_n 1, 1) ∧ decode cX7_turnedLeft 25 = .ok (.invokestatic 73, 3) ∧ decode cX7_turnedLeft 28 = .ok (.aload_n 2, 1) ∧ decode cX7_turnedLeft 29 = .ok (.invokestatic 73, 3) ∧ decode cX7_turnedLeft 32 = .ok (.aload_n 0, 1) ∧ decode cX7_turnedLeft 33 = .ok (.dup, 1) ∧ decode cX7_turnedLeft 34 = .ok (.getfield 24, 3) ∧ decode cX7_turnedLeft 37 = .ok (.iconst 1, 1) ∧ decode cX7_turnedLeft 38 = .ok (.iadd, 1) ∧ decode cX7_turnedLeft 39 = .ok (.putfield 24, 3) := by decide +kernel
theorem D_X7_turnedLeft_2 : decode cX7_turnedLeft 42 = .ok (.aload_n 2, 1) ∧ decode cX7_turnedLeft 43 = .ok (.areturn, 1) := by decide +kernel
theorem D_X7_turnedRight_0 : decode cX7_turnedRight 0 = .ok (.aload_n 1, 1) ∧ decode cX7_turnedRight 1 = .ok (.getfield 48, 3) ∧ decode cX7_turnedRight 4 = .ok (.astore_n 2, 1) ∧ decode cX7_turnedRight 5 = .ok (.aload_n 2, 1) ∧ decode cX7_turnedRight 6 = .ok (.ifnonnull 5, 3) ∧ decode cX7_turnedRight 9 = .ok (.aload_n 1, 1) ∧ decode cX7_turnedRight 10 = .ok (.areturn, 1) ∧ decode cX7_turnedRight 11 = .ok (.aload_n 1, 1) ∧ decode cX7_turnedRight 12 = .ok (.aload_n 2, 1) ∧ decode cX7_turnedRight 13 = .ok (.getfield 51, 3) ∧ decode cX7_turnedRight 16 = .ok (.putfield 48, 3) ∧ decode cX7_turnedRight 19 = .ok (.aload_n 2, 1) := by decide +kernel
theorem D_X7_turnedRight_1 : decode cX7_turnedRight 20 = .ok (.aload_n 1, 1) ∧ decode cX7_turnedRight 21 = .ok (.putfield 51, 3) ∧ decode cX7_turnedRight 24 = .ok (.aload_n 1, 1) ∧ decode cX7_turnedRight 25 = .ok (.invokestatic 73, 3) ∧ decode cX7_turnedRight 28 = .ok (.aload_n 2, 1) ∧ decode cX7_turnedRight 29 = .ok (.invokestatic 73, 3) ∧ decode cX7_turnedRight 32 = .ok (.aload_n 0, 1) ∧ decode cX7_turnedRight 33 = .ok (.dup, 1) ∧ decode cX7_turnedRight 34 = .ok (.getfield 24, 3) ∧ decode cX7_turnedRight 37 = .ok (.iconst 1, 1) ∧ decode cX7_turnedRight 38 = .ok (.iadd, 1) ∧ decode cX7_turnedRight 39 = .ok (.putfield 24, 3) := by decide +kernel
theorem D_X7_turnedRight_2 : decode cX7_turnedRight 42 = .ok (.aload_n 2, 1) ∧ decode cX7_turnedRight 43 = .ok (.areturn, 1) := by decide +kernel
theorem D_X7_balanceUpFrom_0 : decode cX7_balanceUpFrom 0 = .ok (.iload_n 1, 1) ∧ decode cX7_balanceUpFrom 1 = .ok (.istore_n 2, 1) ∧ decode cX7_balanceUpFrom 2 = .ok (.iload_n 2, 1) ∧ decode cX7_balanceUpFrom 3 = .ok (.ifCond .lt 46, 3) ∧ decode cX7_balanceUpFrom 6 = .ok (.aload_n 0, 1) ∧ decode cX7_balanceUpFrom 7 = .ok (.getfield 14, 3) ∧ decode cX7_balanceUpFrom 10 = .ok (.iload_n 2, 1) ∧ decode cX7_balanceUpFrom 11 = .ok (.invokevirtual 55, 3) ∧ decode cX7_balanceUpFrom 14 = .ok (.astore_n 3, 1) ∧ decode cX7_balanceUpFrom 15 = .ok (.aload_n 3, 1) ∧ decode cX7_balanceUpFrom 16 = .ok (.ifnull 27, 3) ∧ decode cX7_balanceUpFrom 19 = .ok (.aload_n 3, 1) := by decide +kernel
theorem D_X7_balanceUpFrom_1 : decode cX7_balanceUpFrom 20 = .ok (.invokestatic 73, 3) ∧ decode cX7_balanceUpFrom 23 = .ok (.aload_n 0, 1) ∧ decode cX7_balanceUpFrom 24 = .ok (.aload_n 0, 1) ∧ decode cX7_balanceUpFrom 25 = .ok (.getfield 14, 3) ∧ decode cX7_balanceUpFrom 28 = .ok (.iload_n 2, 1) ∧ decode cX7_balanceUpFrom 29 = .ok (.iconst 1, 1) ∧ decode cX7_balanceUpFrom 30 = .ok (.isub, 1) ∧ decode cX7_balanceUpFrom 31 = .ok (.invokevirtual 55, 3) ∧ decode cX7_balanceUpFrom 34 = .ok (.aload_n 3, 1) ∧ decode cX7_balanceUpFrom 35 = .ok (.aload_n 0, 1) ∧ decode cX7_balanceUpFrom 36 = .ok (.aload_n 3, 1) ∧ decode cX7_balanceUpFrom 37 = .ok (.invokevirtual 76, 3) := by decide +kernel
theorem D_X7_balanceUpFrom_2 : decode cX7_balanceUpFrom 40 = .ok (.invokevirtual 65, 3) ∧ decode cX7_balanceUpFrom 43 = .ok (.iinc 2 (-1), 3) ∧ decode cX7_balanceUpFrom 46 = .ok (.goto (-44), 3) ∧ decode cX7_balanceUpFrom 49 = .ok (.return_, 1) := by decide +kernel
abbrev rm_X7_top : Room := { frames := 0, cells := 0, slots := 0, locals := 0 }
set_option maxHeartbeats 4000000 in
set_option maxRecDepth 100000 in
theorem c_X7_top (l : Launch) (G : xG) {K N : Nat → Nat} {I : Nat → Nat → Int32} {Q : Nat → Nat → Option Nat} {J : Nat → Nat → Int64} (t : Nat) (h : K t = 7) : XM l yX7_top cX7_top 1 (some (.object "ScapegoatSpur$Node")) rm_X7_top G Rq [.ref t] (K, N, I, Q, J) (fun r S1 => r = Q t 1 ∧ S1 = (K, N, I, Q, J)) := by
  refine x_metq (lv := [_]) (by decide +kernel) (x_cc (by first | rfl | exact x_crf _) x_cn) (Nat.le_of_ble_eq_true rfl) rfl ?_
  intro pP eE sS mM aA bB hH cC Z C hini ret
  refine x_aload_n C D_X7_top_0.1 rfl rfl (by first | exact Or.inr ⟨_, rfl⟩ | exact va_rf_or _ | exact Or.inl rfl) ?_
  refine x_getQ C (ci := 6) (k0 := 1) (by assumption) (by decide) rfl (by decide) in_X7 k_138 rfl rfl D_X7_top_0.2.1 ?_
  refine x_nmq (fun o_1 eo_1 => ?_)
  refine ret _ _ _ _ _ _ _ ⟨_, rfl⟩ D_X7_top_0.2.2 (Nat.le_of_ble_eq_true rfl) (Nat.le_of_ble_eq_true rfl) (by first | exact rfl | exact (rfl : _ = va_rf (some _)) | exact (rfl : _ = va_rf none)) ?_
  exact ⟨eo_1, rfl⟩
abbrev rm_X7_turnCount : Room := { frames := 0, cells := 0, slots := 0, locals := 0 }
set_option maxHeartbeats 4000000 in
set_option maxRecDepth 100000 in
theorem c_X7_turnCount (l : Launch) (G : xG) {K N : Nat → Nat} {I : Nat → Nat → Int32} {Q : Nat → Nat → Option Nat} {J : Nat → Nat → Int64} (t : Nat) (h : K t = 7) : XM l yX7_turnCount cX7_turnCount 1 (some .int) rm_X7_turnCount G Ri [.ref t] (K, N, I, Q, J) (fun r S1 => r = I t 2 ∧ S1 = (K, N, I, Q, J)) := by
  refine x_meti (lv := [_]) (by decide +kernel) (x_cc (by first | rfl | exact x_crf _) x_cn) (Nat.le_of_ble_eq_true rfl) rfl ?_
  intro pP eE sS mM aA bB hH cC Z C hini ret
  refine x_aload_n C D_X7_turnCount_0.1 rfl rfl (by first | exact Or.inr ⟨_, rfl⟩ | exact va_rf_or _ | exact Or.inl rfl) ?_
  refine x_getI C (ci := 6) (k0 := 2) (by assumption) (by decide) rfl (by decide) in_X7 k_139 rfl rfl D_X7_turnCount_0.2.1 ?_
  refine ret _ _ _ _ _ _ rfl D_X7_turnCount_0.2.2 (Nat.le_of_ble_eq_true rfl) (Nat.le_of_ble_eq_true rfl) ?_
  exact ⟨rfl, rfl⟩
abbrev rm_X7_loadOf : Room := { frames := 1, cells := 0, slots := 0, locals := 20 }
set_option maxHeartbeats 4000000 in
set_option maxRecDepth 100000 in
theorem c_X7_loadOf (l : Launch) (G : xG) {K N : Nat → Nat} {I : Nat → Nat → Int32} {Q : Nat → Nat → Option Nat} {J : Nat → Nat → Int64} (o : Option Nat) (w0 : Nat) (h : ∀ q, o = some q → K q = 3) (hw : wOf I o = nI w0) : XM l yX7_loadOf cX7_loadOf 1 (some .int) rm_X7_loadOf G Ri [va_rf o] (K, N, I, Q, J) (fun r S1 => r = nI (w0 + 1) ∧ S1 = (K, N, I, Q, J)) := by
  refine x_meti (lv := [_]) (by decide +kernel) (x_cc (by first | rfl | exact x_crf _) x_cn) (Nat.le_of_ble_eq_true rfl) rfl ?_
  intro pP eE sS mM aA bB hH cC Z C hini ret
  refine x_aload_n C D_X7_loadOf_0.1 rfl rfl (by first | exact Or.inr ⟨_, rfl⟩ | exact va_rf_or _ | exact Or.inl rfl) ?_
  refine x_callSi C (y := yX3_weightOf) (c_X3_weightOf l G o h) k_294 k_248 k_73 k_249 hd_X3_weightOf ⟨(Nat.le_of_ble_eq_true rfl), (Nat.le_of_ble_eq_true rfl)⟩ rfl (by first | exact Nat.le_of_ble_eq_true rfl | simp [x_crf, Value.category]) rfl rfl D_X7_loadOf_0.2.1 ⟨(Nat.le_of_ble_eq_true rfl), (Nat.le_of_ble_eq_true rfl)⟩ (fun r_1 S_1 h_1 => ?_)
  obtain ⟨rfl, rfl⟩ := h_1
  refine x_eqi _ hw ?_
  refine x_iconst C (v := nI 1) D_X7_loadOf_0.2.2.1 (by decide +kernel) ?_
  refine x_iadd C D_X7_loadOf_0.2.2.2.1 ?_
  refine x_eqi _ (nI_add _ _) ?_
  refine ret _ _ _ _ _ _ rfl D_X7_loadOf_0.2.2.2.2 (Nat.le_of_ble_eq_true rfl) (Nat.le_of_ble_eq_true rfl) ?_
  exact ⟨rfl, rfl⟩
abbrev rm_X7_weigh : Room := { frames := 1, cells := 0, slots := 0, locals := 20 }
set_option maxHeartbeats 4000000 in
set_option maxRecDepth 100000 in
theorem c_X7_weigh (l : Launch) (G : xG) {K N : Nat → Nat} {I : Nat → Nat → Int32} {Q : Nat → Nat → Option Nat} {J : Nat → Nat → Int64} (q wa wb : Nat) (hq : K q = 3) (h3 : ∀ a, Q q 3 = some a → K a = 3) (h4 : ∀ a, Q q 4 = some a → K a = 3) (ha : wOf I (Q q 3) = nI wa) (hb : wOf I (Q q 4) = nI wb) : XM l yX7_weigh cX7_weigh 1 none rm_X7_weigh G Rv [.ref q] (K, N, I, Q, J) (fun _ S1 => S1 = (K, N, x_u2 I q 2 (nI (wa + wb + 1)), Q, J)) := by
  refine x_metv (lv := [_]) (by decide +kernel) (x_cc (by first | rfl | exact x_crf _) x_cn) (Nat.le_of_ble_eq_true rfl) rfl ?_
  intro pP eE sS mM aA bB hH cC Z C hini ret
  refine x_aload_n C D_X7_weigh_0.1 rfl rfl (by first | exact Or.inr ⟨_, rfl⟩ | exact va_rf_or _ | exact Or.inl rfl) ?_
  refine x_aload_n C D_X7_weigh_0.2.1 rfl rfl (by first | exact Or.inr ⟨_, rfl⟩ | exact va_rf_or _ | exact Or.inl rfl) ?_
  refine x_getQ C (ci := 2) (k0 := 3) hq (by decide) rfl (by decide) in_X3 k_620 rfl rfl D_X7_weigh_0.2.2.1 ?_
  refine x_eqq _ (rfl : Q q 3 = Q q 3) ?_
  refine x_callSi C (y := yX3_weightOf) (c_X3_weightOf l G (Q q 3) h3) k_294 k_248 k_73 k_249 hd_X3_weightOf ⟨(Nat.le_of_ble_eq_true rfl), (Nat.le_of_ble_eq_true rfl)⟩ rfl (by first | exact Nat.le_of_ble_eq_true rfl | simp [x_crf, Value.category]) rfl rfl D_X7_weigh_0.2.2.2.1 ⟨(Nat.le_of_ble_eq_true rfl), (Nat.le_of_ble_eq_true rfl)⟩ (fun r_5 S_5 h_5 => ?_)
  obtain ⟨rfl, rfl⟩ := h_5
  refine x_eqi _ ha ?_
  refine x_aload_n C D_X7_weigh_0.2.2.2.2.1 rfl rfl (by first | exact Or.inr ⟨_, rfl⟩ | exact va_rf_or _ | exact Or.inl rfl) ?_
  refine x_getQ C (ci := 2) (k0 := 4) hq (by decide) rfl (by decide) in_X3 k_623 rfl rfl D_X7_weigh_0.2.2.2.2.2.1 ?_
  refine x_eqq _ (rfl : Q q 4 = Q q 4) ?_
  refine x_callSi C (y := yX3_weightOf) (c_X3_weightOf l G (Q q 4) h4) k_294 k_248 k_73 k_249 hd_X3_weightOf ⟨(Nat.le_of_ble_eq_true rfl), (Nat.le_of_ble_eq_true rfl)⟩ rfl (by first | exact Nat.le_of_ble_eq_true rfl | simp [x_crf, Value.category]) rfl rfl D_X7_weigh_0.2.2.2.2.2.2.1 ⟨(Nat.le_of_ble_eq_true rfl), (Nat.le_of_ble_eq_true rfl)⟩ (fun r_12 S_12 h_12 => ?_)
  obtain ⟨rfl, rfl⟩ := h_12
  refine x_eqi _ hb ?_
  refine x_iadd C D_X7_weigh_0.2.2.2.2.2.2.2.1 ?_
  refine x_eqi _ (nI_add _ _) ?_
  refine x_iconst C (v := nI 1) D_X7_weigh_0.2.2.2.2.2.2.2.2.1 (by decide +kernel) ?_
  refine x_iadd C D_X7_weigh_0.2.2.2.2.2.2.2.2.2.1 ?_
  refine x_eqi _ (nI_add _ _) ?_
  refine x_putI C (ci := 2) (k0 := 2) hq (by decide) rfl (by decide) in_X3 k_617 rfl tyX3 tyX3_ok nmX3 rfl (by rfl) rfl rfl rfl D_X7_weigh_0.2.2.2.2.2.2.2.2.2.2.1 (fun I1 eI1 => ?_)
  refine ret _ _ _ _ _ rfl D_X7_weigh_0.2.2.2.2.2.2.2.2.2.2.2 (Nat.le_of_ble_eq_true rfl) (Nat.le_of_ble_eq_true rfl) ?_
  rw [eI1]
abbrev rm_X7_replace : Room := { frames := 0, cells := 0, slots := 0, locals := 0 }
set_option maxHeartbeats 4000000 in
set_option maxRecDepth 100000 in
theorem c_X7_replace (l : Launch) (G : xG) {K N : Nat → Nat} {I : Nat → Nat → Int32} {Q : Nat → Nat → Option Nat} {J : Nat → Nat → Int64} (t ch : Nat) (o y : Option Nat) (ht : K t = 7) (h : ∀ p0, o = some p0 → K p0 = 3) : XM l yX7_replace cX7_replace 4 none rm_X7_replace G Rv [.ref t, va_rf o, .ref ch, va_rf y] (K, N, I, Q, J) (fun _ S1 => S1 = (K, N, I, (match o with | none => x_u2 Q t 1 y | some p0 => if Q p0 3 = some ch then x_u2 Q p0 3 y else x_u2 Q p0 4 y), J)) := by
  refine x_metv (lv := [_, _, _, _]) (by decide +kernel) (x_cc (by first | rfl | exact x_crf _) (x_cc (by first | rfl | exact x_crf _) (x_cc (by first | rfl | exact x_crf _) (x_cc (by first | rfl | exact x_crf _) x_cn)))) (Nat.le_of_ble_eq_true rfl) rfl ?_
  intro pP eE sS mM aA bB hH cC Z C hini ret
  refine x_aload_n C D_X7_replace_0.1 rfl rfl (by first | exact Or.inr ⟨_, rfl⟩ | exact va_rf_or _ | exact Or.inl rfl) ?_
  refine x_ifnonnull C 12 D_X7_replace_0.2.1 (by decide) (fun p0 e_1 => ?_) (fun e_1 => ?_)
  · skip
    subst e_1
    have hp := h p0 rfl
    refine x_aload_n C D_X7_replace_0.2.2.2.2.2.2.1 rfl rfl (by first | exact Or.inr ⟨_, rfl⟩ | exact va_rf_or _ | exact Or.inl rfl) ?_
    refine x_getQ C (ci := 2) (k0 := 3) hp (by decide) rfl (by decide) in_X3 k_620 rfl rfl D_X7_replace_0.2.2.2.2.2.2.2.1 ?_
    refine x_eqq _ (rfl : Q p0 3 = Q p0 3) ?_
    refine x_aload_n C D_X7_replace_0.2.2.2.2.2.2.2.2.1 rfl rfl (by first | exact Or.inr ⟨_, rfl⟩ | exact va_rf_or _ | exact Or.inl rfl) ?_
    refine x_eqq2 (some ch) rfl ?_
    refine x_acmp_ne C 28 D_X7_replace_0.2.2.2.2.2.2.2.2.2.1 (by decide) (fun c_17 => ?_) (fun c_17 => ?_)
    · skip
      refine x_aload_n C D_X7_replace_1.2.2.1 rfl rfl (by first | exact Or.inr ⟨_, rfl⟩ | exact va_rf_or _ | exact Or.inl rfl) ?_
      refine x_aload_n C D_X7_replace_1.2.2.2.1 rfl rfl (by first | exact Or.inr ⟨_, rfl⟩ | exact va_rf_or _ | exact Or.inl rfl) ?_
      refine x_putQ C (ci := 2) (k0 := 4) hp (by decide) rfl (by decide) in_X3 k_623 rfl tyX3 tyX3_ok nmX3 rfl (by first | exact rfl | exact (rfl : _ = va_rf (some _)) | exact (rfl : _ = va_rf none)) (by rfl) (by first | rfl | exact x_narq _ _) (by first | rfl | exact x_fitq _ _) rfl D_X7_replace_1.2.2.2.2.1 (fun Q_30 eQ_30 => ?_)
      refine ret _ _ _ _ _ rfl D_X7_replace_1.2.2.2.2.2 (Nat.le_of_ble_eq_true rfl) (Nat.le_of_ble_eq_true rfl) ?_
      rw [eQ_30]; simp [c_17]
    · skip
      refine x_aload_n C D_X7_replace_0.2.2.2.2.2.2.2.2.2.2.1 rfl rfl (by first | exact Or.inr ⟨_, rfl⟩ | exact va_rf_or _ | exact Or.inl rfl) ?_
      refine x_aload_n C D_X7_replace_0.2.2.2.2.2.2.2.2.2.2.2 rfl rfl (by first | exact Or.inr ⟨_, rfl⟩ | exact va_rf_or _ | exact Or.inl rfl) ?_
      refine x_putQ C (ci := 2) (k0 := 3) hp (by decide) rfl (by decide) in_X3 k_620 rfl tyX3 tyX3_ok nmX3 rfl (by first | exact rfl | exact (rfl : _ = va_rf (some _)) | exact (rfl : _ = va_rf none)) (by rfl) (by first | rfl | exact x_narq _ _) (by first | rfl | exact x_fitq _ _) rfl D_X7_replace_1.1 (fun Q_22 eQ_22 => ?_)
      refine x_goto C 33 D_X7_replace_1.2.1 (by decide) ?_
      refine ret _ _ _ _ _ rfl D_X7_replace_1.2.2.2.2.2 (Nat.le_of_ble_eq_true rfl) (Nat.le_of_ble_eq_true rfl) ?_
      rw [eQ_22]; simp [c_17]
  · skip
    subst e_1
    refine x_aload_n C D_X7_replace_0.2.2.1 rfl rfl (by first | exact Or.inr ⟨_, rfl⟩ | exact va_rf_or _ | exact Or.inl rfl) ?_
    refine x_aload_n C D_X7_replace_0.2.2.2.1 rfl rfl (by first | exact Or.inr ⟨_, rfl⟩ | exact va_rf_or _ | exact Or.inl rfl) ?_
    refine x_putQ C (ci := 6) (k0 := 1) ht (by decide) rfl (by decide) in_X7 k_138 rfl tyX7 tyX7_ok nmX7 rfl (by first | exact rfl | exact (rfl : _ = va_rf (some _)) | exact (rfl : _ = va_rf none)) (by rfl) (by first | rfl | exact x_narq _ _) (by first | rfl | exact x_fitq _ _) rfl D_X7_replace_0.2.2.2.2.1 (fun Q_6 eQ_6 => ?_)
    refine x_goto C 33 D_X7_replace_0.2.2.2.2.2.1 (by decide) ?_
    refine ret _ _ _ _ _ rfl D_X7_replace_1.2.2.2.2.2 (Nat.le_of_ble_eq_true rfl) (Nat.le_of_ble_eq_true rfl) ?_
    rw [eQ_6]
abbrev rm_X7_turnedLeft : Room := { frames := 2, cells := 0, slots := 0, locals := 40 }
theorem hd_X7_weigh : yX7_weigh.cls ≠ "java/lang/invoke/MethodHandle" ∧ yX7_weigh.cls ≠ "java/lang/invoke/VarHandle" ∧ (parseMethodDescriptor yX7_weigh.desc).map (fun d => d.parameters.length) = some 1 := by decide +kernel
set_option maxHeartbeats 4000000 in
set_option maxRecDepth 100000 in
theorem c_X7_turnedLeft (l : Launch) (G : xG) {K N : Nat → Nat} {I : Nat → Nat → Int32} {Q : Nat → Nat → Option Nat} {J : Nat → Nat → Int64} (t q c0 : Nat) (tl_ ta tb : Tr) (ht : K t = 7) (hT : TP K Q (.branch q tl_ (.branch c0 ta tb)) (some q)) (hn : (ino (.branch q tl_ (.branch c0 ta tb))).Nodup) (w1 : WT I tl_) (w2 : WT I ta) (w3 : WT I tb) : XM l yX7_turnedLeft cX7_turnedLeft 3 (some (.object "ScapegoatSpur$Node")) rm_X7_turnedLeft G Rq [.ref t, .ref q] (K, N, I, Q, J) (fun r S1 => r = some c0 ∧ ∃ I1 Q1, S1 = (K, N, I1, Q1, J) ∧ TP K Q1 (.branch c0 (.branch q tl_ ta) tb) (some c0) ∧ WT I1 (.branch c0 (.branch q tl_ ta) tb) ∧ (∀ x j, ¬ (x = q ∧ j = 2) → ¬ (x = c0 ∧ j = 2) → ¬ (x = t ∧ j = 2) → I1 x j = I x j) ∧ (∀ x, x ≠ q → x ≠ c0 → Q1 x = Q x) ∧ I1 t 2 = I t 2 + nI 1) := by
  refine x_metq (lv := [_, _, _]) (by decide +kernel) (x_cc (by first | rfl | exact x_crf _) (x_cc (by first | rfl | exact x_crf _) x_cn)) (Nat.le_of_ble_eq_true rfl) rfl ?_
  intro pP eE sS mM aA bB hH cC Z C hini ret
  obtain ⟨-, hq3, hTa, hTb⟩ := hT
  simp only [ino, List.append_assoc, List.cons_append, List.nodup_append, List.nodup_cons, List.mem_append, List.mem_cons, not_or] at hn
  obtain ⟨hQ4, hc3, hTm, hTo⟩ := hTb
  have hTl := hTa
  have hne : q ≠ c0 := by grind
  have hm : ∀ x ∈ ino ta, x ≠ q ∧ x ≠ c0 := by grind
  have ho : ∀ x ∈ ino tb, x ≠ q ∧ x ≠ c0 := by grind
  have hl : ∀ x ∈ ino tl_, x ≠ q ∧ x ≠ c0 := by grind
  have htq : t ≠ q := fun e => by rw [e, hq3] at ht; omega
  have htc : t ≠ c0 := fun e => by rw [e, hc3] at ht; omega
  refine x_aload_n C D_X7_turnedLeft_0.1 rfl rfl (by first | exact Or.inr ⟨_, rfl⟩ | exact va_rf_or _ | exact Or.inl rfl) ?_
  refine x_getQ C (ci := 2) (k0 := 4) hq3 (by decide) rfl (by decide) in_X3 k_623 rfl rfl D_X7_turnedLeft_0.2.1 ?_
  refine x_eqr hQ4 ?_
  refine x_astore_n C (lv' := [_, _, _]) D_X7_turnedLeft_0.2.2.1 rfl (Nat.le_of_ble_eq_true rfl) (by first | rfl | exact x_ok_q rfl) (by first | exact Or.inr ⟨_, rfl⟩ | exact va_rf_or _ | exact Or.inl rfl) rfl ?_
  refine x_aload_n C D_X7_turnedLeft_0.2.2.2.1 rfl rfl (by first | exact Or.inr ⟨_, rfl⟩ | exact va_rf_or _ | exact Or.inl rfl) ?_
  refine x_eqq2 (some c0) rfl ?_
  refine x_ifnonnull C 11 D_X7_turnedLeft_0.2.2.2.2.1 (by decide) (fun c9 e_6 => ?_) (fun e_6 => ?_)
  · skip
    obtain rfl : c0 = c9 := Option.some.inj e_6
    refine x_aload_n C D_X7_turnedLeft_0.2.2.2.2.2.2.2.1 rfl rfl (by first | exact Or.inr ⟨_, rfl⟩ | exact va_rf_or _ | exact Or.inl rfl) ?_
    refine x_aload_n C D_X7_turnedLeft_0.2.2.2.2.2.2.2.2.1 rfl rfl (by first | exact Or.inr ⟨_, rfl⟩ | exact va_rf_or _ | exact Or.inl rfl) ?_
    refine x_getQ C (ci := 2) (k0 := 3) hc3 (by decide) rfl (by decide) in_X3 k_620 rfl rfl D_X7_turnedLeft_0.2.2.2.2.2.2.2.2.2.1 ?_
    refine x_eqq _ (rfl : Q c0 3 = Q c0 3) ?_
    refine x_putQ C (ci := 2) (k0 := 4) hq3 (by decide) rfl (by decide) in_X3 k_623 rfl tyX3 tyX3_ok nmX3 rfl (by first | exact rfl | exact (rfl : _ = va_rf (some _)) | exact (rfl : _ = va_rf none)) (by rfl) (by first | rfl | exact x_narq _ _) (by first | rfl | exact x_fitq _ _) rfl D_X7_turnedLeft_0.2.2.2.2.2.2.2.2.2.2.1 (fun Q2 eQ2 => ?_)
    refine x_aload_n C D_X7_turnedLeft_0.2.2.2.2.2.2.2.2.2.2.2 rfl rfl (by first | exact Or.inr ⟨_, rfl⟩ | exact va_rf_or _ | exact Or.inl rfl) ?_
    refine x_aload_n C D_X7_turnedLeft_1.1 rfl rfl (by first | exact Or.inr ⟨_, rfl⟩ | exact va_rf_or _ | exact Or.inl rfl) ?_
    refine x_putQ C (ci := 2) (k0 := 3) hc3 (by decide) rfl (by decide) in_X3 k_620 rfl tyX3 tyX3_ok nmX3 rfl (by first | exact rfl | exact (rfl : _ = va_rf (some _)) | exact (rfl : _ = va_rf none)) (by rfl) (by first | rfl | exact x_narq _ _) (by first | rfl | exact x_fitq _ _) rfl D_X7_turnedLeft_1.2.1 (fun Q3 eQ3 => ?_)
    have q3 : ∀ x, x ≠ q → x ≠ c0 → Q3 x = Q x := fun x h1 h2 => by rw [eQ3, x_u2_a _ _ h2, eQ2, x_u2_a _ _ h1]
    have tpo : ∀ (u : Tr) (o : Option Nat), TP K Q u o → (∀ x ∈ ino u, x ≠ q ∧ x ≠ c0) → TP K Q3 u o := fun u o hu hx => hu.congr (fun x hxm => by rw [q3 x (hx x hxm).1 (hx x hxm).2]; exact ⟨rfl, rfl, rfl⟩)
    have eq1 : Q3 q 4 = Q c0 3 := by rw [eQ3, x_u2_a _ _ hne, eQ2, x_u2_s]
    have eq2 : Q3 q 3 = Q q 3 := by rw [eQ3, x_u2_a _ _ hne, eQ2, x_u2_j _ _ (by omega)]
    have eq3 : Q3 c0 3 = some q := by rw [eQ3, x_u2_s]
    have eq4 : Q3 c0 4 = Q c0 4 := by rw [eQ3, x_u2_j _ _ (by omega), eQ2, x_u2_a _ _ (fun e => hne e.symm)]
    have kl : ∀ (u : Tr) (o : Option Nat), TP K Q u o → ∀ z, o = some z → K z = 3 := fun u o hu z hz => by subst hz; obtain ⟨_, _, _, hk, _⟩ := hu.some; exact hk
    refine x_aload_n C D_X7_turnedLeft_1.2.2.1 rfl rfl (by first | exact Or.inr ⟨_, rfl⟩ | exact va_rf_or _ | exact Or.inl rfl) ?_
    refine x_callSv C (y := yX7_weigh) (c_X7_weigh l G q (sz tl_) (sz ta) hq3 (fun z hz => kl _ _ hTl z (by rw [← eq2]; exact hz)) (fun z hz => kl _ _ hTm z (by rw [← eq1]; exact hz)) (by rw [eq2]; exact wOf_TP hTl w1) (by rw [eq1]; exact wOf_TP hTm w2)) k_305 k_306 k_64 k_307 hd_X7_weigh ⟨(Nat.le_of_ble_eq_true rfl), (Nat.le_of_ble_eq_true rfl)⟩ rfl (by first | exact Nat.le_of_ble_eq_true rfl | simp [x_crf, Value.category]) rfl rfl D_X7_turnedLeft_1.2.2.2.1 ⟨(Nat.le_of_ble_eq_true rfl), (Nat.le_of_ble_eq_true rfl)⟩ (fun _ S_25 h_25 => ?_)
    obtain rfl := h_25
    obtain ⟨I2, eI2⟩ : ∃ I2, I2 = x_u2 I q 2 (nI (sz tl_ + sz ta + 1)) := ⟨_, rfl⟩
    rw [← eI2]
    have i2 : ∀ x, x ≠ q → I2 x = I x := fun x hx => by rw [eI2, x_u2_a _ _ hx]
    refine x_aload_n C D_X7_turnedLeft_1.2.2.2.2.1 rfl rfl (by first | exact Or.inr ⟨_, rfl⟩ | exact va_rf_or _ | exact Or.inl rfl) ?_
    refine x_callSv C (y := yX7_weigh) (c_X7_weigh l G c0 (sz tl_ + sz ta + 1) (sz tb) hc3 (fun z hz => by rw [eq3] at hz; cases hz; exact hq3) (fun z hz => kl _ _ hTo z (by rw [← eq4]; exact hz)) (by rw [eq3, eI2]; exact x_u2_s _ _ _ _) (by rw [eq4]; exact wOf_TP hTo (w3.congr (fun x hx => by rw [i2 x (ho x hx).1])))) k_305 k_306 k_64 k_307 hd_X7_weigh ⟨(Nat.le_of_ble_eq_true rfl), (Nat.le_of_ble_eq_true rfl)⟩ rfl (by first | exact Nat.le_of_ble_eq_true rfl | simp [x_crf, Value.category]) rfl rfl D_X7_turnedLeft_1.2.2.2.2.2.1 ⟨(Nat.le_of_ble_eq_true rfl), (Nat.le_of_ble_eq_true rfl)⟩ (fun _ S_29 h_29 => ?_)
    obtain rfl := h_29
    refine x_aload_n C D_X7_turnedLeft_1.2.2.2.2.2.2.1 rfl rfl (by first | exact Or.inr ⟨_, rfl⟩ | exact va_rf_or _ | exact Or.inl rfl) ?_
    refine x_dup C D_X7_turnedLeft_1.2.2.2.2.2.2.2.1 (by first | rfl | exact x_crf _) ?_
    refine x_getI C (ci := 6) (k0 := 2) ht (by decide) rfl (by decide) in_X7 k_139 rfl rfl D_X7_turnedLeft_1.2.2.2.2.2.2.2.2.1 ?_
    refine x_iconst C (v := nI 1) D_X7_turnedLeft_1.2.2.2.2.2.2.2.2.2.1 (by decide +kernel) ?_
    refine x_iadd C D_X7_turnedLeft_1.2.2.2.2.2.2.2.2.2.2.1 ?_
    refine x_putI C (ci := 6) (k0 := 2) ht (by decide) rfl (by decide) in_X7 k_139 rfl tyX7 tyX7_ok nmX7 rfl (by rfl) rfl rfl rfl D_X7_turnedLeft_1.2.2.2.2.2.2.2.2.2.2.2 (fun I4 eI4 => ?_)
    refine x_aload_n C D_X7_turnedLeft_2.1 rfl rfl (by first | exact Or.inr ⟨_, rfl⟩ | exact va_rf_or _ | exact Or.inl rfl) ?_
    refine ret _ _ _ _ _ _ _ ⟨_, rfl⟩ D_X7_turnedLeft_2.2 (Nat.le_of_ble_eq_true rfl) (Nat.le_of_ble_eq_true rfl) (by first | exact rfl | exact (rfl : _ = va_rf (some _)) | exact (rfl : _ = va_rf none)) ?_
    have i4 : ∀ x j, ¬ (x = q ∧ j = 2) → ¬ (x = c0 ∧ j = 2) → ¬ (x = t ∧ j = 2) → I4 x j = I x j := fun x j h1 h2 h3 => by
      have e2 : I2 x j = I x j := by
        rw [eI2]
        by_cases h : x = q
        · subst h; rw [x_u2_j _ _ (fun e => h1 ⟨rfl, e⟩)]
        · rw [x_u2_a _ _ h]
      have e3 : x_u2 I2 c0 2 (nI (sz tl_ + sz ta + 1 + sz tb + 1)) x j = I x j := by
        by_cases h : x = c0
        · subst h; rw [x_u2_j _ _ (fun e => h2 ⟨rfl, e⟩), e2]
        · rw [x_u2_a _ _ h, e2]
      rw [eI4]
      by_cases h : x = t
      · subst h; rw [x_u2_j _ _ (fun e => h3 ⟨rfl, e⟩), e3]
      · rw [x_u2_a _ _ h, e3]
    have i4q : I4 q 2 = nI (sz tl_ + sz ta + 1) := by rw [eI4, x_u2_a _ _ htq.symm, x_u2_a _ _ hne, eI2, x_u2_s]
    have i4c : I4 c0 2 = nI (sz tl_ + sz ta + 1 + sz tb + 1) := by rw [eI4, x_u2_a _ _ htc.symm, x_u2_s]
    have wto : ∀ u : Tr, WT I u → (∀ x ∈ ino u, x ≠ q ∧ x ≠ c0) → (∀ x ∈ ino u, K x = 3) → WT I4 u := fun u hu hx hk => hu.congr (fun x hxm => i4 x 2 (fun e => (hx x hxm).1 e.1) (fun e => (hx x hxm).2 e.1) (fun e => by have h1 := hk x hxm; rw [e.1, ht] at h1; omega))
    refine ⟨rfl, I4, Q3, rfl, ?_, ?_, i4, q3, ?_⟩
    · exact ⟨rfl, hc3, ⟨eq3, hq3, by rw [eq2]; exact tpo _ _ hTl hl, by rw [eq1]; exact tpo _ _ hTm hm⟩, by rw [eq4]; exact tpo _ _ hTo ho⟩
    · exact ⟨by simpa [sz] using i4c, ⟨i4q, wto _ w1 hl hTl.kind, wto _ w2 hm hTm.kind⟩, wto _ w3 ho hTo.kind⟩
    · rw [eI4, x_u2_s, x_u2_a _ _ htc, i2 t htq]
  · skip
    exact absurd e_6 (by simp)
    --end
abbrev rm_X7_turnedRight : Room := { frames := 2, cells := 0, slots := 0, locals := 40 }
set_option maxHeartbeats 4000000 in
set_option maxRecDepth 100000 in
theorem c_X7_turnedRight (l : Launch) (G : xG) {K N : Nat → Nat} {I : Nat → Nat → Int32} {Q : Nat → Nat → Option Nat} {J : Nat → Nat → Int64} (t q c0 : Nat) (tl_ ta tb : Tr) (ht : K t = 7) (hT : TP K Q (.branch q (.branch c0 ta tb) tl_) (some q)) (hn : (ino (.branch q (.branch c0 ta tb) tl_)).Nodup) (w1 : WT I tl_) (w2 : WT I ta) (w3 : WT I tb) : XM l yX7_turnedRight cX7_turnedRight 3 (some (.object "ScapegoatSpur$Node")) rm_X7_turnedRight G Rq [.ref t, .ref q] (K, N, I, Q, J) (fun r S1 => r = some c0 ∧ ∃ I1 Q1, S1 = (K, N, I1, Q1, J) ∧ TP K Q1 (.branch c0 ta (.branch q tb tl_)) (some c0) ∧ WT I1 (.branch c0 ta (.branch q tb tl_)) ∧ (∀ x j, ¬ (x = q ∧ j = 2) → ¬ (x = c0 ∧ j = 2) → ¬ (x = t ∧ j = 2) → I1 x j = I x j) ∧ (∀ x, x ≠ q → x ≠ c0 → Q1 x = Q x) ∧ I1 t 2 = I t 2 + nI 1) := by
  refine x_metq (lv := [_, _, _]) (by decide +kernel) (x_cc (by first | rfl | exact x_crf _) (x_cc (by first | rfl | exact x_crf _) x_cn)) (Nat.le_of_ble_eq_true rfl) rfl ?_
  intro pP eE sS mM aA bB hH cC Z C hini ret
  obtain ⟨-, hq3, hTa, hTb⟩ := hT
  simp only [ino, List.append_assoc, List.cons_append, List.nodup_append, List.nodup_cons, List.mem_append, List.mem_cons, not_or] at hn
  obtain ⟨hQ4, hc3, hTo, hTm⟩ := hTa
  have hTl := hTb
  have hne : q ≠ c0 := by grind
  have hm : ∀ x ∈ ino tb, x ≠ q ∧ x ≠ c0 := by grind
  have ho : ∀ x ∈ ino ta, x ≠ q ∧ x ≠ c0 := by grind
  have hl : ∀ x ∈ ino tl_, x ≠ q ∧ x ≠ c0 := by grind
  have htq : t ≠ q := fun e => by rw [e, hq3] at ht; omega
  have htc : t ≠ c0 := fun e => by rw [e, hc3] at ht; omega
  refine x_aload_n C D_X7_turnedRight_0.1 rfl rfl (by first | exact Or.inr ⟨_, rfl⟩ | exact va_rf_or _ | exact Or.inl rfl) ?_
  refine x_getQ C (ci := 2) (k0 := 3) hq3 (by decide) rfl (by decide) in_X3 k_620 rfl rfl D_X7_turnedRight_0.2.1 ?_
  refine x_eqr hQ4 ?_
  refine x_astore_n C (lv' := [_, _, _]) D_X7_turnedRight_0.2.2.1 rfl (Nat.le_of_ble_eq_true rfl) (by first | rfl | exact x_ok_q rfl) (by first | exact Or.inr ⟨_, rfl⟩ | exact va_rf_or _ | exact Or.inl rfl) rfl ?_
  refine x_aload_n C D_X7_turnedRight_0.2.2.2.1 rfl rfl (by first | exact Or.inr ⟨_, rfl⟩ | exact va_rf_or _ | exact Or.inl rfl) ?_
  refine x_eqq2 (some c0) rfl ?_
  refine x_ifnonnull C 11 D_X7_turnedRight_0.2.2.2.2.1 (by decide) (fun c9 e_6 => ?_) (fun e_6 => ?_)
  · skip
    obtain rfl : c0 = c9 := Option.some.inj e_6
    refine x_aload_n C D_X7_turnedRight_0.2.2.2.2.2.2.2.1 rfl rfl (by first | exact Or.inr ⟨_, rfl⟩ | exact va_rf_or _ | exact Or.inl rfl) ?_
    refine x_aload_n C D_X7_turnedRight_0.2.2.2.2.2.2.2.2.1 rfl rfl (by first | exact Or.inr ⟨_, rfl⟩ | exact va_rf_or _ | exact Or.inl rfl) ?_
    refine x_getQ C (ci := 2) (k0 := 4) hc3 (by decide) rfl (by decide) in_X3 k_623 rfl rfl D_X7_turnedRight_0.2.2.2.2.2.2.2.2.2.1 ?_
    refine x_eqq _ (rfl : Q c0 4 = Q c0 4) ?_
    refine x_putQ C (ci := 2) (k0 := 3) hq3 (by decide) rfl (by decide) in_X3 k_620 rfl tyX3 tyX3_ok nmX3 rfl (by first | exact rfl | exact (rfl : _ = va_rf (some _)) | exact (rfl : _ = va_rf none)) (by rfl) (by first | rfl | exact x_narq _ _) (by first | rfl | exact x_fitq _ _) rfl D_X7_turnedRight_0.2.2.2.2.2.2.2.2.2.2.1 (fun Q2 eQ2 => ?_)
    refine x_aload_n C D_X7_turnedRight_0.2.2.2.2.2.2.2.2.2.2.2 rfl rfl (by first | exact Or.inr ⟨_, rfl⟩ | exact va_rf_or _ | exact Or.inl rfl) ?_
    refine x_aload_n C D_X7_turnedRight_1.1 rfl rfl (by first | exact Or.inr ⟨_, rfl⟩ | exact va_rf_or _ | exact Or.inl rfl) ?_
    refine x_putQ C (ci := 2) (k0 := 4) hc3 (by decide) rfl (by decide) in_X3 k_623 rfl tyX3 tyX3_ok nmX3 rfl (by first | exact rfl | exact (rfl : _ = va_rf (some _)) | exact (rfl : _ = va_rf none)) (by rfl) (by first | rfl | exact x_narq _ _) (by first | rfl | exact x_fitq _ _) rfl D_X7_turnedRight_1.2.1 (fun Q3 eQ3 => ?_)
    have q3 : ∀ x, x ≠ q → x ≠ c0 → Q3 x = Q x := fun x h1 h2 => by rw [eQ3, x_u2_a _ _ h2, eQ2, x_u2_a _ _ h1]
    have tpo : ∀ (u : Tr) (o : Option Nat), TP K Q u o → (∀ x ∈ ino u, x ≠ q ∧ x ≠ c0) → TP K Q3 u o := fun u o hu hx => hu.congr (fun x hxm => by rw [q3 x (hx x hxm).1 (hx x hxm).2]; exact ⟨rfl, rfl, rfl⟩)
    have eq1 : Q3 q 3 = Q c0 4 := by rw [eQ3, x_u2_a _ _ hne, eQ2, x_u2_s]
    have eq2 : Q3 q 4 = Q q 4 := by rw [eQ3, x_u2_a _ _ hne, eQ2, x_u2_j _ _ (by omega)]
    have eq3 : Q3 c0 4 = some q := by rw [eQ3, x_u2_s]
    have eq4 : Q3 c0 3 = Q c0 3 := by rw [eQ3, x_u2_j _ _ (by omega), eQ2, x_u2_a _ _ (fun e => hne e.symm)]
    have kl : ∀ (u : Tr) (o : Option Nat), TP K Q u o → ∀ z, o = some z → K z = 3 := fun u o hu z hz => by subst hz; obtain ⟨_, _, _, hk, _⟩ := hu.some; exact hk
    refine x_aload_n C D_X7_turnedRight_1.2.2.1 rfl rfl (by first | exact Or.inr ⟨_, rfl⟩ | exact va_rf_or _ | exact Or.inl rfl) ?_
    refine x_callSv C (y := yX7_weigh) (c_X7_weigh l G q (sz tb) (sz tl_) hq3 (fun z hz => kl _ _ hTm z (by rw [← eq1]; exact hz)) (fun z hz => kl _ _ hTl z (by rw [← eq2]; exact hz)) (by rw [eq1]; exact wOf_TP hTm w3) (by rw [eq2]; exact wOf_TP hTl w1)) k_305 k_306 k_64 k_307 hd_X7_weigh ⟨(Nat.le_of_ble_eq_true rfl), (Nat.le_of_ble_eq_true rfl)⟩ rfl (by first | exact Nat.le_of_ble_eq_true rfl | simp [x_crf, Value.category]) rfl rfl D_X7_turnedRight_1.2.2.2.1 ⟨(Nat.le_of_ble_eq_true rfl), (Nat.le_of_ble_eq_true rfl)⟩ (fun _ S_25 h_25 => ?_)
    obtain rfl := h_25
    obtain ⟨I2, eI2⟩ : ∃ I2, I2 = x_u2 I q 2 (nI (sz tb + sz tl_ + 1)) := ⟨_, rfl⟩
    rw [← eI2]
    have i2 : ∀ x, x ≠ q → I2 x = I x := fun x hx => by rw [eI2, x_u2_a _ _ hx]
    refine x_aload_n C D_X7_turnedRight_1.2.2.2.2.1 rfl rfl (by first | exact Or.inr ⟨_, rfl⟩ | exact va_rf_or _ | exact Or.inl rfl) ?_
    refine x_callSv C (y := yX7_weigh) (c_X7_weigh l G c0 (sz ta) ((sz tb + sz tl_ + 1)) hc3 (fun z hz => kl _ _ hTo z (by rw [← eq4]; exact hz)) (fun z hz => by rw [eq3] at hz; cases hz; exact hq3) (by rw [eq4]; exact wOf_TP hTo (w2.congr (fun x hx => by rw [i2 x (ho x hx).1]))) (by rw [eq3, eI2]; exact x_u2_s _ _ _ _)) k_305 k_306 k_64 k_307 hd_X7_weigh ⟨(Nat.le_of_ble_eq_true rfl), (Nat.le_of_ble_eq_true rfl)⟩ rfl (by first | exact Nat.le_of_ble_eq_true rfl | simp [x_crf, Value.category]) rfl rfl D_X7_turnedRight_1.2.2.2.2.2.1 ⟨(Nat.le_of_ble_eq_true rfl), (Nat.le_of_ble_eq_true rfl)⟩ (fun _ S_29 h_29 => ?_)
    obtain rfl := h_29
    refine x_aload_n C D_X7_turnedRight_1.2.2.2.2.2.2.1 rfl rfl (by first | exact Or.inr ⟨_, rfl⟩ | exact va_rf_or _ | exact Or.inl rfl) ?_
    refine x_dup C D_X7_turnedRight_1.2.2.2.2.2.2.2.1 (by first | rfl | exact x_crf _) ?_
    refine x_getI C (ci := 6) (k0 := 2) ht (by decide) rfl (by decide) in_X7 k_139 rfl rfl D_X7_turnedRight_1.2.2.2.2.2.2.2.2.1 ?_
    refine x_iconst C (v := nI 1) D_X7_turnedRight_1.2.2.2.2.2.2.2.2.2.1 (by decide +kernel) ?_
    refine x_iadd C D_X7_turnedRight_1.2.2.2.2.2.2.2.2.2.2.1 ?_
    refine x_putI C (ci := 6) (k0 := 2) ht (by decide) rfl (by decide) in_X7 k_139 rfl tyX7 tyX7_ok nmX7 rfl (by rfl) rfl rfl rfl D_X7_turnedRight_1.2.2.2.2.2.2.2.2.2.2.2 (fun I4 eI4 => ?_)
    refine x_aload_n C D_X7_turnedRight_2.1 rfl rfl (by first | exact Or.inr ⟨_, rfl⟩ | exact va_rf_or _ | exact Or.inl rfl) ?_
    refine ret _ _ _ _ _ _ _ ⟨_, rfl⟩ D_X7_turnedRight_2.2 (Nat.le_of_ble_eq_true rfl) (Nat.le_of_ble_eq_true rfl) (by first | exact rfl | exact (rfl : _ = va_rf (some _)) | exact (rfl : _ = va_rf none)) ?_
    have i4 : ∀ x j, ¬ (x = q ∧ j = 2) → ¬ (x = c0 ∧ j = 2) → ¬ (x = t ∧ j = 2) → I4 x j = I x j := fun x j h1 h2 h3 => by
      have e2 : I2 x j = I x j := by
        rw [eI2]
        by_cases h : x = q
        · subst h; rw [x_u2_j _ _ (fun e => h1 ⟨rfl, e⟩)]
        · rw [x_u2_a _ _ h]
      have e3 : x_u2 I2 c0 2 (nI (sz ta + (sz tb + sz tl_ + 1) + 1)) x j = I x j := by
        by_cases h : x = c0
        · subst h; rw [x_u2_j _ _ (fun e => h2 ⟨rfl, e⟩), e2]
        · rw [x_u2_a _ _ h, e2]
      rw [eI4]
      by_cases h : x = t
      · subst h; rw [x_u2_j _ _ (fun e => h3 ⟨rfl, e⟩), e3]
      · rw [x_u2_a _ _ h, e3]
    have i4q : I4 q 2 = nI (sz tb + sz tl_ + 1) := by rw [eI4, x_u2_a _ _ htq.symm, x_u2_a _ _ hne, eI2, x_u2_s]
    have i4c : I4 c0 2 = nI (sz ta + (sz tb + sz tl_ + 1) + 1) := by rw [eI4, x_u2_a _ _ htc.symm, x_u2_s]
    have wto : ∀ u : Tr, WT I u → (∀ x ∈ ino u, x ≠ q ∧ x ≠ c0) → (∀ x ∈ ino u, K x = 3) → WT I4 u := fun u hu hx hk => hu.congr (fun x hxm => i4 x 2 (fun e => (hx x hxm).1 e.1) (fun e => (hx x hxm).2 e.1) (fun e => by have h1 := hk x hxm; rw [e.1, ht] at h1; omega))
    refine ⟨rfl, I4, Q3, rfl, ?_, ?_, i4, q3, ?_⟩
    · exact ⟨rfl, hc3, by rw [eq4]; exact tpo _ _ hTo ho, ⟨eq3, hq3, by rw [eq1]; exact tpo _ _ hTm hm, by rw [eq2]; exact tpo _ _ hTl hl⟩⟩
    · exact ⟨by simpa [sz] using i4c, wto _ w2 ho hTo.kind, ⟨i4q, wto _ w3 hm hTm.kind, wto _ w1 hl hTl.kind⟩⟩
    · rw [eI4, x_u2_s, x_u2_a _ _ htc, i2 t htq]
  · skip
    exact absurd e_6 (by simp)
    --end
abbrev rm_X7_balanced : Room := { frames := 3, cells := 0, slots := 0, locals := 62 }
theorem hd_X7_loadOf : yX7_loadOf.cls ≠ "java/lang/invoke/MethodHandle" ∧ yX7_loadOf.cls ≠ "java/lang/invoke/VarHandle" ∧ (parseMethodDescriptor yX7_loadOf.desc).map (fun d => d.parameters.length) = some 1 := by decide +kernel
theorem hd_X7_turnedLeft : yX7_turnedLeft.cls ≠ "java/lang/invoke/MethodHandle" ∧ yX7_turnedLeft.cls ≠ "java/lang/invoke/VarHandle" ∧ (parseMethodDescriptor yX7_turnedLeft.desc).map (fun d => d.parameters.length) = some 1 := by decide +kernel
theorem hd_X7_turnedRight : yX7_turnedRight.cls ≠ "java/lang/invoke/MethodHandle" ∧ yX7_turnedRight.cls ≠ "java/lang/invoke/VarHandle" ∧ (parseMethodDescriptor yX7_turnedRight.desc).map (fun d => d.parameters.length) = some 1 := by decide +kernel
set_option maxHeartbeats 4000000 in
set_option maxRecDepth 100000 in
theorem c_X7_balanced (l : Launch) (G : xG) {K N : Nat → Nat} {I : Nat → Nat → Int32} {Q : Nat → Nat → Option Nat} {J : Nat → Nat → Int64} (t q : Nat) (tl_ tr_ : Tr) (ht : K t = 7) (hT : TP K Q (.branch q tl_ tr_) (some q)) (hn : (ino (.branch q tl_ tr_)).Nodup) (hW : WT I (.branch q tl_ tr_)) (hsz : sz (.branch q tl_ tr_) < 1000) : XM l yX7_balanced cX7_balanced 3 (some (.object "ScapegoatSpur$Node")) rm_X7_balanced G Rq [.ref t, .ref q] (K, N, I, Q, J) (fun r S1 => ∃ I1 Q1, S1 = (K, N, I1, Q1, J) ∧ TP K Q1 (balT (.branch q tl_ tr_)) r ∧ WT I1 (balT (.branch q tl_ tr_)) ∧ (∀ x j, ¬ (x ∈ ino (.branch q tl_ tr_) ∧ j = 2) → ¬ (x = t ∧ j = 2) → I1 x j = I x j) ∧ (∀ x, x ∉ ino (.branch q tl_ tr_) → Q1 x = Q x) ∧ I1 t 2 = I t 2 + nI (balN (.branch q tl_ tr_))) := by
  refine x_metq (lv := [_, _, _]) (by decide +kernel) (x_cc (by first | rfl | exact x_crf _) (x_cc (by first | rfl | exact x_crf _) x_cn)) (Nat.le_of_ble_eq_true rfl) rfl ?_
  intro pP eE sS mM aA bB hH cC Z C hini ret
  obtain ⟨-, hq3, hTl, hTr⟩ := hT
  obtain ⟨hWq, hWl, hWr⟩ := hW
  simp only [sz] at hsz
  refine x_aload_n C D_X7_balanced_0.1 rfl rfl (by first | exact Or.inr ⟨_, rfl⟩ | exact va_rf_or _ | exact Or.inl rfl) ?_
  refine x_getQ C (ci := 2) (k0 := 4) hq3 (by decide) rfl (by decide) in_X3 k_623 rfl rfl D_X7_balanced_0.2.1 ?_
  refine x_eqq _ (rfl : Q q 4 = Q q 4) ?_
  refine x_callSi C (y := yX7_loadOf) (c_X7_loadOf l G (Q q 4) (sz tr_) (fun z hz => by have h7 := hTr; rw [hz] at h7; obtain ⟨_, _, _, hk, _⟩ := h7.some; exact hk) (wOf_TP hTr hWr)) k_312 k_313 k_64 k_314 hd_X7_loadOf ⟨(Nat.le_of_ble_eq_true rfl), (Nat.le_of_ble_eq_true rfl)⟩ rfl (by first | exact Nat.le_of_ble_eq_true rfl | simp [x_crf, Value.category]) rfl rfl D_X7_balanced_0.2.2.1 ⟨(Nat.le_of_ble_eq_true rfl), (Nat.le_of_ble_eq_true rfl)⟩ (fun r_4 S_4 h_4 => ?_)
  obtain ⟨rfl, rfl⟩ := h_4
  refine x_iconst C (v := nI 3) D_X7_balanced_0.2.2.2.1 (by decide +kernel) ?_
  refine x_aload_n C D_X7_balanced_0.2.2.2.2.1 rfl rfl (by first | exact Or.inr ⟨_, rfl⟩ | exact va_rf_or _ | exact Or.inl rfl) ?_
  refine x_getQ C (ci := 2) (k0 := 3) hq3 (by decide) rfl (by decide) in_X3 k_620 rfl rfl D_X7_balanced_0.2.2.2.2.2.1 ?_
  refine x_eqq _ (rfl : Q q 3 = Q q 3) ?_
  refine x_callSi C (y := yX7_loadOf) (c_X7_loadOf l G (Q q 3) (sz tl_) (fun z hz => by have h7 := hTl; rw [hz] at h7; obtain ⟨_, _, _, hk, _⟩ := h7.some; exact hk) (wOf_TP hTl hWl)) k_312 k_313 k_64 k_314 hd_X7_loadOf ⟨(Nat.le_of_ble_eq_true rfl), (Nat.le_of_ble_eq_true rfl)⟩ rfl (by first | exact Nat.le_of_ble_eq_true rfl | simp [x_crf, Value.category]) rfl rfl D_X7_balanced_0.2.2.2.2.2.2.1 ⟨(Nat.le_of_ble_eq_true rfl), (Nat.le_of_ble_eq_true rfl)⟩ (fun r_12 S_12 h_12 => ?_)
  obtain ⟨rfl, rfl⟩ := h_12
  refine x_imul C D_X7_balanced_0.2.2.2.2.2.2.2.1 ?_
  refine x_eqi _ (pk_mul _ _) ?_
  refine x_icmp_le C 62 D_X7_balanced_0.2.2.2.2.2.2.2.2.1 (by decide) (fun c_16 => ?_) (fun c_16 => ?_)
  · skip
    have c1_16 : ¬ 3 * (sz tl_ + 1) < sz tr_ + 1 := by
      have h9 := (nI_leI (by omega) (by omega)).mp c_16
      omega
    refine x_aload_n C D_X7_balanced_2.2.2.2.2.2.2.2.2.1 rfl rfl (by first | exact Or.inr ⟨_, rfl⟩ | exact va_rf_or _ | exact Or.inl rfl) ?_
    refine x_getQ C (ci := 2) (k0 := 3) hq3 (by decide) rfl (by decide) in_X3 k_620 rfl rfl D_X7_balanced_2.2.2.2.2.2.2.2.2.2.1 ?_
    refine x_eqq _ (rfl : Q q 3 = Q q 3) ?_
    refine x_callSi C (y := yX7_loadOf) (c_X7_loadOf l G (Q q 3) (sz tl_) (fun z hz => by have h7 := hTl; rw [hz] at h7; obtain ⟨_, _, _, hk, _⟩ := h7.some; exact hk) (wOf_TP hTl hWl)) k_312 k_313 k_64 k_314 hd_X7_loadOf ⟨(Nat.le_of_ble_eq_true rfl), (Nat.le_of_ble_eq_true rfl)⟩ rfl (by first | exact Nat.le_of_ble_eq_true rfl | simp [x_crf, Value.category]) rfl rfl D_X7_balanced_2.2.2.2.2.2.2.2.2.2.2.1 ⟨(Nat.le_of_ble_eq_true rfl), (Nat.le_of_ble_eq_true rfl)⟩ (fun r_66 S_66 h_66 => ?_)
    obtain ⟨rfl, rfl⟩ := h_66
    refine x_iconst C (v := nI 3) D_X7_balanced_2.2.2.2.2.2.2.2.2.2.2.2 (by decide +kernel) ?_
    refine x_aload_n C D_X7_balanced_3.1 rfl rfl (by first | exact Or.inr ⟨_, rfl⟩ | exact va_rf_or _ | exact Or.inl rfl) ?_
    refine x_getQ C (ci := 2) (k0 := 4) hq3 (by decide) rfl (by decide) in_X3 k_623 rfl rfl D_X7_balanced_3.2.1 ?_
    refine x_eqq _ (rfl : Q q 4 = Q q 4) ?_
    refine x_callSi C (y := yX7_loadOf) (c_X7_loadOf l G (Q q 4) (sz tr_) (fun z hz => by have h7 := hTr; rw [hz] at h7; obtain ⟨_, _, _, hk, _⟩ := h7.some; exact hk) (wOf_TP hTr hWr)) k_312 k_313 k_64 k_314 hd_X7_loadOf ⟨(Nat.le_of_ble_eq_true rfl), (Nat.le_of_ble_eq_true rfl)⟩ rfl (by first | exact Nat.le_of_ble_eq_true rfl | simp [x_crf, Value.category]) rfl rfl D_X7_balanced_3.2.2.1 ⟨(Nat.le_of_ble_eq_true rfl), (Nat.le_of_ble_eq_true rfl)⟩ (fun r_74 S_74 h_74 => ?_)
    obtain ⟨rfl, rfl⟩ := h_74
    refine x_imul C D_X7_balanced_3.2.2.2.1 ?_
    refine x_eqi _ (pk_mul _ _) ?_
    refine x_icmp_le C 124 D_X7_balanced_3.2.2.2.2.1 (by decide) (fun c_78 => ?_) (fun c_78 => ?_)
    · skip
      have c1_78 : ¬ 3 * (sz tr_ + 1) < sz tl_ + 1 := by
        have h9 := (nI_leI (by omega) (by omega)).mp c_78
        omega
      refine x_aload_n C D_X7_balanced_5.2.2.2.2.1 rfl rfl (by first | exact Or.inr ⟨_, rfl⟩ | exact va_rf_or _ | exact Or.inl rfl) ?_
      refine ret _ _ _ _ _ _ _ ⟨_, rfl⟩ D_X7_balanced_5.2.2.2.2.2 (Nat.le_of_ble_eq_true rfl) (Nat.le_of_ble_eq_true rfl) (by first | exact rfl | exact (rfl : _ = va_rf (some _)) | exact (rfl : _ = va_rf none)) ?_
      have e : balT (.branch q tl_ tr_) = .branch q tl_ tr_ := by simp only [balT]; rw [if_neg c1_16, if_neg c1_78]
      have en : balN (.branch q tl_ tr_) = 0 := by simp only [balN]; rw [if_neg c1_16, if_neg c1_78]
      rw [e, en]
      exact ⟨I, Q, rfl, ⟨rfl, hq3, hTl, hTr⟩, ⟨hWq, hWl, hWr⟩, fun x j _ _ => rfl, fun x _ => rfl, by simp [nI_0]⟩
    · skip
      have c1_78 : 3 * (sz tr_ + 1) < sz tl_ + 1 := by
        rcases Nat.lt_or_ge (3 * (sz tr_ + 1)) (sz tl_ + 1) with h | h
        · exact h
        · exact absurd ((nI_leI (by omega) (by omega)).mpr h) c_78
      obtain ⟨c0, ta, tb, rfl⟩ := sz_pos (t := tl_) (by omega)
      obtain ⟨hQ4, hc3, hTa, hTb⟩ := hTl
      obtain ⟨wc, wa, wb⟩ := hWl
      simp only [sz] at c1_16 c1_78 hsz
      refine x_aload_n C D_X7_balanced_3.2.2.2.2.2.1 rfl rfl (by first | exact Or.inr ⟨_, rfl⟩ | exact va_rf_or _ | exact Or.inl rfl) ?_
      refine x_getQ C (ci := 2) (k0 := 3) hq3 (by decide) rfl (by decide) in_X3 k_620 rfl rfl D_X7_balanced_3.2.2.2.2.2.2.1 ?_
      refine x_eqr hQ4 ?_
      refine x_astore_n C (lv' := [_, _, _]) D_X7_balanced_3.2.2.2.2.2.2.2.1 rfl (Nat.le_of_ble_eq_true rfl) (by first | rfl | exact x_ok_q rfl) (by first | exact Or.inr ⟨_, rfl⟩ | exact va_rf_or _ | exact Or.inl rfl) rfl ?_
      refine x_aload_n C D_X7_balanced_3.2.2.2.2.2.2.2.2.1 rfl rfl (by first | exact Or.inr ⟨_, rfl⟩ | exact va_rf_or _ | exact Or.inl rfl) ?_
      refine x_eqq2 (some c0) rfl ?_
      refine x_ifnull C 118 D_X7_balanced_3.2.2.2.2.2.2.2.2.2.1 (by decide) (fun e_87 => ?_) (fun c9 e_87 => ?_)
      · skip
        exact absurd e_87 (by simp)
        --end
      · skip
        obtain rfl : c0 = c9 := Option.some.inj e_87
        refine x_aload_n C D_X7_balanced_3.2.2.2.2.2.2.2.2.2.2.1 rfl rfl (by first | exact Or.inr ⟨_, rfl⟩ | exact va_rf_or _ | exact Or.inl rfl) ?_
        refine x_getQ C (ci := 2) (k0 := 4) hc3 (by decide) rfl (by decide) in_X3 k_623 rfl rfl D_X7_balanced_3.2.2.2.2.2.2.2.2.2.2.2 ?_
        refine x_eqq _ (rfl : Q c0 4 = Q c0 4) ?_
        refine x_callSi C (y := yX7_loadOf) (c_X7_loadOf l G (Q c0 4) (sz tb) (fun z hz => by have h7 := hTb; rw [hz] at h7; obtain ⟨_, _, _, hk, _⟩ := h7.some; exact hk) (wOf_TP hTb wb)) k_312 k_313 k_64 k_314 hd_X7_loadOf ⟨(Nat.le_of_ble_eq_true rfl), (Nat.le_of_ble_eq_true rfl)⟩ rfl (by first | exact Nat.le_of_ble_eq_true rfl | simp [x_crf, Value.category]) rfl rfl D_X7_balanced_4.1 ⟨(Nat.le_of_ble_eq_true rfl), (Nat.le_of_ble_eq_true rfl)⟩ (fun r_94 S_94 h_94 => ?_)
        obtain ⟨rfl, rfl⟩ := h_94
        refine x_iconst C (v := nI 2) D_X7_balanced_4.2.1 (by decide +kernel) ?_
        refine x_aload_n C D_X7_balanced_4.2.2.1 rfl rfl (by first | exact Or.inr ⟨_, rfl⟩ | exact va_rf_or _ | exact Or.inl rfl) ?_
        refine x_getQ C (ci := 2) (k0 := 3) hc3 (by decide) rfl (by decide) in_X3 k_620 rfl rfl D_X7_balanced_4.2.2.2.1 ?_
        refine x_eqq _ (rfl : Q c0 3 = Q c0 3) ?_
        refine x_callSi C (y := yX7_loadOf) (c_X7_loadOf l G (Q c0 3) (sz ta) (fun z hz => by have h7 := hTa; rw [hz] at h7; obtain ⟨_, _, _, hk, _⟩ := h7.some; exact hk) (wOf_TP hTa wa)) k_312 k_313 k_64 k_314 hd_X7_loadOf ⟨(Nat.le_of_ble_eq_true rfl), (Nat.le_of_ble_eq_true rfl)⟩ rfl (by first | exact Nat.le_of_ble_eq_true rfl | simp [x_crf, Value.category]) rfl rfl D_X7_balanced_4.2.2.2.2.1 ⟨(Nat.le_of_ble_eq_true rfl), (Nat.le_of_ble_eq_true rfl)⟩ (fun r_102 S_102 h_102 => ?_)
        obtain ⟨rfl, rfl⟩ := h_102
        refine x_imul C D_X7_balanced_4.2.2.2.2.2.1 ?_
        refine x_eqi _ (pk_mul _ _) ?_
        refine x_icmp_lt C 118 D_X7_balanced_4.2.2.2.2.2.2.1 (by decide) (fun c_106 => ?_) (fun c_106 => ?_)
        · skip
          have c1_106 : ¬ 2 * (sz ta + 1) ≤ sz tb + 1 := by
            have h9 := (nI_ltI (by omega) (by omega)).mp c_106
            omega
          refine x_aload_n C D_X7_balanced_5.1 rfl rfl (by first | exact Or.inr ⟨_, rfl⟩ | exact va_rf_or _ | exact Or.inl rfl) ?_
          refine x_aload_n C D_X7_balanced_5.2.1 rfl rfl (by first | exact Or.inr ⟨_, rfl⟩ | exact va_rf_or _ | exact Or.inl rfl) ?_
          refine x_callVq C (y := yX7_turnedRight) (c_X7_turnedRight l G t q c0 tr_ ta tb ht ⟨rfl, hq3, ⟨hQ4, hc3, hTa, hTb⟩, hTr⟩ hn hWr wa wb) (ci := 6) (by assumption) (by decide) rfl rfl k_315 k_317 k_26 k_64 k_318 hd_X7_turnedRight ⟨(Nat.le_of_ble_eq_true rfl), (Nat.le_of_ble_eq_true rfl)⟩ rfl (by first | exact Nat.le_of_ble_eq_true rfl | simp [x_crf, Value.category]) rfl rfl D_X7_balanced_5.2.2.1 ⟨(Nat.le_of_ble_eq_true rfl), (Nat.le_of_ble_eq_true rfl)⟩ (fun r_120 S_120 h_120 => ?_)
          obtain ⟨rfl, I3, Q3, rfl, b1, b2, b3, b4, b5⟩ := h_120
          refine ret _ _ _ _ _ _ _ ⟨_, rfl⟩ D_X7_balanced_5.2.2.2.1 (Nat.le_of_ble_eq_true rfl) (Nat.le_of_ble_eq_true rfl) (by first | exact rfl | exact (rfl : _ = va_rf (some _)) | exact (rfl : _ = va_rf none)) ?_
          obtain ⟨e, en⟩ : balT (.branch q (.branch c0 ta tb) tr_) = .branch c0 ta (.branch q tb tr_) ∧ balN (.branch q (.branch c0 ta tb) tr_) = 1 := balT_LS c1_16 c1_78 c1_106
          rw [e, en]
          exact ⟨I3, Q3, rfl, b1, b2, fun x j h1 h2 => b3 x j (fun e => h1 ⟨by rw [e.1]; simp [ino], e.2⟩) (fun e => h1 ⟨by rw [e.1]; simp [ino], e.2⟩) h2, fun x h1 => b4 x (fun e => h1 (by rw [e]; simp [ino])) (fun e => h1 (by rw [e]; simp [ino])), b5⟩
        · skip
          have c1_106 : 2 * (sz ta + 1) ≤ sz tb + 1 := by
            rcases Nat.lt_or_ge (sz tb + 1) (2 * (sz ta + 1)) with h | h
            · exact absurd ((nI_ltI (by omega) (by omega)).mpr h) c_106
            · exact h
          obtain ⟨e0, t1, t2, rfl⟩ := sz_pos (t := tb) (by omega)
          refine x_aload_n C D_X7_balanced_4.2.2.2.2.2.2.2.1 rfl rfl (by first | exact Or.inr ⟨_, rfl⟩ | exact va_rf_or _ | exact Or.inl rfl) ?_
          refine x_aload_n C D_X7_balanced_4.2.2.2.2.2.2.2.2.1 rfl rfl (by first | exact Or.inr ⟨_, rfl⟩ | exact va_rf_or _ | exact Or.inl rfl) ?_
          refine x_aload_n C D_X7_balanced_4.2.2.2.2.2.2.2.2.2.1 rfl rfl (by first | exact Or.inr ⟨_, rfl⟩ | exact va_rf_or _ | exact Or.inl rfl) ?_
          refine x_callVq C (y := yX7_turnedLeft) (c_X7_turnedLeft l G t c0 e0 ta t1 t2 ht ⟨rfl, hc3, hTa, hTb⟩ (by simp only [ino, List.append_assoc, List.cons_append, List.nodup_append, List.nodup_cons, List.mem_append, List.mem_cons, not_or] at hn ⊢; grind) wa wb.2.1 wb.2.2) (ci := 6) (by assumption) (by decide) rfl rfl k_319 k_321 k_27 k_64 k_322 hd_X7_turnedLeft ⟨(Nat.le_of_ble_eq_true rfl), (Nat.le_of_ble_eq_true rfl)⟩ rfl (by first | exact Nat.le_of_ble_eq_true rfl | simp [x_crf, Value.category]) rfl rfl D_X7_balanced_4.2.2.2.2.2.2.2.2.2.2.1 ⟨(Nat.le_of_ble_eq_true rfl), (Nat.le_of_ble_eq_true rfl)⟩ (fun r_112 S_112 h_112 => ?_)
          obtain ⟨rfl, I1, Q1, rfl, a1, a2, a3, a4, a5⟩ := h_112
          have hqe : ∀ x ∈ ino (.branch c0 ta (.branch e0 t1 t2)), x ≠ q := by
            simp only [ino, List.append_assoc, List.cons_append, List.nodup_append, List.nodup_cons, List.mem_append, List.mem_cons, not_or] at hn ⊢
            grind
          have hqo : ∀ x ∈ ino tr_, x ≠ q ∧ x ∉ ino (.branch c0 ta (.branch e0 t1 t2)) := by
            simp only [ino, List.append_assoc, List.cons_append, List.nodup_append, List.nodup_cons, List.mem_append, List.mem_cons, not_or] at hn ⊢
            grind
          have htn : ∀ x, K x = 3 → x ≠ t := fun x hx e => by rw [e, ht] at hx; omega
          have hcm : c0 ∈ ino (.branch c0 ta (.branch e0 t1 t2)) ∧ e0 ∈ ino (.branch c0 ta (.branch e0 t1 t2)) := by simp [ino]
          refine x_putQ C (ci := 2) (k0 := 3) hq3 (by decide) rfl (by decide) in_X3 k_620 rfl tyX3 tyX3_ok nmX3 rfl (by first | exact rfl | exact (rfl : _ = va_rf (some _)) | exact (rfl : _ = va_rf none)) (by rfl) (by first | rfl | exact x_narq _ _) (by first | rfl | exact x_fitq _ _) rfl D_X7_balanced_4.2.2.2.2.2.2.2.2.2.2.2 (fun Q2 eQ2 => ?_)
          have q2 : ∀ x, x ≠ q → Q2 x = Q1 x := fun x hx => by rw [eQ2, x_u2_a _ _ hx]
          have hT2 : TP K Q2 (.branch q (.branch e0 (.branch c0 ta t1) t2) tr_) (some q) := by
            have hqc := hqe c0 hcm.1
            have hqe0 := hqe e0 hcm.2
            refine ⟨rfl, hq3, ?_, ?_⟩
            · rw [eQ2, x_u2_s]
              refine a1.congr (fun x hx => ?_)
              rw [x_u2_a _ _ (hqe x (by simp [ino] at hx ⊢; grind))]; exact ⟨rfl, rfl, rfl⟩
            · rw [eQ2, x_u2_j _ _ (by omega), a4 q (fun e => hqc e.symm) (fun e => hqe0 e.symm)]
              refine hTr.congr (fun x hx => ?_)
              have h9 := hqo x hx
              rw [x_u2_a _ _ h9.1, a4 x (fun e => h9.2 (e ▸ hcm.1)) (fun e => h9.2 (e ▸ hcm.2))]; exact ⟨rfl, rfl, rfl⟩
          have hW2 : WT I1 tr_ := hWr.congr (fun x hx => a3 x 2 (fun e => (hqo x hx).2 (e.1 ▸ hcm.1)) (fun e => (hqo x hx).2 (e.1 ▸ hcm.2)) (fun e => htn x (hTr.kind x hx) e.1))
          refine x_aload_n C D_X7_balanced_5.1 rfl rfl (by first | exact Or.inr ⟨_, rfl⟩ | exact va_rf_or _ | exact Or.inl rfl) ?_
          refine x_aload_n C D_X7_balanced_5.2.1 rfl rfl (by first | exact Or.inr ⟨_, rfl⟩ | exact va_rf_or _ | exact Or.inl rfl) ?_
          refine x_callVq C (y := yX7_turnedRight) (c_X7_turnedRight l G t q e0 tr_ (.branch c0 ta t1) t2 ht hT2 (by simp only [ino, List.append_assoc, List.cons_append, List.nodup_append, List.nodup_cons, List.mem_append, List.mem_cons, not_or] at hn ⊢; grind) hW2 a2.2.1 a2.2.2) (ci := 6) (by assumption) (by decide) rfl rfl k_315 k_317 k_26 k_64 k_318 hd_X7_turnedRight ⟨(Nat.le_of_ble_eq_true rfl), (Nat.le_of_ble_eq_true rfl)⟩ rfl (by first | exact Nat.le_of_ble_eq_true rfl | simp [x_crf, Value.category]) rfl rfl D_X7_balanced_5.2.2.1 ⟨(Nat.le_of_ble_eq_true rfl), (Nat.le_of_ble_eq_true rfl)⟩ (fun r_120 S_120 h_120 => ?_)
          obtain ⟨rfl, I3, Q3, rfl, b1, b2, b3, b4, b5⟩ := h_120
          refine ret _ _ _ _ _ _ _ ⟨_, rfl⟩ D_X7_balanced_5.2.2.2.1 (Nat.le_of_ble_eq_true rfl) (Nat.le_of_ble_eq_true rfl) (by first | exact rfl | exact (rfl : _ = va_rf (some _)) | exact (rfl : _ = va_rf none)) ?_
          obtain ⟨e, en⟩ : balT (.branch q (.branch c0 ta (.branch e0 t1 t2)) tr_) = .branch e0 (.branch c0 ta t1) (.branch q t2 tr_) ∧ balN (.branch q (.branch c0 ta (.branch e0 t1 t2)) tr_) = 2 := balT_LD c1_16 c1_78 c1_106
          rw [e, en]
          refine ⟨I3, Q3, rfl, b1, b2, fun x j h1 h2 => ?_, fun x h1 => ?_, ?_⟩
          · rw [b3 x j (fun e => h1 ⟨by rw [e.1]; simp [ino], e.2⟩) (fun e => h1 ⟨by rw [e.1]; simp [ino], e.2⟩) h2]
            exact a3 x j (fun e => h1 ⟨by rw [e.1]; simp [ino], e.2⟩) (fun e => h1 ⟨by rw [e.1]; simp [ino], e.2⟩) h2
          · have hxq : x ≠ q := fun e => h1 (by rw [e]; simp [ino])
            rw [b4 x hxq (fun e => h1 (by rw [e]; simp [ino])), q2 x hxq]
            exact a4 x (fun e => h1 (by rw [e]; simp [ino])) (fun e => h1 (by rw [e]; simp [ino]))
          · rw [b5, a5, Int32.add_assoc, nI_add]
  · skip
    have c1_16 : 3 * (sz tl_ + 1) < sz tr_ + 1 := by
      rcases Nat.lt_or_ge (3 * (sz tl_ + 1)) (sz tr_ + 1) with h | h
      · exact h
      · exact absurd ((nI_leI (by omega) (by omega)).mpr h) c_16
    obtain ⟨c0, ta, tb, rfl⟩ := sz_pos (t := tr_) (by omega)
    obtain ⟨hQ4, hc3, hTa, hTb⟩ := hTr
    obtain ⟨wc, wa, wb⟩ := hWr
    simp only [sz] at c1_16 hsz
    refine x_aload_n C D_X7_balanced_0.2.2.2.2.2.2.2.2.2.1 rfl rfl (by first | exact Or.inr ⟨_, rfl⟩ | exact va_rf_or _ | exact Or.inl rfl) ?_
    refine x_getQ C (ci := 2) (k0 := 4) hq3 (by decide) rfl (by decide) in_X3 k_623 rfl rfl D_X7_balanced_0.2.2.2.2.2.2.2.2.2.2.1 ?_
    refine x_eqr hQ4 ?_
    refine x_astore_n C (lv' := [_, _, _]) D_X7_balanced_0.2.2.2.2.2.2.2.2.2.2.2 rfl (Nat.le_of_ble_eq_true rfl) (by first | rfl | exact x_ok_q rfl) (by first | exact Or.inr ⟨_, rfl⟩ | exact va_rf_or _ | exact Or.inl rfl) rfl ?_
    refine x_aload_n C D_X7_balanced_1.1 rfl rfl (by first | exact Or.inr ⟨_, rfl⟩ | exact va_rf_or _ | exact Or.inl rfl) ?_
    refine x_eqq2 (some c0) rfl ?_
    refine x_ifnull C 56 D_X7_balanced_1.2.1 (by decide) (fun e_25 => ?_) (fun c9 e_25 => ?_)
    · skip
      exact absurd e_25 (by simp)
      --end
    · skip
      obtain rfl : c0 = c9 := Option.some.inj e_25
      refine x_aload_n C D_X7_balanced_1.2.2.1 rfl rfl (by first | exact Or.inr ⟨_, rfl⟩ | exact va_rf_or _ | exact Or.inl rfl) ?_
      refine x_getQ C (ci := 2) (k0 := 3) hc3 (by decide) rfl (by decide) in_X3 k_620 rfl rfl D_X7_balanced_1.2.2.2.1 ?_
      refine x_eqq _ (rfl : Q c0 3 = Q c0 3) ?_
      refine x_callSi C (y := yX7_loadOf) (c_X7_loadOf l G (Q c0 3) (sz ta) (fun z hz => by have h7 := hTa; rw [hz] at h7; obtain ⟨_, _, _, hk, _⟩ := h7.some; exact hk) (wOf_TP hTa wa)) k_312 k_313 k_64 k_314 hd_X7_loadOf ⟨(Nat.le_of_ble_eq_true rfl), (Nat.le_of_ble_eq_true rfl)⟩ rfl (by first | exact Nat.le_of_ble_eq_true rfl | simp [x_crf, Value.category]) rfl rfl D_X7_balanced_1.2.2.2.2.1 ⟨(Nat.le_of_ble_eq_true rfl), (Nat.le_of_ble_eq_true rfl)⟩ (fun r_32 S_32 h_32 => ?_)
      obtain ⟨rfl, rfl⟩ := h_32
      refine x_iconst C (v := nI 2) D_X7_balanced_1.2.2.2.2.2.1 (by decide +kernel) ?_
      refine x_aload_n C D_X7_balanced_1.2.2.2.2.2.2.1 rfl rfl (by first | exact Or.inr ⟨_, rfl⟩ | exact va_rf_or _ | exact Or.inl rfl) ?_
      refine x_getQ C (ci := 2) (k0 := 4) hc3 (by decide) rfl (by decide) in_X3 k_623 rfl rfl D_X7_balanced_1.2.2.2.2.2.2.2.1 ?_
      refine x_eqq _ (rfl : Q c0 4 = Q c0 4) ?_
      refine x_callSi C (y := yX7_loadOf) (c_X7_loadOf l G (Q c0 4) (sz tb) (fun z hz => by have h7 := hTb; rw [hz] at h7; obtain ⟨_, _, _, hk, _⟩ := h7.some; exact hk) (wOf_TP hTb wb)) k_312 k_313 k_64 k_314 hd_X7_loadOf ⟨(Nat.le_of_ble_eq_true rfl), (Nat.le_of_ble_eq_true rfl)⟩ rfl (by first | exact Nat.le_of_ble_eq_true rfl | simp [x_crf, Value.category]) rfl rfl D_X7_balanced_1.2.2.2.2.2.2.2.2.1 ⟨(Nat.le_of_ble_eq_true rfl), (Nat.le_of_ble_eq_true rfl)⟩ (fun r_40 S_40 h_40 => ?_)
      obtain ⟨rfl, rfl⟩ := h_40
      refine x_imul C D_X7_balanced_1.2.2.2.2.2.2.2.2.2.1 ?_
      refine x_eqi _ (pk_mul _ _) ?_
      refine x_icmp_lt C 56 D_X7_balanced_1.2.2.2.2.2.2.2.2.2.2.1 (by decide) (fun c_44 => ?_) (fun c_44 => ?_)
      · skip
        have c1_44 : ¬ 2 * (sz tb + 1) ≤ sz ta + 1 := by
          have h9 := (nI_ltI (by omega) (by omega)).mp c_44
          omega
        refine x_aload_n C D_X7_balanced_2.2.2.2.2.1 rfl rfl (by first | exact Or.inr ⟨_, rfl⟩ | exact va_rf_or _ | exact Or.inl rfl) ?_
        refine x_aload_n C D_X7_balanced_2.2.2.2.2.2.1 rfl rfl (by first | exact Or.inr ⟨_, rfl⟩ | exact va_rf_or _ | exact Or.inl rfl) ?_
        refine x_callVq C (y := yX7_turnedLeft) (c_X7_turnedLeft l G t q c0 tl_ ta tb ht ⟨rfl, hq3, hTl, hQ4, hc3, hTa, hTb⟩ hn hWl wa wb) (ci := 6) (by assumption) (by decide) rfl rfl k_319 k_321 k_27 k_64 k_322 hd_X7_turnedLeft ⟨(Nat.le_of_ble_eq_true rfl), (Nat.le_of_ble_eq_true rfl)⟩ rfl (by first | exact Nat.le_of_ble_eq_true rfl | simp [x_crf, Value.category]) rfl rfl D_X7_balanced_2.2.2.2.2.2.2.1 ⟨(Nat.le_of_ble_eq_true rfl), (Nat.le_of_ble_eq_true rfl)⟩ (fun r_58 S_58 h_58 => ?_)
        obtain ⟨rfl, I3, Q3, rfl, b1, b2, b3, b4, b5⟩ := h_58
        refine ret _ _ _ _ _ _ _ ⟨_, rfl⟩ D_X7_balanced_2.2.2.2.2.2.2.2.1 (Nat.le_of_ble_eq_true rfl) (Nat.le_of_ble_eq_true rfl) (by first | exact rfl | exact (rfl : _ = va_rf (some _)) | exact (rfl : _ = va_rf none)) ?_
        obtain ⟨e, en⟩ : balT (.branch q tl_ (.branch c0 ta tb)) = .branch c0 (.branch q tl_ ta) tb ∧ balN (.branch q tl_ (.branch c0 ta tb)) = 1 := balT_RS c1_16 c1_44
        rw [e, en]
        exact ⟨I3, Q3, rfl, b1, b2, fun x j h1 h2 => b3 x j (fun e => h1 ⟨by rw [e.1]; simp [ino], e.2⟩) (fun e => h1 ⟨by rw [e.1]; simp [ino], e.2⟩) h2, fun x h1 => b4 x (fun e => h1 (by rw [e]; simp [ino])) (fun e => h1 (by rw [e]; simp [ino])), b5⟩
      · skip
        have c1_44 : 2 * (sz tb + 1) ≤ sz ta + 1 := by
          rcases Nat.lt_or_ge (sz ta + 1) (2 * (sz tb + 1)) with h | h
          · exact absurd ((nI_ltI (by omega) (by omega)).mpr h) c_44
          · exact h
        obtain ⟨e0, t1, t2, rfl⟩ := sz_pos (t := ta) (by omega)
        refine x_aload_n C D_X7_balanced_1.2.2.2.2.2.2.2.2.2.2.2 rfl rfl (by first | exact Or.inr ⟨_, rfl⟩ | exact va_rf_or _ | exact Or.inl rfl) ?_
        refine x_aload_n C D_X7_balanced_2.1 rfl rfl (by first | exact Or.inr ⟨_, rfl⟩ | exact va_rf_or _ | exact Or.inl rfl) ?_
        refine x_aload_n C D_X7_balanced_2.2.1 rfl rfl (by first | exact Or.inr ⟨_, rfl⟩ | exact va_rf_or _ | exact Or.inl rfl) ?_
        refine x_callVq C (y := yX7_turnedRight) (c_X7_turnedRight l G t c0 e0 tb t1 t2 ht ⟨rfl, hc3, hTa, hTb⟩ (by simp only [ino, List.append_assoc, List.cons_append, List.nodup_append, List.nodup_cons, List.mem_append, List.mem_cons, not_or] at hn ⊢; grind) wb wa.2.1 wa.2.2) (ci := 6) (by assumption) (by decide) rfl rfl k_315 k_317 k_26 k_64 k_318 hd_X7_turnedRight ⟨(Nat.le_of_ble_eq_true rfl), (Nat.le_of_ble_eq_true rfl)⟩ rfl (by first | exact Nat.le_of_ble_eq_true rfl | simp [x_crf, Value.category]) rfl rfl D_X7_balanced_2.2.2.1 ⟨(Nat.le_of_ble_eq_true rfl), (Nat.le_of_ble_eq_true rfl)⟩ (fun r_50 S_50 h_50 => ?_)
        obtain ⟨rfl, I1, Q1, rfl, a1, a2, a3, a4, a5⟩ := h_50
        have hqe : ∀ x ∈ ino (.branch c0 (.branch e0 t1 t2) tb), x ≠ q := by
          simp only [ino, List.append_assoc, List.cons_append, List.nodup_append, List.nodup_cons, List.mem_append, List.mem_cons, not_or] at hn ⊢
          grind
        have hqo : ∀ x ∈ ino tl_, x ≠ q ∧ x ∉ ino (.branch c0 (.branch e0 t1 t2) tb) := by
          simp only [ino, List.append_assoc, List.cons_append, List.nodup_append, List.nodup_cons, List.mem_append, List.mem_cons, not_or] at hn ⊢
          grind
        have htn : ∀ x, K x = 3 → x ≠ t := fun x hx e => by rw [e, ht] at hx; omega
        have hcm : c0 ∈ ino (.branch c0 (.branch e0 t1 t2) tb) ∧ e0 ∈ ino (.branch c0 (.branch e0 t1 t2) tb) := by simp [ino]
        refine x_putQ C (ci := 2) (k0 := 4) hq3 (by decide) rfl (by decide) in_X3 k_623 rfl tyX3 tyX3_ok nmX3 rfl (by first | exact rfl | exact (rfl : _ = va_rf (some _)) | exact (rfl : _ = va_rf none)) (by rfl) (by first | rfl | exact x_narq _ _) (by first | rfl | exact x_fitq _ _) rfl D_X7_balanced_2.2.2.2.1 (fun Q2 eQ2 => ?_)
        have q2 : ∀ x, x ≠ q → Q2 x = Q1 x := fun x hx => by rw [eQ2, x_u2_a _ _ hx]
        have hT2 : TP K Q2 (.branch q tl_ (.branch e0 t1 (.branch c0 t2 tb))) (some q) := by
          have hqc := hqe c0 hcm.1
          have hqe0 := hqe e0 hcm.2
          refine ⟨rfl, hq3, ?_, ?_⟩
          · rw [eQ2, x_u2_j _ _ (by omega), a4 q (fun e => hqc e.symm) (fun e => hqe0 e.symm)]
            refine hTl.congr (fun x hx => ?_)
            have h9 := hqo x hx
            rw [x_u2_a _ _ h9.1, a4 x (fun e => h9.2 (e ▸ hcm.1)) (fun e => h9.2 (e ▸ hcm.2))]; exact ⟨rfl, rfl, rfl⟩
          · rw [eQ2, x_u2_s]
            refine a1.congr (fun x hx => ?_)
            rw [x_u2_a _ _ (hqe x (by simp [ino] at hx ⊢; grind))]; exact ⟨rfl, rfl, rfl⟩
        have hW2 : WT I1 tl_ := hWl.congr (fun x hx => a3 x 2 (fun e => (hqo x hx).2 (e.1 ▸ hcm.1)) (fun e => (hqo x hx).2 (e.1 ▸ hcm.2)) (fun e => htn x (hTl.kind x hx) e.1))
        refine x_aload_n C D_X7_balanced_2.2.2.2.2.1 rfl rfl (by first | exact Or.inr ⟨_, rfl⟩ | exact va_rf_or _ | exact Or.inl rfl) ?_
        refine x_aload_n C D_X7_balanced_2.2.2.2.2.2.1 rfl rfl (by first | exact Or.inr ⟨_, rfl⟩ | exact va_rf_or _ | exact Or.inl rfl) ?_
        refine x_callVq C (y := yX7_turnedLeft) (c_X7_turnedLeft l G t q e0 tl_ t1 (.branch c0 t2 tb) ht hT2 (by simp only [ino, List.append_assoc, List.cons_append, List.nodup_append, List.nodup_cons, List.mem_append, List.mem_cons, not_or] at hn ⊢; grind) hW2 a2.2.1 a2.2.2) (ci := 6) (by assumption) (by decide) rfl rfl k_319 k_321 k_27 k_64 k_322 hd_X7_turnedLeft ⟨(Nat.le_of_ble_eq_true rfl), (Nat.le_of_ble_eq_true rfl)⟩ rfl (by first | exact Nat.le_of_ble_eq_true rfl | simp [x_crf, Value.category]) rfl rfl D_X7_balanced_2.2.2.2.2.2.2.1 ⟨(Nat.le_of_ble_eq_true rfl), (Nat.le_of_ble_eq_true rfl)⟩ (fun r_58 S_58 h_58 => ?_)
        obtain ⟨rfl, I3, Q3, rfl, b1, b2, b3, b4, b5⟩ := h_58
        refine ret _ _ _ _ _ _ _ ⟨_, rfl⟩ D_X7_balanced_2.2.2.2.2.2.2.2.1 (Nat.le_of_ble_eq_true rfl) (Nat.le_of_ble_eq_true rfl) (by first | exact rfl | exact (rfl : _ = va_rf (some _)) | exact (rfl : _ = va_rf none)) ?_
        obtain ⟨e, en⟩ : balT (.branch q tl_ (.branch c0 (.branch e0 t1 t2) tb)) = .branch e0 (.branch q tl_ t1) (.branch c0 t2 tb) ∧ balN (.branch q tl_ (.branch c0 (.branch e0 t1 t2) tb)) = 2 := balT_RD c1_16 c1_44
        rw [e, en]
        refine ⟨I3, Q3, rfl, b1, b2, fun x j h1 h2 => ?_, fun x h1 => ?_, ?_⟩
        · rw [b3 x j (fun e => h1 ⟨by rw [e.1]; simp [ino], e.2⟩) (fun e => h1 ⟨by rw [e.1]; simp [ino], e.2⟩) h2]
          exact a3 x j (fun e => h1 ⟨by rw [e.1]; simp [ino], e.2⟩) (fun e => h1 ⟨by rw [e.1]; simp [ino], e.2⟩) h2
        · have hxq : x ≠ q := fun e => h1 (by rw [e]; simp [ino])
          rw [b4 x hxq (fun e => h1 (by rw [e]; simp [ino])), q2 x hxq]
          exact a4 x (fun e => h1 (by rw [e]; simp [ino])) (fun e => h1 (by rw [e]; simp [ino]))
        · rw [b5, a5, Int32.add_assoc, nI_add]
