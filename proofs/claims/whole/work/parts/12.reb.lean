theorem D_X1_boundFor_0 : decode cX1_boundFor 0 = .ok (.ldc2_w 9, 3) ∧ decode cX1_boundFor 3 = .ok (.lstore_n 1, 1) ∧ decode cX1_boundFor 4 = .ok (.ldc2_w 11, 3) ∧ decode cX1_boundFor 7 = .ok (.iload_n 0, 1) ∧ decode cX1_boundFor 8 = .ok (.i2l, 1) ∧ decode cX1_boundFor 9 = .ok (.lmul, 1) ∧ decode cX1_boundFor 10 = .ok (.lstore_n 3, 1) ∧ decode cX1_boundFor 11 = .ok (.iconst 0, 1) ∧ decode cX1_boundFor 12 = .ok (.istore 5, 2) ∧ decode cX1_boundFor 14 = .ok (.iload 5, 2) ∧ decode cX1_boundFor 16 = .ok (.bipush 30, 2) ∧ decode cX1_boundFor 18 = .ok (.if_icmp .ge 27, 3) := by decide +kernel
theorem D_X1_boundFor_1 : decode cX1_boundFor 21 = .ok (.lload_n 1, 1) ∧ decode cX1_boundFor 22 = .ok (.lload_n 3, 1) ∧ decode cX1_boundFor 23 = .ok (.lcmp, 1) ∧ decode cX1_boundFor 24 = .ok (.ifCond .gt 21, 3) ∧ decode cX1_boundFor 27 = .ok (.lload_n 1, 1) ∧ decode cX1_boundFor 28 = .ok (.ldc2_w 9, 3) ∧ decode cX1_boundFor 31 = .ok (.lmul, 1) ∧ decode cX1_boundFor 32 = .ok (.lstore_n 1, 1) ∧ decode cX1_boundFor 33 = .ok (.lload_n 3, 1) ∧ decode cX1_boundFor 34 = .ok (.ldc2_w 11, 3) ∧ decode cX1_boundFor 37 = .ok (.lmul, 1) ∧ decode cX1_boundFor 38 = .ok (.lstore_n 3, 1) := by decide +kernel
theorem D_X1_boundFor_2 : decode cX1_boundFor 39 = .ok (.iinc 5 1, 3) ∧ decode cX1_boundFor 42 = .ok (.goto (-28), 3) ∧ decode cX1_boundFor 45 = .ok (.iload 5, 2) ∧ decode cX1_boundFor 47 = .ok (.ireturn, 1) := by decide +kernel
theorem D_X5_hasHeavyChild_0 : decode cX5_hasHeavyChild 0 = .ok (.aload_n 0, 1) ∧ decode cX5_hasHeavyChild 1 = .ok (.getfield 25, 3) ∧ decode cX5_hasHeavyChild 4 = .ok (.invokestatic 31, 3) ∧ decode cX5_hasHeavyChild 7 = .ok (.aload_n 0, 1) ∧ decode cX5_hasHeavyChild 8 = .ok (.getfield 35, 3) ∧ decode cX5_hasHeavyChild 11 = .ok (.invokestatic 31, 3) ∧ decode cX5_hasHeavyChild 14 = .ok (.invokestatic 38, 3) ∧ decode cX5_hasHeavyChild 17 = .ok (.istore_n 1, 1) ∧ decode cX5_hasHeavyChild 18 = .ok (.iconst 3, 1) ∧ decode cX5_hasHeavyChild 19 = .ok (.iload_n 1, 1) ∧ decode cX5_hasHeavyChild 20 = .ok (.imul, 1) ∧ decode cX5_hasHeavyChild 21 = .ok (.iconst 2, 1) := by decide +kernel
theorem D_X5_hasHeavyChild_1 : decode cX5_hasHeavyChild 22 = .ok (.aload_n 0, 1) ∧ decode cX5_hasHeavyChild 23 = .ok (.getfield 44, 3) ∧ decode cX5_hasHeavyChild 26 = .ok (.imul, 1) ∧ decode cX5_hasHeavyChild 27 = .ok (.if_icmp .le 7, 3) ∧ decode cX5_hasHeavyChild 30 = .ok (.iconst 1, 1) ∧ decode cX5_hasHeavyChild 31 = .ok (.goto 4, 3) ∧ decode cX5_hasHeavyChild 34 = .ok (.iconst 0, 1) ∧ decode cX5_hasHeavyChild 35 = .ok (.ireturn, 1) := by decide +kernel
theorem D_X1_depthToRebuild_0 : decode cX1_depthToRebuild 0 = .ok (.aload_n 1, 1) ∧ decode cX1_depthToRebuild 1 = .ok (.invokevirtual 15, 3) ∧ decode cX1_depthToRebuild 4 = .ok (.iconst 1, 1) ∧ decode cX1_depthToRebuild 5 = .ok (.isub, 1) ∧ decode cX1_depthToRebuild 6 = .ok (.istore_n 2, 1) ∧ decode cX1_depthToRebuild 7 = .ok (.iload_n 2, 1) ∧ decode cX1_depthToRebuild 8 = .ok (.aload_n 0, 1) ∧ decode cX1_depthToRebuild 9 = .ok (.invokevirtual 21, 3) ∧ decode cX1_depthToRebuild 12 = .ok (.invokestatic 24, 3) ∧ decode cX1_depthToRebuild 15 = .ok (.if_icmp .gt 5, 3) ∧ decode cX1_depthToRebuild 18 = .ok (.iconst (-1), 1) ∧ decode cX1_depthToRebuild 19 = .ok (.ireturn, 1) := by decide +kernel
theorem D_X1_depthToRebuild_1 : decode cX1_depthToRebuild 20 = .ok (.iload_n 2, 1) ∧ decode cX1_depthToRebuild 21 = .ok (.istore_n 3, 1) ∧ decode cX1_depthToRebuild 22 = .ok (.iload_n 3, 1) ∧ decode cX1_depthToRebuild 23 = .ok (.ifCond .lt 28, 3) ∧ decode cX1_depthToRebuild 26 = .ok (.iload_n 2, 1) ∧ decode cX1_depthToRebuild 27 = .ok (.iload_n 3, 1) ∧ decode cX1_depthToRebuild 28 = .ok (.isub, 1) ∧ decode cX1_depthToRebuild 29 = .ok (.aload_n 1, 1) ∧ decode cX1_depthToRebuild 30 = .ok (.iload_n 3, 1) ∧ decode cX1_depthToRebuild 31 = .ok (.invokevirtual 28, 3) ∧ decode cX1_depthToRebuild 34 = .ok (.invokestatic 32, 3) ∧ decode cX1_depthToRebuild 37 = .ok (.invokestatic 24, 3) := by decide +kernel
theorem D_X1_depthToRebuild_2 : decode cX1_depthToRebuild 40 = .ok (.if_icmp .le 5, 3) ∧ decode cX1_depthToRebuild 43 = .ok (.iload_n 3, 1) ∧ decode cX1_depthToRebuild 44 = .ok (.ireturn, 1) ∧ decode cX1_depthToRebuild 45 = .ok (.iinc 3 (-1), 3) ∧ decode cX1_depthToRebuild 48 = .ok (.goto (-26), 3) ∧ decode cX1_depthToRebuild 51 = .ok (.iconst (-1), 1) ∧ decode cX1_depthToRebuild 52 = .ok (.ireturn, 1) := by decide +kernel
theorem D_X5_depthToRebuild_0 : decode cX5_depthToRebuild 0 = .ok (.iconst 0, 1) ∧ decode cX5_depthToRebuild 1 = .ok (.istore_n 2, 1) ∧ decode cX5_depthToRebuild 2 = .ok (.iload_n 2, 1) ∧ decode cX5_depthToRebuild 3 = .ok (.aload_n 1, 1) ∧ decode cX5_depthToRebuild 4 = .ok (.invokevirtual 9, 3) ∧ decode cX5_depthToRebuild 7 = .ok (.iconst 1, 1) ∧ decode cX5_depthToRebuild 8 = .ok (.isub, 1) ∧ decode cX5_depthToRebuild 9 = .ok (.if_icmp .ge 28, 3) ∧ decode cX5_depthToRebuild 12 = .ok (.aload_n 1, 1) ∧ decode cX5_depthToRebuild 13 = .ok (.iload_n 2, 1) ∧ decode cX5_depthToRebuild 14 = .ok (.invokevirtual 15, 3) ∧ decode cX5_depthToRebuild 17 = .ok (.astore_n 3, 1) := by decide +kernel
theorem D_X5_depthToRebuild_1 : decode cX5_depthToRebuild 18 = .ok (.aload_n 3, 1) ∧ decode cX5_depthToRebuild 19 = .ok (.ifnull 12, 3) ∧ decode cX5_depthToRebuild 22 = .ok (.aload_n 3, 1) ∧ decode cX5_depthToRebuild 23 = .ok (.invokestatic 19, 3) ∧ decode cX5_depthToRebuild 26 = .ok (.ifCond .eq 5, 3) ∧ decode cX5_depthToRebuild 29 = .ok (.iload_n 2, 1) ∧ decode cX5_depthToRebuild 30 = .ok (.ireturn, 1) ∧ decode cX5_depthToRebuild 31 = .ok (.iinc 2 1, 3) ∧ decode cX5_depthToRebuild 34 = .ok (.goto (-32), 3) ∧ decode cX5_depthToRebuild 37 = .ok (.iconst (-1), 1) ∧ decode cX5_depthToRebuild 38 = .ok (.ireturn, 1) := by decide +kernel
theorem D_X2_rebuild_0 : decode cX2_rebuild 0 = .ok (.aload_n 0, 1) ∧ decode cX2_rebuild 1 = .ok (.getfield 14, 3) ∧ decode cX2_rebuild 4 = .ok (.iload_n 1, 1) ∧ decode cX2_rebuild 5 = .ok (.invokevirtual 97, 3) ∧ decode cX2_rebuild 8 = .ok (.astore_n 2, 1) ∧ decode cX2_rebuild 9 = .ok (.aload_n 0, 1) ∧ decode cX2_rebuild 10 = .ok (.getfield 14, 3) ∧ decode cX2_rebuild 13 = .ok (.iload_n 1, 1) ∧ decode cX2_rebuild 14 = .ok (.iconst 1, 1) ∧ decode cX2_rebuild 15 = .ok (.isub, 1) ∧ decode cX2_rebuild 16 = .ok (.invokevirtual 97, 3) ∧ decode cX2_rebuild 19 = .ok (.astore_n 3, 1) := by decide +kernel
theorem D_X2_rebuild_1 : decode cX2_rebuild 20 = .ok (.aload_n 0, 1) ∧ decode cX2_rebuild 21 = .ok (.dup, 1) ∧ decode cX2_rebuild 22 = .ok (.getfield 28, 3) ∧ decode cX2_rebuild 25 = .ok (.aload_n 2, 1) ∧ decode cX2_rebuild 26 = .ok (.invokestatic 37, 3) ∧ decode cX2_rebuild 29 = .ok (.iadd, 1) ∧ decode cX2_rebuild 30 = .ok (.putfield 28, 3) ∧ decode cX2_rebuild 33 = .ok (.aload_n 0, 1) ∧ decode cX2_rebuild 34 = .ok (.aload_n 2, 1) ∧ decode cX2_rebuild 35 = .ok (.iconst 1, 1) ∧ decode cX2_rebuild 36 = .ok (.invokevirtual 103, 3) ∧ decode cX2_rebuild 39 = .ok (.aload_n 0, 1) := by decide +kernel
theorem D_X2_rebuild_2 : decode cX2_rebuild 40 = .ok (.iconst 0, 1) ∧ decode cX2_rebuild 41 = .ok (.aload_n 0, 1) ∧ decode cX2_rebuild 42 = .ok (.getfield 34, 3) ∧ decode cX2_rebuild 45 = .ok (.invokevirtual 58, 3) ∧ decode cX2_rebuild 48 = .ok (.iload_n 1, 1) ∧ decode cX2_rebuild 49 = .ok (.invokestatic 107, 3) ∧ decode cX2_rebuild 52 = .ok (.astore 4, 2) ∧ decode cX2_rebuild 54 = .ok (.aload_n 3, 1) ∧ decode cX2_rebuild 55 = .ok (.ifnonnull 12, 3) ∧ decode cX2_rebuild 58 = .ok (.aload_n 0, 1) ∧ decode cX2_rebuild 59 = .ok (.aload 4, 2) ∧ decode cX2_rebuild 61 = .ok (.putfield 20, 3) := by decide +kernel
theorem D_X2_rebuild_3 : decode cX2_rebuild 64 = .ok (.goto 26, 3) ∧ decode cX2_rebuild 67 = .ok (.aload_n 3, 1) ∧ decode cX2_rebuild 68 = .ok (.getfield 76, 3) ∧ decode cX2_rebuild 71 = .ok (.aload_n 2, 1) ∧ decode cX2_rebuild 72 = .ok (.if_acmp .ne 12, 3) ∧ decode cX2_rebuild 75 = .ok (.aload_n 3, 1) ∧ decode cX2_rebuild 76 = .ok (.aload 4, 2) ∧ decode cX2_rebuild 78 = .ok (.putfield 76, 3) ∧ decode cX2_rebuild 81 = .ok (.goto 9, 3) ∧ decode cX2_rebuild 84 = .ok (.aload_n 3, 1) ∧ decode cX2_rebuild 85 = .ok (.aload 4, 2) ∧ decode cX2_rebuild 87 = .ok (.putfield 79, 3) := by decide +kernel
theorem D_X2_rebuild_4 : decode cX2_rebuild 90 = .ok (.return_, 1) := by decide +kernel
theorem D_X2_dropDead_0 : decode cX2_dropDead 0 = .ok (.aload_n 0, 1) ∧ decode cX2_dropDead 1 = .ok (.aload_n 0, 1) ∧ decode cX2_dropDead 2 = .ok (.getfield 20, 3) ∧ decode cX2_dropDead 5 = .ok (.iconst 0, 1) ∧ decode cX2_dropDead 6 = .ok (.invokevirtual 103, 3) ∧ decode cX2_dropDead 9 = .ok (.aload_n 0, 1) ∧ decode cX2_dropDead 10 = .ok (.aload_n 0, 1) ∧ decode cX2_dropDead 11 = .ok (.iconst 0, 1) ∧ decode cX2_dropDead 12 = .ok (.aload_n 0, 1) ∧ decode cX2_dropDead 13 = .ok (.getfield 34, 3) ∧ decode cX2_dropDead 16 = .ok (.invokevirtual 58, 3) ∧ decode cX2_dropDead 19 = .ok (.iconst 0, 1) := by decide +kernel
theorem D_X2_dropDead_1 : decode cX2_dropDead 20 = .ok (.invokestatic 107, 3) ∧ decode cX2_dropDead 23 = .ok (.putfield 20, 3) ∧ decode cX2_dropDead 26 = .ok (.aload_n 0, 1) ∧ decode cX2_dropDead 27 = .ok (.dup, 1) ∧ decode cX2_dropDead 28 = .ok (.getfield 31, 3) ∧ decode cX2_dropDead 31 = .ok (.iconst 1, 1) ∧ decode cX2_dropDead 32 = .ok (.iadd, 1) ∧ decode cX2_dropDead 33 = .ok (.putfield 31, 3) ∧ decode cX2_dropDead 36 = .ok (.return_, 1) := by decide +kernel
theorem D_X2_retire_0 : decode cX2_retire 0 = .ok (.aload_n 0, 1) ∧ decode cX2_retire 1 = .ok (.iload_n 1, 1) ∧ decode cX2_retire 2 = .ok (.invokevirtual 50, 3) ∧ decode cX2_retire 5 = .ok (.astore_n 2, 1) ∧ decode cX2_retire 6 = .ok (.aload_n 2, 1) ∧ decode cX2_retire 7 = .ok (.ifnull 10, 3) ∧ decode cX2_retire 10 = .ok (.aload_n 2, 1) ∧ decode cX2_retire 11 = .ok (.getfield 54, 3) ∧ decode cX2_retire 14 = .ok (.ifCond .ne 4, 3) ∧ decode cX2_retire 17 = .ok (.return_, 1) ∧ decode cX2_retire 18 = .ok (.aload_n 2, 1) ∧ decode cX2_retire 19 = .ok (.iconst 0, 1) := by decide +kernel
theorem D_X2_retire_1 : decode cX2_retire 20 = .ok (.putfield 54, 3) ∧ decode cX2_retire 23 = .ok (.aload_n 0, 1) ∧ decode cX2_retire 24 = .ok (.dup, 1) ∧ decode cX2_retire 25 = .ok (.getfield 24, 3) ∧ decode cX2_retire 28 = .ok (.iconst 1, 1) ∧ decode cX2_retire 29 = .ok (.isub, 1) ∧ decode cX2_retire 30 = .ok (.putfield 24, 3) ∧ decode cX2_retire 33 = .ok (.aload_n 0, 1) ∧ decode cX2_retire 34 = .ok (.invokevirtual 111, 3) ∧ decode cX2_retire 37 = .ok (.aload_n 0, 1) ∧ decode cX2_retire 38 = .ok (.getfield 24, 3) ∧ decode cX2_retire 41 = .ok (.isub, 1) := by decide +kernel
theorem D_X2_retire_2 : decode cX2_retire 42 = .ok (.aload_n 0, 1) ∧ decode cX2_retire 43 = .ok (.getfield 24, 3) ∧ decode cX2_retire 46 = .ok (.if_icmp .le 7, 3) ∧ decode cX2_retire 49 = .ok (.aload_n 0, 1) ∧ decode cX2_retire 50 = .ok (.invokevirtual 114, 3) ∧ decode cX2_retire 53 = .ok (.return_, 1) := by decide +kernel
theorem D_X2_enter_0 : decode cX2_enter 0 = .ok (.aload_n 0, 1) ∧ decode cX2_enter 1 = .ok (.iload_n 1, 1) ∧ decode cX2_enter 2 = .ok (.invokevirtual 50, 3) ∧ decode cX2_enter 5 = .ok (.astore_n 2, 1) ∧ decode cX2_enter 6 = .ok (.aload_n 0, 1) ∧ decode cX2_enter 7 = .ok (.dup, 1) ∧ decode cX2_enter 8 = .ok (.getfield 24, 3) ∧ decode cX2_enter 11 = .ok (.iconst 1, 1) ∧ decode cX2_enter 12 = .ok (.iadd, 1) ∧ decode cX2_enter 13 = .ok (.putfield 24, 3) ∧ decode cX2_enter 16 = .ok (.aload_n 2, 1) ∧ decode cX2_enter 17 = .ok (.ifnull 9, 3) := by decide +kernel
theorem D_X2_enter_1 : decode cX2_enter 20 = .ok (.aload_n 2, 1) ∧ decode cX2_enter 21 = .ok (.iconst 1, 1) ∧ decode cX2_enter 22 = .ok (.putfield 54, 3) ∧ decode cX2_enter 25 = .ok (.return_, 1) ∧ decode cX2_enter 26 = .ok (.aload_n 0, 1) ∧ decode cX2_enter 27 = .ok (.iload_n 1, 1) ∧ decode cX2_enter 28 = .ok (.invokevirtual 86, 3) ∧ decode cX2_enter 31 = .ok (.aload_n 0, 1) ∧ decode cX2_enter 32 = .ok (.aload_n 0, 1) ∧ decode cX2_enter 33 = .ok (.getfield 14, 3) ∧ decode cX2_enter 36 = .ok (.invokevirtual 89, 3) ∧ decode cX2_enter 39 = .ok (.istore_n 3, 1) := by decide +kernel
theorem D_X2_enter_2 : decode cX2_enter 40 = .ok (.iload_n 3, 1) ∧ decode cX2_enter 41 = .ok (.iconst (-1), 1) ∧ decode cX2_enter 42 = .ok (.if_icmp .eq 8, 3) ∧ decode cX2_enter 45 = .ok (.aload_n 0, 1) ∧ decode cX2_enter 46 = .ok (.iload_n 3, 1) ∧ decode cX2_enter 47 = .ok (.invokevirtual 93, 3) ∧ decode cX2_enter 50 = .ok (.return_, 1) := by decide +kernel
abbrev rm_X1_boundFor : Room := { frames := 0, cells := 0, slots := 0, locals := 0 }
set_option maxHeartbeats 4000000 in
set_option maxRecDepth 100000 in
theorem c_X1_boundFor (l : Launch) (G : xG) {K N : Nat → Nat} {I : Nat → Nat → Int32} {Q : Nat → Nat → Option Nat} {J : Nat → Nat → Int64} (w0 : Nat) (hm : w0 < 1000) : XM l yX1_boundFor cX1_boundFor 6 (some .int) rm_X1_boundFor G Ri [.int (nI w0)] (K, N, I, Q, J) (fun r S1 => r = nI (bnd w0) ∧ S1 = (K, N, I, Q, J)) := by
  refine x_meti (lv := [_, _, _, _, _, _]) (by decide +kernel) (x_cc (by first | rfl | exact x_crf _) x_cn) (Nat.le_of_ble_eq_true rfl) rfl ?_
  intro pP eE sS mM aA bB hH cC Z C hini ret
  refine x_ldc2 C k_373 D_X1_boundFor_0.1 ?_
  refine x_lstore_n C (lv' := [_, _, _, _, _, _]) D_X1_boundFor_0.2.1 rfl (Nat.le_of_ble_eq_true rfl) rfl rfl ?_
  refine x_ldc2 C k_374 D_X1_boundFor_0.2.2.1 ?_
  refine x_iload_n C D_X1_boundFor_0.2.2.2.1 rfl rfl ?_
  refine x_i2l C D_X1_boundFor_0.2.2.2.2.1 ?_
  refine x_lmul C D_X1_boundFor_0.2.2.2.2.2.1 ?_
  refine x_lstore_n C (lv' := [_, _, _, _, _, _]) D_X1_boundFor_0.2.2.2.2.2.2.1 rfl (Nat.le_of_ble_eq_true rfl) rfl rfl ?_
  refine x_iconst C (v := nI 0) D_X1_boundFor_0.2.2.2.2.2.2.2.1 (by decide +kernel) ?_
  refine x_istore C (lv' := [_, _, _, _, _, _]) D_X1_boundFor_0.2.2.2.2.2.2.2.2.1 (Nat.le_of_ble_eq_true rfl) rfl rfl ?_
  have L_14 : ∀ (w_14 : Nat) (d0 : Nat) (y1 y3 : Int64), 30 - d0 < w_14 → (d0 ≤ 30) → (y1 = lN (3 ^ (d0 + 1))) → (y3 = lN (w0 * 2 ^ (d0 + 1))) → (bndL w0 (30 - d0) d0 = bnd w0) → XW pP l eE rm_X1_boundFor sS mM aA bB hH cC G Z 0 0 (K, N, I, Q, J) 14 [some (.int (nI w0)), some (.long y1), none, some (.long y3), none, some (.int (nI d0))] [] := by
    intro w_14
    induction w_14 with
    | zero =>
      intro d0 y1 y3 hw_14
      exact absurd hw_14 (Nat.not_lt_zero _)
    | succ w_14 ih_14 =>
      intro d0 y1 y3 hw_14 hd e1_ e3_ hb
      refine x_iload C D_X1_boundFor_0.2.2.2.2.2.2.2.2.2.1 rfl ?_
      refine x_bipush C (v := nI 30) D_X1_boundFor_0.2.2.2.2.2.2.2.2.2.2.1 (by decide +kernel) ?_
      refine x_icmp_ge C 45 D_X1_boundFor_0.2.2.2.2.2.2.2.2.2.2.2 (by decide) (fun c_18 => ?_) (fun c_18 => ?_)
      · skip
        have c30 : d0 = 30 := by
          have h9 := (nI_leI (by omega) (by omega)).mp c_18
          omega
        refine x_iload C D_X1_boundFor_2.2.2.1 rfl ?_
        refine ret _ _ _ _ _ _ rfl D_X1_boundFor_2.2.2.2 (Nat.le_of_ble_eq_true rfl) (Nat.le_of_ble_eq_true rfl) ?_
        refine ⟨?_, rfl⟩
        rw [← hb, c30]; rfl
      · skip
        have c29 : d0 < 30 := by
          rcases Nat.lt_or_ge d0 30 with h | h
          · exact h
          · exact absurd ((nI_leI (by omega) (by omega)).mpr h) c_18
        refine x_lload_n C D_X1_boundFor_1.1 rfl rfl ?_
        refine x_lload_n C D_X1_boundFor_1.2.1 rfl rfl ?_
        refine x_lcmp C D_X1_boundFor_1.2.2.1 ?_
        refine x_if_gt C 45 D_X1_boundFor_1.2.2.2.1 (by decide) (fun c_24 => ?_) (fun c_24 => ?_)
        · skip
          have c1 : ¬ 3 ^ (d0 + 1) ≤ w0 * 2 ^ (d0 + 1) := by
            rw [lg_cmp_gt, e1_, e3_, pk_lLT (pow2_le hm hd) (pow3_le hd)] at c_24
            omega
          refine x_iload C D_X1_boundFor_2.2.2.1 rfl ?_
          refine ret _ _ _ _ _ _ rfl D_X1_boundFor_2.2.2.2 (Nat.le_of_ble_eq_true rfl) (Nat.le_of_ble_eq_true rfl) ?_
          refine ⟨?_, rfl⟩
          rw [← hb, bndL_step c29, if_neg c1]
        · skip
          have c1 : 3 ^ (d0 + 1) ≤ w0 * 2 ^ (d0 + 1) := by
            rw [lg_cmp_gt, e1_, e3_, pk_lLT (pow2_le hm hd) (pow3_le hd)] at c_24
            omega
          refine x_lload_n C D_X1_boundFor_1.2.2.2.2.1 rfl rfl ?_
          refine x_ldc2 C k_373 D_X1_boundFor_1.2.2.2.2.2.1 ?_
          refine x_lmul C D_X1_boundFor_1.2.2.2.2.2.2.1 ?_
          refine x_lstore_n C (lv' := [_, _, _, _, _, _]) D_X1_boundFor_1.2.2.2.2.2.2.2.1 rfl (Nat.le_of_ble_eq_true rfl) rfl rfl ?_
          refine x_lload_n C D_X1_boundFor_1.2.2.2.2.2.2.2.2.1 rfl rfl ?_
          refine x_ldc2 C k_374 D_X1_boundFor_1.2.2.2.2.2.2.2.2.2.1 ?_
          refine x_lmul C D_X1_boundFor_1.2.2.2.2.2.2.2.2.2.2.1 ?_
          refine x_lstore_n C (lv' := [_, _, _, _, _, _]) D_X1_boundFor_1.2.2.2.2.2.2.2.2.2.2.2 rfl (Nat.le_of_ble_eq_true rfl) rfl rfl ?_
          refine x_iinc C (lv' := [_, _, _, _, _, _]) D_X1_boundFor_2.1 rfl (x_inc_1 _) rfl rfl ?_
          refine x_goto C 14 D_X1_boundFor_2.2.1 (by decide) ?_
          refine x_lv (lv := [_, _, _, _, _, some (.int (nI (d0 + 1)))]) (by rw [nI_add]) ?_
          refine ih_14 (d0 + 1) _ _ (by omega) (by omega) ?_ ?_ ?_
          · rw [e1_, show (3 : Int64) = lN 3 from rfl, lN_mul, ← Nat.pow_succ]
          · rw [e3_, show (2 : Int64) = lN 2 from rfl, lN_mul, Nat.mul_assoc, ← Nat.pow_succ]
          · rw [← hb, bndL_step c29, if_pos c1]
  refine L_14 _ 0 _ _ (Nat.lt_succ_self _) (Nat.zero_le _) (by decide +kernel) ?_ rfl
  rw [nI_l (by omega), show (2 : Int64) = lN 2 from rfl, lN_mul]
  congr 1; omega
abbrev rm_X5_hasHeavyChild : Room := { frames := 1, cells := 0, slots := 0, locals := 20 }
set_option maxHeartbeats 4000000 in
set_option maxRecDepth 100000 in
theorem c_X5_hasHeavyChild (l : Launch) (G : xG) {K N : Nat → Nat} {I : Nat → Nat → Int32} {Q : Nat → Nat → Option Nat} {J : Nat → Nat → Int64} (q w0 wa wb : Nat) (hq : K q = 3) (h3 : ∀ a, Q q 3 = some a → K a = 3) (h4 : ∀ a, Q q 4 = some a → K a = 3) (hw : I q 2 = nI w0) (ha : wOf I (Q q 3) = nI wa) (hb : wOf I (Q q 4) = nI wb) (b1 : w0 < 1000) (b2 : wa < 1000) (b3 : wb < 1000) : XM l yX5_hasHeavyChild cX5_hasHeavyChild 2 (some .boolean) rm_X5_hasHeavyChild G Rz [.ref q] (K, N, I, Q, J) (fun r S1 => r = decide (2 * w0 < 3 * max wa wb) ∧ S1 = (K, N, I, Q, J)) := by
  refine x_metz (lv := [_, _]) (by decide +kernel) (x_cc (by first | rfl | exact x_crf _) x_cn) (Nat.le_of_ble_eq_true rfl) rfl ?_
  intro pP eE sS mM aA bB hH cC Z C hini ret
  refine x_aload_n C D_X5_hasHeavyChild_0.1 rfl rfl (by first | exact Or.inr ⟨_, rfl⟩ | exact va_rf_or _ | exact Or.inl rfl) ?_
  refine x_getQ C (ci := 2) (k0 := 3) hq (by decide) rfl (by decide) in_X3 k_621 rfl rfl D_X5_hasHeavyChild_0.2.1 ?_
  refine x_eqq _ (rfl : Q q 3 = Q q 3) ?_
  refine x_callSi C (y := yX3_weightOf) (c_X3_weightOf l G (Q q 3) h3) k_656 k_248 k_73 k_249 hd_X3_weightOf ⟨(Nat.le_of_ble_eq_true rfl), (Nat.le_of_ble_eq_true rfl)⟩ rfl (by first | exact Nat.le_of_ble_eq_true rfl | simp [x_crf, Value.category]) rfl rfl D_X5_hasHeavyChild_0.2.2.1 ⟨(Nat.le_of_ble_eq_true rfl), (Nat.le_of_ble_eq_true rfl)⟩ (fun r_4 S_4 h_4 => ?_)
  obtain ⟨rfl, rfl⟩ := h_4
  refine x_eqi _ ha ?_
  refine x_aload_n C D_X5_hasHeavyChild_0.2.2.2.1 rfl rfl (by first | exact Or.inr ⟨_, rfl⟩ | exact va_rf_or _ | exact Or.inl rfl) ?_
  refine x_getQ C (ci := 2) (k0 := 4) hq (by decide) rfl (by decide) in_X3 k_624 rfl rfl D_X5_hasHeavyChild_0.2.2.2.2.1 ?_
  refine x_eqq _ (rfl : Q q 4 = Q q 4) ?_
  refine x_callSi C (y := yX3_weightOf) (c_X3_weightOf l G (Q q 4) h4) k_656 k_248 k_73 k_249 hd_X3_weightOf ⟨(Nat.le_of_ble_eq_true rfl), (Nat.le_of_ble_eq_true rfl)⟩ rfl (by first | exact Nat.le_of_ble_eq_true rfl | simp [x_crf, Value.category]) rfl rfl D_X5_hasHeavyChild_0.2.2.2.2.2.1 ⟨(Nat.le_of_ble_eq_true rfl), (Nat.le_of_ble_eq_true rfl)⟩ (fun r_11 S_11 h_11 => ?_)
  obtain ⟨rfl, rfl⟩ := h_11
  refine x_eqi _ hb ?_
  refine x_mmax C k_657 k_389 k_74 k_390 rfl (Nat.le_of_ble_eq_true rfl) (Nat.le_of_ble_eq_true rfl) (Nat.le_of_ble_eq_true rfl) (Nat.le_of_ble_eq_true rfl) D_X5_hasHeavyChild_0.2.2.2.2.2.2.1 ?_
  refine x_eqi _ (imax2 (by omega) (by omega)) ?_
  refine x_istore_n C (lv' := [_, _]) D_X5_hasHeavyChild_0.2.2.2.2.2.2.2.1 rfl (Nat.le_of_ble_eq_true rfl) rfl rfl ?_
  refine x_iconst C (v := nI 3) D_X5_hasHeavyChild_0.2.2.2.2.2.2.2.2.1 (by decide +kernel) ?_
  refine x_iload_n C D_X5_hasHeavyChild_0.2.2.2.2.2.2.2.2.2.1 rfl rfl ?_
  refine x_imul C D_X5_hasHeavyChild_0.2.2.2.2.2.2.2.2.2.2.1 ?_
  refine x_eqi _ (pk_mul _ _) ?_
  refine x_iconst C (v := nI 2) D_X5_hasHeavyChild_0.2.2.2.2.2.2.2.2.2.2.2 (by decide +kernel) ?_
  refine x_aload_n C D_X5_hasHeavyChild_1.1 rfl rfl (by first | exact Or.inr ⟨_, rfl⟩ | exact va_rf_or _ | exact Or.inl rfl) ?_
  refine x_getI C (ci := 2) (k0 := 2) hq (by decide) rfl (by decide) in_X3 k_616 rfl rfl D_X5_hasHeavyChild_1.2.1 ?_
  refine x_eqi _ hw ?_
  refine x_imul C D_X5_hasHeavyChild_1.2.2.1 ?_
  refine x_eqi _ (pk_mul _ _) ?_
  refine x_icmp_le C 34 D_X5_hasHeavyChild_1.2.2.2.1 (by decide) (fun c_27 => ?_) (fun c_27 => ?_)
  · skip
    have c1 : ¬ 2 * w0 < 3 * max wa wb := by
      have h9 := (nI_leI (by omega) (by omega)).mp c_27
      omega
    refine x_iconst C (v := nI 0) D_X5_hasHeavyChild_1.2.2.2.2.2.2.1 (by decide +kernel) ?_
    refine ret _ _ _ _ _ _ false rfl D_X5_hasHeavyChild_1.2.2.2.2.2.2.2 (Nat.le_of_ble_eq_true rfl) (Nat.le_of_ble_eq_true rfl) rfl ?_
    exact ⟨by simp [c1], rfl⟩
  · skip
    have c1 : 2 * w0 < 3 * max wa wb := by
      rcases Nat.lt_or_ge (2 * w0) (3 * max wa wb) with h | h
      · exact h
      · exact absurd ((nI_leI (by omega) (by omega)).mpr h) c_27
    refine x_iconst C (v := nI 1) D_X5_hasHeavyChild_1.2.2.2.2.1 (by decide +kernel) ?_
    refine x_goto C 35 D_X5_hasHeavyChild_1.2.2.2.2.2.1 (by decide) ?_
    refine ret _ _ _ _ _ _ true rfl D_X5_hasHeavyChild_1.2.2.2.2.2.2.2 (Nat.le_of_ble_eq_true rfl) (Nat.le_of_ble_eq_true rfl) rfl ?_
    exact ⟨by simp [c1], rfl⟩
abbrev rm_X1_depthToRebuild : Room := { frames := 2, cells := 0, slots := 0, locals := 40 }
theorem hd_X1_boundFor : yX1_boundFor.cls ≠ "java/lang/invoke/MethodHandle" ∧ yX1_boundFor.cls ≠ "java/lang/invoke/VarHandle" ∧ (parseMethodDescriptor yX1_boundFor.desc).map (fun d => d.parameters.length) = some 1 := by decide +kernel
theorem hd_X2_nodeCount : yX2_nodeCount.cls ≠ "java/lang/invoke/MethodHandle" ∧ yX2_nodeCount.cls ≠ "java/lang/invoke/VarHandle" ∧ (parseMethodDescriptor yX2_nodeCount.desc).map (fun d => d.parameters.length) = some 0 := by decide +kernel
theorem hu_X2_nodeCount : "ScapegoatSpur$LazyTree" ≠ "java/lang/invoke/MethodHandle" ∧ "ScapegoatSpur$LazyTree" ≠ "java/lang/invoke/VarHandle" ∧ (parseMethodDescriptor "()I").map (fun d => d.parameters.length) = some 0 := by decide +kernel
set_option maxHeartbeats 4000000 in
set_option maxRecDepth 100000 in
theorem c_X1_depthToRebuild (l : Launch) (G : xG) {K N : Nat → Nat} {I : Nat → Nat → Int32} {Q : Nat → Nat → Option Nat} {J : Nat → Nat → Int64} (t pq pn ld nn : Nat) (Pw : List Nat) (w : Nat → Nat) (hk : K t = 2) (hrow : RowOK K N I Q pq pn 40 (Pw.length)) (hsg : SEG (Q pn) 0 Pw) (hld : Pw.length = ld + 1) (hnn : wOf I (Q t 2) = nI nn) (hnb : nn < 1000) (hr : ∀ q, Q t 2 = some q → K q = 3) (hw : ∀ j q, Pw[j]? = some q → K q = 3 ∧ I q 2 = nI (w j) ∧ w j < 1000) : XM l yX1_depthToRebuild cX1_depthToRebuild 4 (some .int) rm_X1_depthToRebuild G Ri [.ref t, .ref pq] (K, N, I, Q, J) (fun r S1 => r = oI (if ld ≤ bnd nn then none else scw w ld (ld + 1)) ∧ S1 = (K, N, I, Q, J)) := by
  refine x_meti (lv := [_, _, _, _]) (by decide +kernel) (x_cc (by first | rfl | exact x_crf _) (x_cc (by first | rfl | exact x_crf _) x_cn)) (Nat.le_of_ble_eq_true rfl) rfl ?_
  intro pP eE sS mM aA bB hH cC Z C hini ret
  have hkp := hrow.1
  have hlc := hrow.2.2.2.2.2.2
  refine x_aload_n C D_X1_depthToRebuild_0.1 rfl rfl (by first | exact Or.inr ⟨_, rfl⟩ | exact va_rf_or _ | exact Or.inl rfl) ?_
  refine x_callVi C (y := yX4_length) (c_X4_length l G pq hkp) (ci := 3) hkp (by decide) rfl rfl k_643 k_221 k_222 k_63 k_223 hd_X4_length ⟨(Nat.le_of_ble_eq_true rfl), (Nat.le_of_ble_eq_true rfl)⟩ rfl (by first | exact Nat.le_of_ble_eq_true rfl | simp [x_crf, Value.category]) rfl rfl D_X1_depthToRebuild_0.2.1 ⟨(Nat.le_of_ble_eq_true rfl), (Nat.le_of_ble_eq_true rfl)⟩ (fun r_1 S_1 h_1 => ?_)
  obtain ⟨rfl, rfl⟩ := h_1
  refine x_eqi _ hrow.2.2.2.2.2.1 ?_
  refine x_iconst C (v := nI 1) D_X1_depthToRebuild_0.2.2.1 (by decide +kernel) ?_
  refine x_isub C D_X1_depthToRebuild_0.2.2.2.1 ?_
  refine x_eqi _ (show nI Pw.length - nI 1 = nI ld by rw [pk_sub (by omega)]; congr 1; omega) ?_
  refine x_istore_n C (lv' := [_, _, _, _]) D_X1_depthToRebuild_0.2.2.2.2.1 rfl (Nat.le_of_ble_eq_true rfl) rfl rfl ?_
  refine x_iload_n C D_X1_depthToRebuild_0.2.2.2.2.2.1 rfl rfl ?_
  refine x_aload_n C D_X1_depthToRebuild_0.2.2.2.2.2.2.1 rfl rfl (by first | exact Or.inr ⟨_, rfl⟩ | exact va_rf_or _ | exact Or.inl rfl) ?_
  refine x_callUi C (x := ⟨"ScapegoatSpur$KeyTree", "nodeCount", "()I"⟩) (y := yX2_nodeCount) (owner := "ScapegoatSpur$LazyTree") (c_X2_nodeCount_1 l G t hk hr) (ci := 1) (by assumption) (by decide) rfl k_644 k_363 k_365 k_242 k_61 k_246 rfl hu_X2_nodeCount ⟨(Nat.le_of_ble_eq_true rfl), (Nat.le_of_ble_eq_true rfl)⟩ rfl (by first | exact Nat.le_of_ble_eq_true rfl | simp [x_crf, Value.category]) rfl rfl D_X1_depthToRebuild_0.2.2.2.2.2.2.2.1 ⟨(Nat.le_of_ble_eq_true rfl), (Nat.le_of_ble_eq_true rfl)⟩ (fun r_9 S_9 h_9 => ?_)
  obtain ⟨rfl, rfl⟩ := h_9
  refine x_eqi _ hnn ?_
  refine x_callSi C (y := yX1_boundFor) (c_X1_boundFor l G nn hnb) k_645 k_371 k_62 k_372 hd_X1_boundFor ⟨(Nat.le_of_ble_eq_true rfl), (Nat.le_of_ble_eq_true rfl)⟩ rfl (by first | exact Nat.le_of_ble_eq_true rfl | simp [x_crf, Value.category]) rfl rfl D_X1_depthToRebuild_0.2.2.2.2.2.2.2.2.1 ⟨(Nat.le_of_ble_eq_true rfl), (Nat.le_of_ble_eq_true rfl)⟩ (fun r_12 S_12 h_12 => ?_)
  obtain ⟨rfl, rfl⟩ := h_12
  refine x_icmp_gt C 20 D_X1_depthToRebuild_0.2.2.2.2.2.2.2.2.2.1 (by decide) (fun c_15 => ?_) (fun c_15 => ?_)
  · skip
    have c1 : ¬ ld ≤ bnd nn := by
      have h8 := bnd_le nn
      have h9 := (nI_ltI (by omega) (by omega)).mp c_15
      omega
    refine x_iload_n C D_X1_depthToRebuild_1.1 rfl rfl ?_
    refine x_istore_n C (lv' := [_, _, _, _]) D_X1_depthToRebuild_1.2.1 rfl (Nat.le_of_ble_eq_true rfl) rfl rfl ?_
    have L_22 : ∀ (w_22 : Nat) (f0 : Nat) (x3 : Int32), f0 < w_22 → (f0 ≤ ld + 1) → (x3 = nI f0 - nI 1) → (scw w ld f0 = scw w ld (ld + 1)) → XW pP l eE rm_X1_depthToRebuild sS mM aA bB hH cC G Z 0 0 (K, N, I, Q, J) 22 [some (.ref t), some (.ref pq), some (.int (nI ld)), some (.int x3)] [] := by
      intro w_22
      induction w_22 with
      | zero =>
        intro f0 x3 hw_22
        exact absurd hw_22 (Nat.not_lt_zero _)
      | succ w_22 ih_22 =>
        intro f0 x3 hw_22 hf0 e3_ hsc
        refine x_iload_n C D_X1_depthToRebuild_1.2.2.1 rfl rfl ?_
        refine x_if_lt C 51 D_X1_depthToRebuild_1.2.2.2.1 (by decide) (fun c_23 => ?_) (fun c_23 => ?_)
        · skip
          have f0z : f0 = 0 := by
            rcases Nat.eq_zero_or_pos f0 with h | h
            · exact h
            · rw [e3_, pk_sub (by omega)] at c_23
              exact absurd c_23 (nI_pos (by omega))
          refine x_iconst C (v := (-1)) D_X1_depthToRebuild_2.2.2.2.2.2.1 (by decide +kernel) ?_
          refine ret _ _ _ _ _ _ rfl D_X1_depthToRebuild_2.2.2.2.2.2.2 (Nat.le_of_ble_eq_true rfl) (Nat.le_of_ble_eq_true rfl) ?_
          exact ⟨by rw [if_neg c1, ← hsc, f0z]; rfl, rfl⟩
        · skip
          obtain ⟨j0, rfl⟩ : ∃ j0, f0 = j0 + 1 := by
            cases f0 with
            | zero => exact absurd (by rw [e3_]; decide) c_23
            | succ j => exact ⟨j, rfl⟩
          obtain rfl : x3 = nI j0 := by rw [e3_, pk_sub (by omega)]; rfl
          obtain ⟨q1, hq1⟩ : ∃ q1, Pw[j0]? = some q1 := ⟨_, List.getElem?_eq_getElem (by omega)⟩
          obtain ⟨hq3, hqw, hqb⟩ := hw j0 q1 hq1
          refine x_iload_n C D_X1_depthToRebuild_1.2.2.2.2.1 rfl rfl ?_
          refine x_iload_n C D_X1_depthToRebuild_1.2.2.2.2.2.1 rfl rfl ?_
          refine x_isub C D_X1_depthToRebuild_1.2.2.2.2.2.2.1 ?_
          refine x_eqi _ (pk_sub (by omega)) ?_
          refine x_aload_n C D_X1_depthToRebuild_1.2.2.2.2.2.2.2.1 rfl rfl (by first | exact Or.inr ⟨_, rfl⟩ | exact va_rf_or _ | exact Or.inl rfl) ?_
          refine x_iload_n C D_X1_depthToRebuild_1.2.2.2.2.2.2.2.2.1 rfl rfl ?_
          refine x_callVq C (y := yX4_at) (c_X4_at l G pq pn 40 Pw.length (nI j0) hrow) (ci := 3) hkp (by decide) rfl rfl k_646 k_273 k_274 k_63 k_275 hd_X4_at ⟨(Nat.le_of_ble_eq_true rfl), (Nat.le_of_ble_eq_true rfl)⟩ rfl (by first | exact Nat.le_of_ble_eq_true rfl | simp [x_crf, Value.category]) rfl rfl D_X1_depthToRebuild_1.2.2.2.2.2.2.2.2.2.1 ⟨(Nat.le_of_ble_eq_true rfl), (Nat.le_of_ble_eq_true rfl)⟩ (fun r_31 S_31 h_31 => ?_)
          obtain ⟨hr31, rfl⟩ := h_31
          rw [atv_in _ (by omega) (by omega), ← Nat.zero_add j0, hsg j0 (by omega), hq1] at hr31
          subst hr31
          refine x_callSi C (y := yX3_weightOf) (c_X3_weightOf l G (some q1) (fun a ha => by cases ha; exact hq3)) k_647 k_248 k_73 k_249 hd_X3_weightOf ⟨(Nat.le_of_ble_eq_true rfl), (Nat.le_of_ble_eq_true rfl)⟩ rfl (by first | exact Nat.le_of_ble_eq_true rfl | simp [x_crf, Value.category]) rfl rfl D_X1_depthToRebuild_1.2.2.2.2.2.2.2.2.2.2.1 ⟨(Nat.le_of_ble_eq_true rfl), (Nat.le_of_ble_eq_true rfl)⟩ (fun r_34 S_34 h_34 => ?_)
          obtain ⟨rfl, rfl⟩ := h_34
          refine x_eqi _ (show wOf I (some q1) = nI (w j0) from hqw) ?_
          refine x_callSi C (y := yX1_boundFor) (c_X1_boundFor l G (w j0) hqb) k_645 k_371 k_62 k_372 hd_X1_boundFor ⟨(Nat.le_of_ble_eq_true rfl), (Nat.le_of_ble_eq_true rfl)⟩ rfl (by first | exact Nat.le_of_ble_eq_true rfl | simp [x_crf, Value.category]) rfl rfl D_X1_depthToRebuild_1.2.2.2.2.2.2.2.2.2.2.2 ⟨(Nat.le_of_ble_eq_true rfl), (Nat.le_of_ble_eq_true rfl)⟩ (fun r_37 S_37 h_37 => ?_)
          obtain ⟨rfl, rfl⟩ := h_37
          refine x_icmp_le C 45 D_X1_depthToRebuild_2.1 (by decide) (fun c_40 => ?_) (fun c_40 => ?_)
          · skip
            have c2 : ¬ bnd (w j0) < ld - j0 := by
              have h8 := bnd_le (w j0)
              have h9 := (nI_leI (by omega) (by omega)).mp c_40
              omega
            refine x_iinc C (lv' := [_, _, _, _]) D_X1_depthToRebuild_2.2.2.2.1 rfl (x_inc_m1 _) rfl rfl ?_
            refine x_goto C 22 D_X1_depthToRebuild_2.2.2.2.2.1 (by decide) ?_
            exact ih_22 j0 _ (by omega) (by omega) (by rw [show (-1 : Int32) = - nI 1 from by decide, ← Int32.sub_eq_add_neg]) (by rw [← hsc]; simp [scw, c2])
          · skip
            have c2 : bnd (w j0) < ld - j0 := by
              have h8 := bnd_le (w j0)
              rcases Nat.lt_or_ge (bnd (w j0)) (ld - j0) with h | h
              · exact h
              · exact absurd ((nI_leI (by omega) (by omega)).mpr h) c_40
            refine x_iload_n C D_X1_depthToRebuild_2.2.1 rfl rfl ?_
            refine ret _ _ _ _ _ _ rfl D_X1_depthToRebuild_2.2.2.1 (Nat.le_of_ble_eq_true rfl) (Nat.le_of_ble_eq_true rfl) ?_
            exact ⟨by rw [if_neg c1, ← hsc]; simp [scw, c2, oI], rfl⟩
    exact L_22 _ (ld + 1) _ (Nat.lt_succ_self _) (Nat.le_refl _) (by rw [pk_sub (by omega)]; rfl) rfl
  · skip
    have c1 : ld ≤ bnd nn := by
      have h8 := bnd_le nn
      rcases Nat.lt_or_ge (bnd nn) ld with h | h
      · exact absurd ((nI_ltI (by omega) (by omega)).mpr h) c_15
      · exact h
    refine x_iconst C (v := (-1)) D_X1_depthToRebuild_0.2.2.2.2.2.2.2.2.2.2.1 (by decide +kernel) ?_
    refine ret _ _ _ _ _ _ rfl D_X1_depthToRebuild_0.2.2.2.2.2.2.2.2.2.2.2 (Nat.le_of_ble_eq_true rfl) (Nat.le_of_ble_eq_true rfl) ?_
    exact ⟨by rw [if_pos c1]; rfl, rfl⟩
abbrev rm_X5_depthToRebuild : Room := { frames := 2, cells := 0, slots := 0, locals := 41 }
theorem hd_X5_hasHeavyChild : yX5_hasHeavyChild.cls ≠ "java/lang/invoke/MethodHandle" ∧ yX5_hasHeavyChild.cls ≠ "java/lang/invoke/VarHandle" ∧ (parseMethodDescriptor yX5_hasHeavyChild.desc).map (fun d => d.parameters.length) = some 1 := by decide +kernel
set_option maxHeartbeats 4000000 in
set_option maxRecDepth 100000 in
theorem c_X5_depthToRebuild (l : Launch) (G : xG) {K N : Nat → Nat} {I : Nat → Nat → Int32} {Q : Nat → Nat → Option Nat} {J : Nat → Nat → Int64} (t pq pn ld : Nat) (Pw : List Nat) (w wa wb : Nat → Nat) (hk : K t = 5) (hrow : RowOK K N I Q pq pn 40 (Pw.length)) (hsg : SEG (Q pn) 0 Pw) (hld : Pw.length = ld + 1) (hw : ∀ j q, Pw[j]? = some q → K q = 3 ∧ (∀ a, Q q 3 = some a → K a = 3) ∧ (∀ a, Q q 4 = some a → K a = 3) ∧ I q 2 = nI (w j) ∧ wOf I (Q q 3) = nI (wa j) ∧ wOf I (Q q 4) = nI (wb j) ∧ w j < 1000 ∧ wa j < 1000 ∧ wb j < 1000) : XM l yX5_depthToRebuild cX5_depthToRebuild 4 (some .int) rm_X5_depthToRebuild G Ri [.ref t, .ref pq] (K, N, I, Q, J) (fun r S1 => r = oI (fstF (fun j => decide (2 * w j < 3 * max (wa j) (wb j))) ld 0) ∧ S1 = (K, N, I, Q, J)) := by
  refine x_meti (lv := [_, _, _, _]) (by decide +kernel) (x_cc (by first | rfl | exact x_crf _) (x_cc (by first | rfl | exact x_crf _) x_cn)) (Nat.le_of_ble_eq_true rfl) rfl ?_
  intro pP eE sS mM aA bB hH cC Z C hini ret
  have hkp := hrow.1
  have hlc := hrow.2.2.2.2.2.2
  refine x_iconst C (v := nI 0) D_X5_depthToRebuild_0.1 (by decide +kernel) ?_
  refine x_istore_n C (lv' := [_, _, _, _]) D_X5_depthToRebuild_0.2.1 rfl (Nat.le_of_ble_eq_true rfl) rfl rfl ?_
  have L_2 : ∀ (w_2 : Nat) (i0 : Nat) (v3 : Option Value), ld - i0 < w_2 → (i0 ≤ ld) → (fstF (fun j => decide (2 * w j < 3 * max (wa j) (wb j))) (ld - i0) i0 = fstF (fun j => decide (2 * w j < 3 * max (wa j) (wb j))) ld 0) → XW pP l eE rm_X5_depthToRebuild sS mM aA bB hH cC G Z 0 0 (K, N, I, Q, J) 2 [some (.ref t), some (.ref pq), some (.int (nI i0)), v3] [] := by
    intro w_2
    induction w_2 with
    | zero =>
      intro i0 v3 hw_2
      exact absurd hw_2 (Nat.not_lt_zero _)
    | succ w_2 ih_2 =>
      intro i0 v3 hw_2 hi0 hsc
      refine x_iload_n C D_X5_depthToRebuild_0.2.2.1 rfl rfl ?_
      refine x_aload_n C D_X5_depthToRebuild_0.2.2.2.1 rfl rfl (by first | exact Or.inr ⟨_, rfl⟩ | exact va_rf_or _ | exact Or.inl rfl) ?_
      refine x_callVi C (y := yX4_length) (c_X4_length l G pq hkp) (ci := 3) hkp (by decide) rfl rfl k_651 k_221 k_222 k_63 k_223 hd_X4_length ⟨(Nat.le_of_ble_eq_true rfl), (Nat.le_of_ble_eq_true rfl)⟩ rfl (by first | exact Nat.le_of_ble_eq_true rfl | simp [x_crf, Value.category]) rfl rfl D_X5_depthToRebuild_0.2.2.2.2.1 ⟨(Nat.le_of_ble_eq_true rfl), (Nat.le_of_ble_eq_true rfl)⟩ (fun r_4 S_4 h_4 => ?_)
      obtain ⟨rfl, rfl⟩ := h_4
      refine x_eqi _ hrow.2.2.2.2.2.1 ?_
      refine x_iconst C (v := nI 1) D_X5_depthToRebuild_0.2.2.2.2.2.1 (by decide +kernel) ?_
      refine x_isub C D_X5_depthToRebuild_0.2.2.2.2.2.2.1 ?_
      refine x_eqi _ (show nI Pw.length - nI 1 = nI ld by rw [pk_sub (by omega)]; congr 1; omega) ?_
      refine x_icmp_ge C 37 D_X5_depthToRebuild_0.2.2.2.2.2.2.2.1 (by decide) (fun c_9 => ?_) (fun c_9 => ?_)
      · skip
        have hie : i0 = ld := by
          have h9 := (nI_leI (by omega) (by omega)).mp c_9
          omega
        refine x_iconst C (v := (-1)) D_X5_depthToRebuild_1.2.2.2.2.2.2.2.2.2.1 (by decide +kernel) ?_
        refine ret _ _ _ _ _ _ rfl D_X5_depthToRebuild_1.2.2.2.2.2.2.2.2.2.2 (Nat.le_of_ble_eq_true rfl) (Nat.le_of_ble_eq_true rfl) ?_
        refine ⟨?_, rfl⟩
        rw [← hsc, hie, Nat.sub_self]; rfl
      · skip
        have hil : i0 < ld := by
          rcases Nat.lt_or_ge i0 ld with h | h
          · exact h
          · exact absurd ((nI_leI (by omega) (by omega)).mpr h) c_9
        obtain ⟨q1, hq1⟩ : ∃ q1, Pw[i0]? = some q1 := ⟨_, List.getElem?_eq_getElem (by omega)⟩
        obtain ⟨hq3, ha3, ha4, hqw, hwa, hwb, b1, b2, b3⟩ := hw i0 q1 hq1
        refine x_aload_n C D_X5_depthToRebuild_0.2.2.2.2.2.2.2.2.1 rfl rfl (by first | exact Or.inr ⟨_, rfl⟩ | exact va_rf_or _ | exact Or.inl rfl) ?_
        refine x_iload_n C D_X5_depthToRebuild_0.2.2.2.2.2.2.2.2.2.1 rfl rfl ?_
        refine x_callVq C (y := yX4_at) (c_X4_at l G pq pn 40 Pw.length (nI i0) hrow) (ci := 3) hkp (by decide) rfl rfl k_652 k_273 k_274 k_63 k_275 hd_X4_at ⟨(Nat.le_of_ble_eq_true rfl), (Nat.le_of_ble_eq_true rfl)⟩ rfl (by first | exact Nat.le_of_ble_eq_true rfl | simp [x_crf, Value.category]) rfl rfl D_X5_depthToRebuild_0.2.2.2.2.2.2.2.2.2.2.1 ⟨(Nat.le_of_ble_eq_true rfl), (Nat.le_of_ble_eq_true rfl)⟩ (fun r_14 S_14 h_14 => ?_)
        obtain ⟨hr14, rfl⟩ := h_14
        rw [atv_in _ (by omega) (by omega), ← Nat.zero_add i0, hsg i0 (by omega), hq1] at hr14
        subst hr14
        rw [Nat.zero_add]
        refine x_astore_n C (lv' := [_, _, _, _]) D_X5_depthToRebuild_0.2.2.2.2.2.2.2.2.2.2.2 rfl (Nat.le_of_ble_eq_true rfl) rfl (by first | exact Or.inr ⟨_, rfl⟩ | exact va_rf_or _ | exact Or.inl rfl) rfl ?_
        refine x_aload_n C D_X5_depthToRebuild_1.1 rfl rfl (by first | exact Or.inr ⟨_, rfl⟩ | exact va_rf_or _ | exact Or.inl rfl) ?_
        refine x_ifnull C 31 D_X5_depthToRebuild_1.2.1 (by decide) (fun e_19 => ?_) (fun x9 e_19 => ?_)
        · skip
          exact absurd e_19 (by simp)
          --end
        · skip
          obtain rfl : q1 = x9 := Option.some.inj e_19
          refine x_aload_n C D_X5_depthToRebuild_1.2.2.1 rfl rfl (by first | exact Or.inr ⟨_, rfl⟩ | exact va_rf_or _ | exact Or.inl rfl) ?_
          refine x_callSz C (y := yX5_hasHeavyChild) (c_X5_hasHeavyChild l G q1 (w i0) (wa i0) (wb i0) hq3 ha3 ha4 hqw hwa hwb b1 b2 b3) k_653 k_654 k_66 k_655 hd_X5_hasHeavyChild ⟨(Nat.le_of_ble_eq_true rfl), (Nat.le_of_ble_eq_true rfl)⟩ rfl (by first | exact Nat.le_of_ble_eq_true rfl | simp [x_crf, Value.category]) rfl rfl D_X5_depthToRebuild_1.2.2.2.1 ⟨(Nat.le_of_ble_eq_true rfl), (Nat.le_of_ble_eq_true rfl)⟩ (fun r_23 S_23 h_23 => ?_)
          obtain ⟨rfl, rfl⟩ := h_23
          refine x_if_eq C 31 D_X5_depthToRebuild_1.2.2.2.2.1 (by decide) (fun c_26 => ?_) (fun c_26 => ?_)
          · skip
            have c2 : ¬ 2 * w i0 < 3 * max (wa i0) (wb i0) := by
              intro h
              rw [decide_eq_true h] at c_26
              exact absurd c_26 (by decide)
            refine x_iinc C (lv' := [_, _, _, _]) D_X5_depthToRebuild_1.2.2.2.2.2.2.2.1 rfl (x_inc_1 _) rfl rfl ?_
            refine x_goto C 2 D_X5_depthToRebuild_1.2.2.2.2.2.2.2.2.1 (by decide) ?_
            refine x_lv (lv := [_, _, some (.int (nI (i0 + 1))), _]) (by rw [nI_add]) ?_
            refine ih_2 (i0 + 1) _ (by omega) (by omega) ?_
            rw [← hsc, show ld - i0 = (ld - (i0 + 1)) + 1 by omega]
            simp [fstF, c2]
          · skip
            have c2 : 2 * w i0 < 3 * max (wa i0) (wb i0) := by
              by_cases h : 2 * w i0 < 3 * max (wa i0) (wb i0)
              · exact h
              · rw [decide_eq_false h] at c_26
                exact absurd rfl c_26
            refine x_iload_n C D_X5_depthToRebuild_1.2.2.2.2.2.1 rfl rfl ?_
            refine ret _ _ _ _ _ _ rfl D_X5_depthToRebuild_1.2.2.2.2.2.2.1 (Nat.le_of_ble_eq_true rfl) (Nat.le_of_ble_eq_true rfl) ?_
            refine ⟨?_, rfl⟩
            rw [← hsc, show ld - i0 = (ld - (i0 + 1)) + 1 by omega]
            simp [fstF, c2, oI]
  exact L_2 _ 0 _ (Nat.lt_succ_self _) (Nat.zero_le _) rfl
