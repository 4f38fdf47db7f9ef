theorem cat1 {s : State} {c : Code} {own E : String} {pc a b h t : Nat} {rest : List (Nat × Nat × Nat × Nat)} (htb : c.exceptionTable.toList = tableOf ((a, b, h, t) :: rest)) (hcov : covers ⟨a, b, h, t⟩ pc = true) (ht : t ≠ 0) (hl : Cond.classLink own t E ∈ ALL) (hc : va_Nw (.castable E E) s) : xCat s c own E pc h :=
  ⟨E, [], ⟨a, b, h, t⟩, tableOf rest, htb, (fun z hz => by cases hz), hcov, ht, hl, hc, rfl⟩
theorem cat2 {s : State} {c : Code} {own E E1 : String} {pc a b h t a1 b1 h1 t1 : Nat} {rest : List (Nat × Nat × Nat × Nat)} (htb : c.exceptionTable.toList = tableOf ((a1, b1, h1, t1) :: (a, b, h, t) :: rest)) (ht1 : t1 ≠ 0) (hl1 : Cond.classLink own t1 E1 ∈ ALL) (hn : va_Nc E E1 s) (hcov : covers ⟨a, b, h, t⟩ pc = true) (ht : t ≠ 0) (hl : Cond.classLink own t E ∈ ALL) (hc : va_Nw (.castable E E) s) : xCat s c own E pc h :=
  ⟨E, [⟨a1, b1, h1, t1⟩], ⟨a, b, h, t⟩, tableOf rest, htb, (fun z hz => by
    simp only [List.mem_cons, List.not_mem_nil, or_false] at hz
    subst hz
    exact Or.inr ⟨ht1, E1, hl1, hn⟩), hcov, ht, hl, hc, rfl⟩
theorem gX.ca {G : xG} {s : State} {H : Heap} (h : gX G s H) : va_Nw (.castable eIA eIA) s ∧ va_Nw (.castable eIS eIS) s ∧ va_Nw (.castable eIO eIO) s ∧ va_Nw (.castable eNS eNS) s := ⟨h.2.2.2.1 _ (by simp [thW]), h.2.2.2.1 _ (by simp [thW]), h.2.2.2.1 _ (by simp [thW]), h.2.2.2.1 _ (by simp [thW])⟩
theorem kw_add : Cond.codeWith yL_add cL_add 4 (some .int) [(0, 16, 19, 13), (0, 16, 22, 15)] ∈ ALL := all_mem 500 (by decide +kernel)
theorem kw_keyAt : Cond.codeWith yL_keyAt cL_keyAt 4 (some .int) [(0, 9, 12, 21)] ∈ ALL := all_mem 714 (by decide +kernel)
theorem kw_depth : Cond.codeWith yL_depth cL_depth 4 (some .int) [(0, 9, 12, 26)] ∈ ALL := all_mem 742 (by decide +kernel)
theorem kw_weight : Cond.codeWith yL_weight cL_weight 4 (some .int) [(0, 9, 12, 26)] ∈ ALL := all_mem 772 (by decide +kernel)
theorem kw_depthInTurning : Cond.codeWith yL_depthInTurning cL_depthInTurning 4 (some .int) [(0, 9, 12, 26)] ∈ ALL := all_mem 783 (by decide +kernel)
theorem kw_turningRoot : Cond.codeWith yL_turningRoot cL_turningRoot 3 (some .int) [(0, 8, 11, 26)] ∈ ALL := all_mem 795 (by decide +kernel)
theorem kw_partOf : Cond.codeWith yL_partOf cL_partOf 4 (some .int) [(0, 9, 12, 26)] ∈ ALL := all_mem 807 (by decide +kernel)
theorem kw_entry : Cond.codeWith yL_entry cL_entry 5 (some .int) [(0, 10, 13, 26), (0, 10, 17, 21)] ∈ ALL := all_mem 816 (by decide +kernel)
theorem kw_addPoint : Cond.codeWith yL_addPoint cL_addPoint 5 (some .int) [(0, 17, 20, 13), (0, 17, 24, 15)] ∈ ALL := all_mem 833 (by decide +kernel)
theorem kw_pointDepth : Cond.codeWith yL_pointDepth cL_pointDepth 5 (some .int) [(0, 10, 13, 26)] ∈ ALL := all_mem 845 (by decide +kernel)
theorem kw_countIn : Cond.codeWith yL_countIn cL_countIn 7 (some .int) [(0, 14, 17, 13)] ∈ ALL := all_mem 856 (by decide +kernel)
theorem kw_nearest : Cond.codeWith yL_nearest cL_nearest 5 (some .int) [(0, 10, 13, 13), (0, 10, 17, 26)] ∈ ALL := all_mem 883 (by decide +kernel)
theorem D_L_add_0 : decode cL_add 0 = .ok (.aload_n 2, 1) ∧ decode cL_add 1 = .ok (.iconst 0, 1) ∧ decode cL_add 2 = .ok (.aload_n 0, 1) ∧ decode cL_add 3 = .ok (.iload_n 1, 1) ∧ decode cL_add 4 = .ok (.invokevirtual 7, 3) ∧ decode cL_add 7 = .ok (.ifCond .eq 7, 3) ∧ decode cL_add 10 = .ok (.lconst 1, 1) ∧ decode cL_add 11 = .ok (.goto 4, 3) ∧ decode cL_add 14 = .ok (.lconst 0, 1) ∧ decode cL_add 15 = .ok (.lastore, 1) ∧ decode cL_add 16 = .ok (.goto 9, 3) ∧ decode cL_add 19 = .ok (.astore_n 3, 1) := by decide +kernel
theorem D_L_add_1 : decode cL_add 20 = .ok (.iconst 1, 1) ∧ decode cL_add 21 = .ok (.ireturn, 1) ∧ decode cL_add 22 = .ok (.astore_n 3, 1) ∧ decode cL_add 23 = .ok (.iconst 2, 1) ∧ decode cL_add 24 = .ok (.ireturn, 1) ∧ decode cL_add 25 = .ok (.iconst 0, 1) ∧ decode cL_add 26 = .ok (.ireturn, 1) := by decide +kernel
theorem D_L_keyAt_0 : decode cL_keyAt 0 = .ok (.aload_n 2, 1) ∧ decode cL_keyAt 1 = .ok (.iconst 0, 1) ∧ decode cL_keyAt 2 = .ok (.aload_n 0, 1) ∧ decode cL_keyAt 3 = .ok (.iload_n 1, 1) ∧ decode cL_keyAt 4 = .ok (.invokevirtual 17, 3) ∧ decode cL_keyAt 7 = .ok (.i2l, 1) ∧ decode cL_keyAt 8 = .ok (.lastore, 1) ∧ decode cL_keyAt 9 = .ok (.goto 6, 3) ∧ decode cL_keyAt 12 = .ok (.astore_n 3, 1) ∧ decode cL_keyAt 13 = .ok (.iconst 1, 1) ∧ decode cL_keyAt 14 = .ok (.ireturn, 1) ∧ decode cL_keyAt 15 = .ok (.iconst 0, 1) := by decide +kernel
theorem D_L_keyAt_1 : decode cL_keyAt 16 = .ok (.ireturn, 1) := by decide +kernel
theorem D_L_depth_0 : decode cL_depth 0 = .ok (.aload_n 2, 1) ∧ decode cL_depth 1 = .ok (.iconst 0, 1) ∧ decode cL_depth 2 = .ok (.aload_n 0, 1) ∧ decode cL_depth 3 = .ok (.iload_n 1, 1) ∧ decode cL_depth 4 = .ok (.invokevirtual 23, 3) ∧ decode cL_depth 7 = .ok (.i2l, 1) ∧ decode cL_depth 8 = .ok (.lastore, 1) ∧ decode cL_depth 9 = .ok (.goto 6, 3) ∧ decode cL_depth 12 = .ok (.astore_n 3, 1) ∧ decode cL_depth 13 = .ok (.iconst 1, 1) ∧ decode cL_depth 14 = .ok (.ireturn, 1) ∧ decode cL_depth 15 = .ok (.iconst 0, 1) := by decide +kernel
theorem D_L_depth_1 : decode cL_depth 16 = .ok (.ireturn, 1) := by decide +kernel
theorem D_L_weight_0 : decode cL_weight 0 = .ok (.aload_n 2, 1) ∧ decode cL_weight 1 = .ok (.iconst 0, 1) ∧ decode cL_weight 2 = .ok (.aload_n 0, 1) ∧ decode cL_weight 3 = .ok (.iload_n 1, 1) ∧ decode cL_weight 4 = .ok (.invokevirtual 28, 3) ∧ decode cL_weight 7 = .ok (.i2l, 1) ∧ decode cL_weight 8 = .ok (.lastore, 1) ∧ decode cL_weight 9 = .ok (.goto 6, 3) ∧ decode cL_weight 12 = .ok (.astore_n 3, 1) ∧ decode cL_weight 13 = .ok (.iconst 1, 1) ∧ decode cL_weight 14 = .ok (.ireturn, 1) ∧ decode cL_weight 15 = .ok (.iconst 0, 1) := by decide +kernel
theorem D_L_weight_1 : decode cL_weight 16 = .ok (.ireturn, 1) := by decide +kernel
theorem D_L_depthInTurning_0 : decode cL_depthInTurning 0 = .ok (.aload_n 2, 1) ∧ decode cL_depthInTurning 1 = .ok (.iconst 0, 1) ∧ decode cL_depthInTurning 2 = .ok (.aload_n 0, 1) ∧ decode cL_depthInTurning 3 = .ok (.iload_n 1, 1) ∧ decode cL_depthInTurning 4 = .ok (.invokevirtual 31, 3) ∧ decode cL_depthInTurning 7 = .ok (.i2l, 1) ∧ decode cL_depthInTurning 8 = .ok (.lastore, 1) ∧ decode cL_depthInTurning 9 = .ok (.goto 6, 3) ∧ decode cL_depthInTurning 12 = .ok (.astore_n 3, 1) ∧ decode cL_depthInTurning 13 = .ok (.iconst 1, 1) ∧ decode cL_depthInTurning 14 = .ok (.ireturn, 1) ∧ decode cL_depthInTurning 15 = .ok (.iconst 0, 1) := by decide +kernel
theorem D_L_depthInTurning_1 : decode cL_depthInTurning 16 = .ok (.ireturn, 1) := by decide +kernel
theorem D_L_turningRoot_0 : decode cL_turningRoot 0 = .ok (.aload_n 1, 1) ∧ decode cL_turningRoot 1 = .ok (.iconst 0, 1) ∧ decode cL_turningRoot 2 = .ok (.aload_n 0, 1) ∧ decode cL_turningRoot 3 = .ok (.invokevirtual 34, 3) ∧ decode cL_turningRoot 6 = .ok (.i2l, 1) ∧ decode cL_turningRoot 7 = .ok (.lastore, 1) ∧ decode cL_turningRoot 8 = .ok (.goto 6, 3) ∧ decode cL_turningRoot 11 = .ok (.astore_n 2, 1) ∧ decode cL_turningRoot 12 = .ok (.iconst 1, 1) ∧ decode cL_turningRoot 13 = .ok (.ireturn, 1) ∧ decode cL_turningRoot 14 = .ok (.iconst 0, 1) ∧ decode cL_turningRoot 15 = .ok (.ireturn, 1) := by decide +kernel
theorem D_L_partOf_0 : decode cL_partOf 0 = .ok (.aload_n 2, 1) ∧ decode cL_partOf 1 = .ok (.iconst 0, 1) ∧ decode cL_partOf 2 = .ok (.aload_n 0, 1) ∧ decode cL_partOf 3 = .ok (.iload_n 1, 1) ∧ decode cL_partOf 4 = .ok (.invokevirtual 38, 3) ∧ decode cL_partOf 7 = .ok (.i2l, 1) ∧ decode cL_partOf 8 = .ok (.lastore, 1) ∧ decode cL_partOf 9 = .ok (.goto 6, 3) ∧ decode cL_partOf 12 = .ok (.astore_n 3, 1) ∧ decode cL_partOf 13 = .ok (.iconst 1, 1) ∧ decode cL_partOf 14 = .ok (.ireturn, 1) ∧ decode cL_partOf 15 = .ok (.iconst 0, 1) := by decide +kernel
theorem D_L_partOf_1 : decode cL_partOf 16 = .ok (.ireturn, 1) := by decide +kernel
theorem D_L_entry_0 : decode cL_entry 0 = .ok (.aload_n 3, 1) ∧ decode cL_entry 1 = .ok (.iconst 0, 1) ∧ decode cL_entry 2 = .ok (.aload_n 0, 1) ∧ decode cL_entry 3 = .ok (.iload_n 1, 1) ∧ decode cL_entry 4 = .ok (.iload_n 2, 1) ∧ decode cL_entry 5 = .ok (.invokevirtual 41, 3) ∧ decode cL_entry 8 = .ok (.i2l, 1) ∧ decode cL_entry 9 = .ok (.lastore, 1) ∧ decode cL_entry 10 = .ok (.goto 11, 3) ∧ decode cL_entry 13 = .ok (.astore 4, 2) ∧ decode cL_entry 15 = .ok (.iconst 1, 1) ∧ decode cL_entry 16 = .ok (.ireturn, 1) := by decide +kernel
theorem D_L_entry_1 : decode cL_entry 17 = .ok (.astore 4, 2) ∧ decode cL_entry 19 = .ok (.iconst 2, 1) ∧ decode cL_entry 20 = .ok (.ireturn, 1) ∧ decode cL_entry 21 = .ok (.iconst 0, 1) ∧ decode cL_entry 22 = .ok (.ireturn, 1) := by decide +kernel
theorem D_L_addPoint_0 : decode cL_addPoint 0 = .ok (.aload_n 3, 1) ∧ decode cL_addPoint 1 = .ok (.iconst 0, 1) ∧ decode cL_addPoint 2 = .ok (.aload_n 0, 1) ∧ decode cL_addPoint 3 = .ok (.iload_n 1, 1) ∧ decode cL_addPoint 4 = .ok (.iload_n 2, 1) ∧ decode cL_addPoint 5 = .ok (.invokevirtual 45, 3) ∧ decode cL_addPoint 8 = .ok (.ifCond .eq 7, 3) ∧ decode cL_addPoint 11 = .ok (.lconst 1, 1) ∧ decode cL_addPoint 12 = .ok (.goto 4, 3) ∧ decode cL_addPoint 15 = .ok (.lconst 0, 1) ∧ decode cL_addPoint 16 = .ok (.lastore, 1) ∧ decode cL_addPoint 17 = .ok (.goto 11, 3) := by decide +kernel
theorem D_L_addPoint_1 : decode cL_addPoint 20 = .ok (.astore 4, 2) ∧ decode cL_addPoint 22 = .ok (.iconst 1, 1) ∧ decode cL_addPoint 23 = .ok (.ireturn, 1) ∧ decode cL_addPoint 24 = .ok (.astore 4, 2) ∧ decode cL_addPoint 26 = .ok (.iconst 2, 1) ∧ decode cL_addPoint 27 = .ok (.ireturn, 1) ∧ decode cL_addPoint 28 = .ok (.iconst 0, 1) ∧ decode cL_addPoint 29 = .ok (.ireturn, 1) := by decide +kernel
theorem D_L_pointDepth_0 : decode cL_pointDepth 0 = .ok (.aload_n 3, 1) ∧ decode cL_pointDepth 1 = .ok (.iconst 0, 1) ∧ decode cL_pointDepth 2 = .ok (.aload_n 0, 1) ∧ decode cL_pointDepth 3 = .ok (.iload_n 1, 1) ∧ decode cL_pointDepth 4 = .ok (.iload_n 2, 1) ∧ decode cL_pointDepth 5 = .ok (.invokevirtual 49, 3) ∧ decode cL_pointDepth 8 = .ok (.i2l, 1) ∧ decode cL_pointDepth 9 = .ok (.lastore, 1) ∧ decode cL_pointDepth 10 = .ok (.goto 7, 3) ∧ decode cL_pointDepth 13 = .ok (.astore 4, 2) ∧ decode cL_pointDepth 15 = .ok (.iconst 1, 1) ∧ decode cL_pointDepth 16 = .ok (.ireturn, 1) := by decide +kernel
theorem D_L_pointDepth_1 : decode cL_pointDepth 17 = .ok (.iconst 0, 1) ∧ decode cL_pointDepth 18 = .ok (.ireturn, 1) := by decide +kernel
theorem D_L_countIn_0 : decode cL_countIn 0 = .ok (.aload 5, 2) ∧ decode cL_countIn 2 = .ok (.iconst 0, 1) ∧ decode cL_countIn 3 = .ok (.aload_n 0, 1) ∧ decode cL_countIn 4 = .ok (.iload_n 1, 1) ∧ decode cL_countIn 5 = .ok (.iload_n 2, 1) ∧ decode cL_countIn 6 = .ok (.iload_n 3, 1) ∧ decode cL_countIn 7 = .ok (.iload 4, 2) ∧ decode cL_countIn 9 = .ok (.invokevirtual 52, 3) ∧ decode cL_countIn 12 = .ok (.i2l, 1) ∧ decode cL_countIn 13 = .ok (.lastore, 1) ∧ decode cL_countIn 14 = .ok (.goto 7, 3) ∧ decode cL_countIn 17 = .ok (.astore 6, 2) := by decide +kernel
theorem D_L_countIn_1 : decode cL_countIn 19 = .ok (.iconst 1, 1) ∧ decode cL_countIn 20 = .ok (.ireturn, 1) ∧ decode cL_countIn 21 = .ok (.iconst 0, 1) ∧ decode cL_countIn 22 = .ok (.ireturn, 1) := by decide +kernel
theorem D_L_nearest_0 : decode cL_nearest 0 = .ok (.aload_n 3, 1) ∧ decode cL_nearest 1 = .ok (.iconst 0, 1) ∧ decode cL_nearest 2 = .ok (.aload_n 0, 1) ∧ decode cL_nearest 3 = .ok (.iload_n 1, 1) ∧ decode cL_nearest 4 = .ok (.iload_n 2, 1) ∧ decode cL_nearest 5 = .ok (.invokevirtual 56, 3) ∧ decode cL_nearest 8 = .ok (.i2l, 1) ∧ decode cL_nearest 9 = .ok (.lastore, 1) ∧ decode cL_nearest 10 = .ok (.goto 11, 3) ∧ decode cL_nearest 13 = .ok (.astore 4, 2) ∧ decode cL_nearest 15 = .ok (.iconst 1, 1) ∧ decode cL_nearest 16 = .ok (.ireturn, 1) := by decide +kernel
theorem D_L_nearest_1 : decode cL_nearest 17 = .ok (.astore 4, 2) ∧ decode cL_nearest 19 = .ok (.iconst 2, 1) ∧ decode cL_nearest 20 = .ok (.ireturn, 1) ∧ decode cL_nearest 21 = .ok (.iconst 0, 1) ∧ decode cL_nearest 22 = .ok (.ireturn, 1) := by decide +kernel
abbrev rm_L_addR : Room := { frames := 7, cells := 8, slots := 60, locals := 111 }
theorem hd_X8_add : yX8_add.cls ≠ "java/lang/invoke/MethodHandle" ∧ yX8_add.cls ≠ "java/lang/invoke/VarHandle" ∧ (parseMethodDescriptor yX8_add.desc).map (fun d => d.parameters.length) = some 1 := by decide +kernel
set_option maxHeartbeats 4000000 in
set_option maxRecDepth 100000 in
theorem c_L_addR (l : Launch) (G : xG) {K N : Nat → Nat} {I : Nat → Nat → Int32} {Q : Nat → Nat → Option Nat} {J : Nat → Nat → Int64} (ow : xO) (x o n m : Nat) (c : Nat → Nat) (al : Nat → Bool) (sp tu pt pc ps : Nat → Nat) (pa : Nat → Bool) (r d u g w : Int32) (y : Int32) (hlt : l.stackTraces = false) (hS : SY ow (K, N, I, Q, J) x n c al sp tu pt m pc pa ps r d u g w) (hO : K o = 24 ∧ N o = 1) (hy : y < -999 ∨ nI 999 < y)  : XMW l yL_add cL_add 4 (some .int) [(0, 16, 19, 13), (0, 16, 22, 15)] rm_L_addR G [.ref x, .int y, .ref o] (K, N, I, Q, J) (fun r_ S1 => r_ = nI 1 ∧ ∃ ow1, FR8 ow ow1 (K, N, I, Q, J) S1 ∧ SY ow1 S1 x n c al sp tu pt m pc pa ps r d u g w) := by
  refine x_metW (lv := [_, _, _, _]) (by decide +kernel) (x_cc (by first | rfl | exact x_crf _) (x_cc (by first | rfl | exact x_crf _) (x_cc (by first | rfl | exact x_crf _) x_cn))) (Nat.le_of_ble_eq_true rfl) rfl ?_
  intro pP eE sS mM aA bB hH cC Z C hX htb ret
  obtain ⟨ko, no⟩ := id hO
  have hx : K x = 8 := hS.choose_spec.choose_spec.choose_spec.choose_spec.1.1
  refine x_aload_n C D_L_add_0.1 rfl rfl (by first | exact Or.inr ⟨_, rfl⟩ | exact va_rf_or _ | exact Or.inl rfl) ?_
  refine x_iconst C (v := nI 0) D_L_add_0.2.1 (by decide +kernel) ?_
  refine x_aload_n C D_L_add_0.2.2.1 rfl rfl (by first | exact Or.inr ⟨_, rfl⟩ | exact va_rf_or _ | exact Or.inl rfl) ?_
  refine x_iload_n C D_L_add_0.2.2.2.1 rfl rfl ?_
  refine x_callTV C hX (y := yX8_add) (c_X8_addR l G ow x n m c al sp tu pt pc ps pa r d u g w y hlt hS hy) (ci := 7) hx (by decide) rfl rfl k_503 k_504 k_505 k_60 k_506 hd_X8_add ⟨(Nat.le_of_ble_eq_true rfl), (Nat.le_of_ble_eq_true rfl)⟩ rfl (by first | exact Nat.le_of_ble_eq_true rfl | simp [x_crf, Value.category]) rfl rfl D_L_add_0.2.2.2.2.1 ⟨(Nat.le_of_ble_eq_true rfl), (Nat.le_of_ble_eq_true rfl)⟩ (fun E_4 S_4 hx_4 => ?_) (fun r_4 S_4 h_4 => ?_)
  · skip
    obtain ⟨rfl, ow1, hF1, hS1⟩ := hx_4
    obtain ⟨K1, N1, I1, Q1, J1⟩ := S_4
    refine ⟨19, cat1 htb (by decide) (by decide) k_501 hX.ca.1, fun q9 => ?_⟩
    refine x_astore_n C (lv' := [_, _, _, _]) D_L_add_0.2.2.2.2.2.2.2.2.2.2.2 rfl (Nat.le_of_ble_eq_true rfl) (by first | rfl | exact x_ok_q rfl) (by first | exact Or.inr ⟨_, rfl⟩ | exact va_rf_or _ | exact Or.inl rfl) rfl ?_
    refine x_iconst C (v := nI 1) D_L_add_1.1 (by decide +kernel) ?_
    refine ret _ _ _ _ _ _ rfl D_L_add_1.2.1 (Nat.le_of_ble_eq_true rfl) (Nat.le_of_ble_eq_true rfl) ?_
    exact ⟨rfl, ow1, hF1, hS1⟩
  exact h_4.elim
abbrev rm_L_addT : Room := { frames := 7, cells := 8, slots := 60, locals := 111 }
set_option maxHeartbeats 4000000 in
set_option maxRecDepth 100000 in
theorem c_L_addT (l : Launch) (G : xG) {K N : Nat → Nat} {I : Nat → Nat → Int32} {Q : Nat → Nat → Option Nat} {J : Nat → Nat → Int64} (ow : xO) (x o n m : Nat) (c : Nat → Nat) (al : Nat → Bool) (sp tu pt pc ps : Nat → Nat) (pa : Nat → Bool) (r d u g w : Int32) (k : Nat) (hlt : l.stackTraces = false) (hS : SY ow (K, N, I, Q, J) x n c al sp tu pt m pc pa ps r d u g w) (hO : K o = 24 ∧ N o = 1) (hk : k < n) (hal : al k = true)  : XMW l yL_add cL_add 4 (some .int) [(0, 16, 19, 13), (0, 16, 22, 15)] rm_L_addT G [.ref x, .int (cv1 (c k)), .ref o] (K, N, I, Q, J) (fun r_ S1 => r_ = nI 0 ∧ ∃ S0 J2, S1 = (S0.1, S0.2.1, S0.2.2.1, S0.2.2.2.1, J2) ∧ J2 = x_u2 S0.2.2.2.2 o 0 (0) ∧ ∃ ow1, FR8 ow ow1 (K, N, I, Q, J) S0 ∧ SY ow1 S0 x n c al sp tu pt m pc pa ps r d u g w) := by
  refine x_metW (lv := [_, _, _, _]) (by decide +kernel) (x_cc (by first | rfl | exact x_crf _) (x_cc (by first | rfl | exact x_crf _) (x_cc (by first | rfl | exact x_crf _) x_cn))) (Nat.le_of_ble_eq_true rfl) rfl ?_
  intro pP eE sS mM aA bB hH cC Z C hX htb ret
  obtain ⟨ko, no⟩ := id hO
  have hx : K x = 8 := hS.choose_spec.choose_spec.choose_spec.choose_spec.1.1
  refine x_aload_n C D_L_add_0.1 rfl rfl (by first | exact Or.inr ⟨_, rfl⟩ | exact va_rf_or _ | exact Or.inl rfl) ?_
  refine x_iconst C (v := nI 0) D_L_add_0.2.1 (by decide +kernel) ?_
  refine x_aload_n C D_L_add_0.2.2.1 rfl rfl (by first | exact Or.inr ⟨_, rfl⟩ | exact va_rf_or _ | exact Or.inl rfl) ?_
  refine x_iload_n C D_L_add_0.2.2.2.1 rfl rfl ?_
  refine x_callTV C hX (y := yX8_add) (c_X8_addT l G ow x n m c al sp tu pt pc ps pa r d u g w k hlt hS hk hal) (ci := 7) hx (by decide) rfl rfl k_503 k_504 k_505 k_60 k_506 hd_X8_add ⟨(Nat.le_of_ble_eq_true rfl), (Nat.le_of_ble_eq_true rfl)⟩ rfl (by first | exact Nat.le_of_ble_eq_true rfl | simp [x_crf, Value.category]) rfl rfl D_L_add_0.2.2.2.2.1 ⟨(Nat.le_of_ble_eq_true rfl), (Nat.le_of_ble_eq_true rfl)⟩ (fun E_4 S_4 hx_4 => ?_) (fun r_4 S_4 h_4 => ?_)
  · skip
    exact hx_4.elim
  obtain ⟨rfl, ow1, hF1, hS1⟩ := h_4
  obtain ⟨K1, N1, I1, Q1, J1⟩ := S_4
  obtain ⟨ho1, ko1, no1, ho2⟩ := hF1 o (by show K o ≠ 0; omega)
  have ko1 : K1 o = 24 := ko1.trans ko
  have no1 : N1 o = 1 := no1.trans no
  refine x_if_eq C 14 D_L_add_0.2.2.2.2.2.1 (by decide) (fun c_7 => ?_) (fun c_7 => ?_)
  · skip
    refine x_lconst C (v := 0) D_L_add_0.2.2.2.2.2.2.2.2.1 (by decide +kernel) ?_
    refine x_last C 0 ko1 rfl (by omega) (by omega) D_L_add_0.2.2.2.2.2.2.2.2.2.1 (fun J2 eJ2 => ?_)
    refine x_goto C 25 D_L_add_0.2.2.2.2.2.2.2.2.2.2.1 (by decide) ?_
    refine x_iconst C (v := nI 0) D_L_add_1.2.2.2.2.2.1 (by decide +kernel) ?_
    refine ret _ _ _ _ _ _ rfl D_L_add_1.2.2.2.2.2.2 (Nat.le_of_ble_eq_true rfl) (Nat.le_of_ble_eq_true rfl) ?_
    exact ⟨rfl, (K1, N1, I1, Q1, J1), J2, rfl, eJ2, ow1, hF1, hS1⟩
  · skip
    exact absurd rfl c_7
    --end
abbrev rm_L_addG : Room := { frames := 7, cells := 8, slots := 60, locals := 111 }
set_option maxHeartbeats 4000000 in
set_option maxRecDepth 100000 in
theorem c_L_addG (l : Launch) (G : xG) {K N : Nat → Nat} {I : Nat → Nat → Int32} {Q : Nat → Nat → Option Nat} {J : Nat → Nat → Int64} (ow : xO) (x o n m : Nat) (c : Nat → Nat) (al : Nat → Bool) (sp tu pt pc ps : Nat → Nat) (pa : Nat → Bool) (r d u g w : Int32) (k : Nat) (hlt : l.stackTraces = false) (hS : SY ow (K, N, I, Q, J) x n c al sp tu pt m pc pa ps r d u g w) (hO : K o = 24 ∧ N o = 1) (hk : k < n) (hal : al k = false) (hlv : cn al n = 100)  : XMW l yL_add cL_add 4 (some .int) [(0, 16, 19, 13), (0, 16, 22, 15)] rm_L_addG G [.ref x, .int (cv1 (c k)), .ref o] (K, N, I, Q, J) (fun r_ S1 => r_ = nI 2 ∧ ∃ ow1, FR8 ow ow1 (K, N, I, Q, J) S1 ∧ SY ow1 S1 x n c al sp tu pt m pc pa ps r d u g w) := by
  refine x_metW (lv := [_, _, _, _]) (by decide +kernel) (x_cc (by first | rfl | exact x_crf _) (x_cc (by first | rfl | exact x_crf _) (x_cc (by first | rfl | exact x_crf _) x_cn))) (Nat.le_of_ble_eq_true rfl) rfl ?_
  intro pP eE sS mM aA bB hH cC Z C hX htb ret
  obtain ⟨ko, no⟩ := id hO
  have hx : K x = 8 := hS.choose_spec.choose_spec.choose_spec.choose_spec.1.1
  refine x_aload_n C D_L_add_0.1 rfl rfl (by first | exact Or.inr ⟨_, rfl⟩ | exact va_rf_or _ | exact Or.inl rfl) ?_
  refine x_iconst C (v := nI 0) D_L_add_0.2.1 (by decide +kernel) ?_
  refine x_aload_n C D_L_add_0.2.2.1 rfl rfl (by first | exact Or.inr ⟨_, rfl⟩ | exact va_rf_or _ | exact Or.inl rfl) ?_
  refine x_iload_n C D_L_add_0.2.2.2.1 rfl rfl ?_
  refine x_callTV C hX (y := yX8_add) (c_X8_addG l G ow x n m c al sp tu pt pc ps pa r d u g w k hlt hS hk hal hlv) (ci := 7) hx (by decide) rfl rfl k_503 k_504 k_505 k_60 k_506 hd_X8_add ⟨(Nat.le_of_ble_eq_true rfl), (Nat.le_of_ble_eq_true rfl)⟩ rfl (by first | exact Nat.le_of_ble_eq_true rfl | simp [x_crf, Value.category]) rfl rfl D_L_add_0.2.2.2.2.1 ⟨(Nat.le_of_ble_eq_true rfl), (Nat.le_of_ble_eq_true rfl)⟩ (fun E_4 S_4 hx_4 => ?_) (fun r_4 S_4 h_4 => ?_)
  · skip
    obtain ⟨rfl, ow1, hF1, hS1⟩ := hx_4
    obtain ⟨K1, N1, I1, Q1, J1⟩ := S_4
    refine ⟨22, cat2 htb (by decide) k_501 hX.2.2.2.2.1 (by decide) (by decide) k_502 hX.ca.2.1, fun q9 => ?_⟩
    refine x_astore_n C (lv' := [_, _, _, _]) D_L_add_1.2.2.1 rfl (Nat.le_of_ble_eq_true rfl) (by first | rfl | exact x_ok_q rfl) (by first | exact Or.inr ⟨_, rfl⟩ | exact va_rf_or _ | exact Or.inl rfl) rfl ?_
    refine x_iconst C (v := nI 2) D_L_add_1.2.2.2.1 (by decide +kernel) ?_
    refine ret _ _ _ _ _ _ rfl D_L_add_1.2.2.2.2.1 (Nat.le_of_ble_eq_true rfl) (Nat.le_of_ble_eq_true rfl) ?_
    exact ⟨rfl, ow1, hF1, hS1⟩
  exact h_4.elim
abbrev rm_L_addF : Room := { frames := 7, cells := 8, slots := 60, locals := 111 }
set_option maxHeartbeats 4000000 in
set_option maxRecDepth 100000 in
theorem c_L_addF (l : Launch) (G : xG) {K N : Nat → Nat} {I : Nat → Nat → Int32} {Q : Nat → Nat → Option Nat} {J : Nat → Nat → Int64} (ow : xO) (x o n m : Nat) (c : Nat → Nat) (al : Nat → Bool) (sp tu pt pc ps : Nat → Nat) (pa : Nat → Bool) (r d u g w : Int32) (cc : Nat) (hlt : l.stackTraces = false) (hS : SY ow (K, N, I, Q, J) x n c al sp tu pt m pc pa ps r d u g w) (hO : K o = 24 ∧ N o = 1) (hcb : cc < 1999) (hnew : ∀ i, i < n → c i ≠ cc) (hlv : cn al n = 100)  : XMW l yL_add cL_add 4 (some .int) [(0, 16, 19, 13), (0, 16, 22, 15)] rm_L_addF G [.ref x, .int (cv1 cc), .ref o] (K, N, I, Q, J) (fun r_ S1 => r_ = nI 2 ∧ ∃ ow1, FR8 ow ow1 (K, N, I, Q, J) S1 ∧ SY ow1 S1 x n c al sp tu pt m pc pa ps r d u g w) := by
  refine x_metW (lv := [_, _, _, _]) (by decide +kernel) (x_cc (by first | rfl | exact x_crf _) (x_cc (by first | rfl | exact x_crf _) (x_cc (by first | rfl | exact x_crf _) x_cn))) (Nat.le_of_ble_eq_true rfl) rfl ?_
  intro pP eE sS mM aA bB hH cC Z C hX htb ret
  obtain ⟨ko, no⟩ := id hO
  have hx : K x = 8 := hS.choose_spec.choose_spec.choose_spec.choose_spec.1.1
  refine x_aload_n C D_L_add_0.1 rfl rfl (by first | exact Or.inr ⟨_, rfl⟩ | exact va_rf_or _ | exact Or.inl rfl) ?_
  refine x_iconst C (v := nI 0) D_L_add_0.2.1 (by decide +kernel) ?_
  refine x_aload_n C D_L_add_0.2.2.1 rfl rfl (by first | exact Or.inr ⟨_, rfl⟩ | exact va_rf_or _ | exact Or.inl rfl) ?_
  refine x_iload_n C D_L_add_0.2.2.2.1 rfl rfl ?_
  refine x_callTV C hX (y := yX8_add) (c_X8_addF l G ow x n m c al sp tu pt pc ps pa r d u g w cc hlt hS hcb hnew hlv) (ci := 7) hx (by decide) rfl rfl k_503 k_504 k_505 k_60 k_506 hd_X8_add ⟨(Nat.le_of_ble_eq_true rfl), (Nat.le_of_ble_eq_true rfl)⟩ rfl (by first | exact Nat.le_of_ble_eq_true rfl | simp [x_crf, Value.category]) rfl rfl D_L_add_0.2.2.2.2.1 ⟨(Nat.le_of_ble_eq_true rfl), (Nat.le_of_ble_eq_true rfl)⟩ (fun E_4 S_4 hx_4 => ?_) (fun r_4 S_4 h_4 => ?_)
  · skip
    obtain ⟨rfl, ow1, hF1, hS1⟩ := hx_4
    obtain ⟨K1, N1, I1, Q1, J1⟩ := S_4
    refine ⟨22, cat2 htb (by decide) k_501 hX.2.2.2.2.1 (by decide) (by decide) k_502 hX.ca.2.1, fun q9 => ?_⟩
    refine x_astore_n C (lv' := [_, _, _, _]) D_L_add_1.2.2.1 rfl (Nat.le_of_ble_eq_true rfl) (by first | rfl | exact x_ok_q rfl) (by first | exact Or.inr ⟨_, rfl⟩ | exact va_rf_or _ | exact Or.inl rfl) rfl ?_
    refine x_iconst C (v := nI 2) D_L_add_1.2.2.2.1 (by decide +kernel) ?_
    refine ret _ _ _ _ _ _ rfl D_L_add_1.2.2.2.2.1 (Nat.le_of_ble_eq_true rfl) (Nat.le_of_ble_eq_true rfl) ?_
    exact ⟨rfl, ow1, hF1, hS1⟩
  exact h_4.elim
abbrev rm_L_addD : Room := { frames := 7, cells := 8, slots := 60, locals := 151 }
set_option maxHeartbeats 4000000 in
set_option maxRecDepth 100000 in
theorem c_L_addD (l : Launch) (G : xG) {K N : Nat → Nat} {I : Nat → Nat → Int32} {Q : Nat → Nat → Option Nat} {J : Nat → Nat → Int64} (ow : xO) (x o n m : Nat) (c : Nat → Nat) (al : Nat → Bool) (sp tu pt pc ps : Nat → Nat) (pa : Nat → Bool) (r d u g w : Int32) (k : Nat) (hlt : l.stackTraces = false) (hS : SY ow (K, N, I, Q, J) x n c al sp tu pt m pc pa ps r d u g w) (hO : K o = 24 ∧ N o = 1) (hk : k < n) (hat : ∀ i, i < n → (al i = true ↔ 0 < tu i)) (hal : al k = false) (hlv : cn al n < 100)  : XMW l yL_add cL_add 4 (some .int) [(0, 16, 19, 13), (0, 16, 22, 15)] rm_L_addD G [.ref x, .int (cv1 (c k)), .ref o] (K, N, I, Q, J) (fun r_ S1 => r_ = nI 0 ∧ ∃ S0 J2, S1 = (S0.1, S0.2.1, S0.2.2.1, S0.2.2.2.1, J2) ∧ J2 = x_u2 S0.2.2.2.2 o 0 (1) ∧ ∃ ow1, FR8 ow ow1 (K, N, I, Q, J) S0 ∧ SY ow1 S0 x n c (x_up al k true) sp (balsM n 26 (x_up tu k (hplT n c tu k)) (hplT n c tu k / 2)).1 pt m pc pa ps r d (u + nI (balsM n 26 (x_up tu k (hplT n c tu k)) (hplT n c tu k / 2)).2) g w) := by
  refine x_metW (lv := [_, _, _, _]) (by decide +kernel) (x_cc (by first | rfl | exact x_crf _) (x_cc (by first | rfl | exact x_crf _) (x_cc (by first | rfl | exact x_crf _) x_cn))) (Nat.le_of_ble_eq_true rfl) rfl ?_
  intro pP eE sS mM aA bB hH cC Z C hX htb ret
  obtain ⟨ko, no⟩ := id hO
  have hx : K x = 8 := hS.choose_spec.choose_spec.choose_spec.choose_spec.1.1
  refine x_aload_n C D_L_add_0.1 rfl rfl (by first | exact Or.inr ⟨_, rfl⟩ | exact va_rf_or _ | exact Or.inl rfl) ?_
  refine x_iconst C (v := nI 0) D_L_add_0.2.1 (by decide +kernel) ?_
  refine x_aload_n C D_L_add_0.2.2.1 rfl rfl (by first | exact Or.inr ⟨_, rfl⟩ | exact va_rf_or _ | exact Or.inl rfl) ?_
  refine x_iload_n C D_L_add_0.2.2.2.1 rfl rfl ?_
  refine x_callTV C hX (y := yX8_add) (c_X8_addD l G ow x n m c al sp tu pt pc ps pa r d u g w k hlt hS hk hat hal hlv) (ci := 7) hx (by decide) rfl rfl k_503 k_504 k_505 k_60 k_506 hd_X8_add ⟨(Nat.le_of_ble_eq_true rfl), (Nat.le_of_ble_eq_true rfl)⟩ rfl (by first | exact Nat.le_of_ble_eq_true rfl | simp [x_crf, Value.category]) rfl rfl D_L_add_0.2.2.2.2.1 ⟨(Nat.le_of_ble_eq_true rfl), (Nat.le_of_ble_eq_true rfl)⟩ (fun E_4 S_4 hx_4 => ?_) (fun r_4 S_4 h_4 => ?_)
  · skip
    exact hx_4.elim
  obtain ⟨rfl, ow1, hF1, hS1⟩ := h_4
  obtain ⟨K1, N1, I1, Q1, J1⟩ := S_4
  obtain ⟨ho1, ko1, no1, ho2⟩ := hF1 o (by show K o ≠ 0; omega)
  have ko1 : K1 o = 24 := ko1.trans ko
  have no1 : N1 o = 1 := no1.trans no
  refine x_if_eq C 14 D_L_add_0.2.2.2.2.2.1 (by decide) (fun c_7 => ?_) (fun c_7 => ?_)
  · skip
    exact absurd c_7 (by decide)
    --end
  · skip
    refine x_lconst C (v := 1) D_L_add_0.2.2.2.2.2.2.1 (by decide +kernel) ?_
    refine x_goto C 15 D_L_add_0.2.2.2.2.2.2.2.1 (by decide) ?_
    refine x_last C 0 ko1 rfl (by omega) (by omega) D_L_add_0.2.2.2.2.2.2.2.2.2.1 (fun J2 eJ2 => ?_)
    refine x_goto C 25 D_L_add_0.2.2.2.2.2.2.2.2.2.2.1 (by decide) ?_
    refine x_iconst C (v := nI 0) D_L_add_1.2.2.2.2.2.1 (by decide +kernel) ?_
    refine ret _ _ _ _ _ _ rfl D_L_add_1.2.2.2.2.2.2 (Nat.le_of_ble_eq_true rfl) (Nat.le_of_ble_eq_true rfl) ?_
    exact ⟨rfl, (K1, N1, I1, Q1, J1), J2, rfl, eJ2, ow1, hF1, hS1⟩
abbrev rm_L_addN : Room := { frames := 47, cells := 8, slots := 60, locals := 1096 }
set_option maxHeartbeats 4000000 in
set_option maxRecDepth 100000 in
theorem c_L_addN (l : Launch) (G : xG) {K N : Nat → Nat} {I : Nat → Nat → Int32} {Q : Nat → Nat → Option Nat} {J : Nat → Nat → Int64} (ow : xO) (x o n m : Nat) (c : Nat → Nat) (al : Nat → Bool) (sp tu pt pc ps : Nat → Nat) (pa : Nat → Bool) (r d u g w : Int32) (cc : Nat) (hlt : l.stackTraces = false) (hS : SY ow (K, N, I, Q, J) x n c al sp tu pt m pc pa ps r d u g w) (hO : K o = 24 ∧ N o = 1) (hat : ∀ i, i < n → (al i = true ↔ 0 < tu i)) (hcb : cc < 1999) (hnew : ∀ i, i < n → c i ≠ cc) (hlv : cn al n < 100) (hdd : n - cn al n ≤ cn al n)  : XMW l yL_add cL_add 4 (some .int) [(0, 16, 19, 13), (0, 16, 22, 15)] rm_L_addN G [.ref x, .int (cv1 cc), .ref o] (K, N, I, Q, J) (fun r_ S1 => r_ = nI 0 ∧ ∃ S0 J2, S1 = (S0.1, S0.2.1, S0.2.2.1, S0.2.2.2.1, J2) ∧ J2 = x_u2 S0.2.2.2.2 o 0 (1) ∧ ∃ ow1, FR8 ow ow1 (K, N, I, Q, J) S0 ∧ SY ow1 S0 x (n + 1) (ins c (insP (fun k => decide (cc < c k)) n) cc) (ins al (insP (fun k => decide (cc < c k)) n) true) (grS (n + 1) (ins sp (insP (fun k => decide (cc < c k)) n) (hpl1 n c sp cc)) (insP (fun k => decide (cc < c k)) n)) (balsM (n + 1) 26 (x_up (ins tu (insP (fun k => decide (cc < c k)) n) 0) (insP (fun k => decide (cc < c k)) n) (hplT (n + 1) (ins c (insP (fun k => decide (cc < c k)) n) cc) (ins tu (insP (fun k => decide (cc < c k)) n) 0) (insP (fun k => decide (cc < c k)) n))) ((hplT (n + 1) (ins c (insP (fun k => decide (cc < c k)) n) cc) (ins tu (insP (fun k => decide (cc < c k)) n) 0) (insP (fun k => decide (cc < c k)) n)) / 2)).1 (mrg (List.range (n + 1)) 8 0 (ins pt (insP (fun k => decide (cc < c k)) n) 0)).1 m pc pa ps (r + nI (grW (n + 1) (ins sp (insP (fun k => decide (cc < c k)) n) (hpl1 n c sp cc)) (insP (fun k => decide (cc < c k)) n))) d (u + nI (balsM (n + 1) 26 (x_up (ins tu (insP (fun k => decide (cc < c k)) n) 0) (insP (fun k => decide (cc < c k)) n) (hplT (n + 1) (ins c (insP (fun k => decide (cc < c k)) n) cc) (ins tu (insP (fun k => decide (cc < c k)) n) 0) (insP (fun k => decide (cc < c k)) n))) ((hplT (n + 1) (ins c (insP (fun k => decide (cc < c k)) n) cc) (ins tu (insP (fun k => decide (cc < c k)) n) 0) (insP (fun k => decide (cc < c k)) n)) / 2)).2) (g + nI (mrg (List.range (n + 1)) 8 0 (ins pt (insP (fun k => decide (cc < c k)) n) 0)).2) w) := by
  refine x_metW (lv := [_, _, _, _]) (by decide +kernel) (x_cc (by first | rfl | exact x_crf _) (x_cc (by first | rfl | exact x_crf _) (x_cc (by first | rfl | exact x_crf _) x_cn))) (Nat.le_of_ble_eq_true rfl) rfl ?_
  intro pP eE sS mM aA bB hH cC Z C hX htb ret
  obtain ⟨ko, no⟩ := id hO
  have hx : K x = 8 := hS.choose_spec.choose_spec.choose_spec.choose_spec.1.1
  refine x_aload_n C D_L_add_0.1 rfl rfl (by first | exact Or.inr ⟨_, rfl⟩ | exact va_rf_or _ | exact Or.inl rfl) ?_
  refine x_iconst C (v := nI 0) D_L_add_0.2.1 (by decide +kernel) ?_
  refine x_aload_n C D_L_add_0.2.2.1 rfl rfl (by first | exact Or.inr ⟨_, rfl⟩ | exact va_rf_or _ | exact Or.inl rfl) ?_
  refine x_iload_n C D_L_add_0.2.2.2.1 rfl rfl ?_
  refine x_callTV C hX (y := yX8_add) (c_X8_addN l G ow x n m c al sp tu pt pc ps pa r d u g w cc hlt hS hat hcb hnew hlv hdd) (ci := 7) hx (by decide) rfl rfl k_503 k_504 k_505 k_60 k_506 hd_X8_add ⟨(Nat.le_of_ble_eq_true rfl), (Nat.le_of_ble_eq_true rfl)⟩ rfl (by first | exact Nat.le_of_ble_eq_true rfl | simp [x_crf, Value.category]) rfl rfl D_L_add_0.2.2.2.2.1 ⟨(Nat.le_of_ble_eq_true rfl), (Nat.le_of_ble_eq_true rfl)⟩ (fun E_4 S_4 hx_4 => ?_) (fun r_4 S_4 h_4 => ?_)
  · skip
    exact hx_4.elim
  obtain ⟨rfl, ow1, hF1, hS1⟩ := h_4
  obtain ⟨K1, N1, I1, Q1, J1⟩ := S_4
  obtain ⟨ho1, ko1, no1, ho2⟩ := hF1 o (by show K o ≠ 0; omega)
  have ko1 : K1 o = 24 := ko1.trans ko
  have no1 : N1 o = 1 := no1.trans no
  refine x_if_eq C 14 D_L_add_0.2.2.2.2.2.1 (by decide) (fun c_7 => ?_) (fun c_7 => ?_)
  · skip
    exact absurd c_7 (by decide)
    --end
  · skip
    refine x_lconst C (v := 1) D_L_add_0.2.2.2.2.2.2.1 (by decide +kernel) ?_
    refine x_goto C 15 D_L_add_0.2.2.2.2.2.2.2.1 (by decide) ?_
    refine x_last C 0 ko1 rfl (by omega) (by omega) D_L_add_0.2.2.2.2.2.2.2.2.2.1 (fun J2 eJ2 => ?_)
    refine x_goto C 25 D_L_add_0.2.2.2.2.2.2.2.2.2.2.1 (by decide) ?_
    refine x_iconst C (v := nI 0) D_L_add_1.2.2.2.2.2.1 (by decide +kernel) ?_
    refine ret _ _ _ _ _ _ rfl D_L_add_1.2.2.2.2.2.2 (Nat.le_of_ble_eq_true rfl) (Nat.le_of_ble_eq_true rfl) ?_
    exact ⟨rfl, (K1, N1, I1, Q1, J1), J2, rfl, eJ2, ow1, hF1, hS1⟩
abbrev rm_L_keyAtY : Room := { frames := 7, cells := 8, slots := 60, locals := 112 }
theorem hd_X8_keyAt : yX8_keyAt.cls ≠ "java/lang/invoke/MethodHandle" ∧ yX8_keyAt.cls ≠ "java/lang/invoke/VarHandle" ∧ (parseMethodDescriptor yX8_keyAt.desc).map (fun d => d.parameters.length) = some 1 := by decide +kernel
set_option maxHeartbeats 4000000 in
set_option maxRecDepth 100000 in
theorem c_L_keyAtY (l : Launch) (G : xG) {K N : Nat → Nat} {I : Nat → Nat → Int32} {Q : Nat → Nat → Option Nat} {J : Nat → Nat → Int64} (ow : xO) (x o n m : Nat) (c : Nat → Nat) (al : Nat → Bool) (sp tu pt pc ps : Nat → Nat) (pa : Nat → Bool) (r d u g w : Int32) (j : Nat) (hlt : l.stackTraces = false) (hS : SY ow (K, N, I, Q, J) x n c al sp tu pt m pc pa ps r d u g w) (hO : K o = 24 ∧ N o = 1) (hj : j < cn al n)  : XMW l yL_keyAt cL_keyAt 4 (some .int) [(0, 9, 12, 21)] rm_L_keyAtY G [.ref x, .int (nI j), .ref o] (K, N, I, Q, J) (fun r_ S1 => r_ = nI 0 ∧ ∃ S0 J2, S1 = (S0.1, S0.2.1, S0.2.2.1, S0.2.2.2.1, J2) ∧ J2 = x_u2 S0.2.2.2.2 o 0 ((cv1 (c (selF al n j))).toInt64) ∧ ∃ ow1, FR8 ow ow1 (K, N, I, Q, J) S0 ∧ SY ow1 S0 x n c al sp tu pt m pc pa ps r d u g w) := by
  refine x_metW (lv := [_, _, _, _]) (by decide +kernel) (x_cc (by first | rfl | exact x_crf _) (x_cc (by first | rfl | exact x_crf _) (x_cc (by first | rfl | exact x_crf _) x_cn))) (Nat.le_of_ble_eq_true rfl) rfl ?_
  intro pP eE sS mM aA bB hH cC Z C hX htb ret
  obtain ⟨ko, no⟩ := id hO
  have hx : K x = 8 := hS.choose_spec.choose_spec.choose_spec.choose_spec.1.1
  refine x_aload_n C D_L_keyAt_0.1 rfl rfl (by first | exact Or.inr ⟨_, rfl⟩ | exact va_rf_or _ | exact Or.inl rfl) ?_
  refine x_iconst C (v := nI 0) D_L_keyAt_0.2.1 (by decide +kernel) ?_
  refine x_aload_n C D_L_keyAt_0.2.2.1 rfl rfl (by first | exact Or.inr ⟨_, rfl⟩ | exact va_rf_or _ | exact Or.inl rfl) ?_
  refine x_iload_n C D_L_keyAt_0.2.2.2.1 rfl rfl ?_
  refine x_callTV C hX (y := yX8_keyAt) (c_X8_keyAtY l G ow x n m c al sp tu pt pc ps pa r d u g w j hlt hS hj) (ci := 7) hx (by decide) rfl rfl k_716 k_717 k_718 k_60 k_719 hd_X8_keyAt ⟨(Nat.le_of_ble_eq_true rfl), (Nat.le_of_ble_eq_true rfl)⟩ rfl (by first | exact Nat.le_of_ble_eq_true rfl | simp [x_crf, Value.category]) rfl rfl D_L_keyAt_0.2.2.2.2.1 ⟨(Nat.le_of_ble_eq_true rfl), (Nat.le_of_ble_eq_true rfl)⟩ (fun E_4 S_4 hx_4 => ?_) (fun r_4 S_4 h_4 => ?_)
  · skip
    exact hx_4.elim
  obtain ⟨rfl, ow1, hF1, hS1⟩ := h_4
  obtain ⟨K1, N1, I1, Q1, J1⟩ := S_4
  obtain ⟨ho1, ko1, no1, ho2⟩ := hF1 o (by show K o ≠ 0; omega)
  have ko1 : K1 o = 24 := ko1.trans ko
  have no1 : N1 o = 1 := no1.trans no
  refine x_i2l C D_L_keyAt_0.2.2.2.2.2.1 ?_
  refine x_last C 0 ko1 rfl (by omega) (by omega) D_L_keyAt_0.2.2.2.2.2.2.1 (fun J2 eJ2 => ?_)
  refine x_goto C 15 D_L_keyAt_0.2.2.2.2.2.2.2.1 (by decide) ?_
  refine x_iconst C (v := nI 0) D_L_keyAt_0.2.2.2.2.2.2.2.2.2.2.2 (by decide +kernel) ?_
  refine ret _ _ _ _ _ _ rfl D_L_keyAt_1 (Nat.le_of_ble_eq_true rfl) (Nat.le_of_ble_eq_true rfl) ?_
  exact ⟨rfl, (K1, N1, I1, Q1, J1), J2, rfl, eJ2, ow1, hF1, hS1⟩
abbrev rm_L_keyAtN : Room := { frames := 7, cells := 8, slots := 60, locals := 112 }
set_option maxHeartbeats 4000000 in
set_option maxRecDepth 100000 in
theorem c_L_keyAtN (l : Launch) (G : xG) {K N : Nat → Nat} {I : Nat → Nat → Int32} {Q : Nat → Nat → Option Nat} {J : Nat → Nat → Int64} (ow : xO) (x o n m : Nat) (c : Nat → Nat) (al : Nat → Bool) (sp tu pt pc ps : Nat → Nat) (pa : Nat → Bool) (r d u g w : Int32) (y : Int32) (hlt : l.stackTraces = false) (hS : SY ow (K, N, I, Q, J) x n c al sp tu pt m pc pa ps r d u g w) (hO : K o = 24 ∧ N o = 1) (hy : y < 0 ∨ nI (cn al n) ≤ y)  : XMW l yL_keyAt cL_keyAt 4 (some .int) [(0, 9, 12, 21)] rm_L_keyAtN G [.ref x, .int y, .ref o] (K, N, I, Q, J) (fun r_ S1 => r_ = nI 1 ∧ ∃ ow1, FR8 ow ow1 (K, N, I, Q, J) S1 ∧ SY ow1 S1 x n c al sp tu pt m pc pa ps r d u g w) := by
  refine x_metW (lv := [_, _, _, _]) (by decide +kernel) (x_cc (by first | rfl | exact x_crf _) (x_cc (by first | rfl | exact x_crf _) (x_cc (by first | rfl | exact x_crf _) x_cn))) (Nat.le_of_ble_eq_true rfl) rfl ?_
  intro pP eE sS mM aA bB hH cC Z C hX htb ret
  obtain ⟨ko, no⟩ := id hO
  have hx : K x = 8 := hS.choose_spec.choose_spec.choose_spec.choose_spec.1.1
  refine x_aload_n C D_L_keyAt_0.1 rfl rfl (by first | exact Or.inr ⟨_, rfl⟩ | exact va_rf_or _ | exact Or.inl rfl) ?_
  refine x_iconst C (v := nI 0) D_L_keyAt_0.2.1 (by decide +kernel) ?_
  refine x_aload_n C D_L_keyAt_0.2.2.1 rfl rfl (by first | exact Or.inr ⟨_, rfl⟩ | exact va_rf_or _ | exact Or.inl rfl) ?_
  refine x_iload_n C D_L_keyAt_0.2.2.2.1 rfl rfl ?_
  refine x_callTV C hX (y := yX8_keyAt) (c_X8_keyAtN l G ow x n m c al sp tu pt pc ps pa r d u g w y hlt hS hy) (ci := 7) hx (by decide) rfl rfl k_716 k_717 k_718 k_60 k_719 hd_X8_keyAt ⟨(Nat.le_of_ble_eq_true rfl), (Nat.le_of_ble_eq_true rfl)⟩ rfl (by first | exact Nat.le_of_ble_eq_true rfl | simp [x_crf, Value.category]) rfl rfl D_L_keyAt_0.2.2.2.2.1 ⟨(Nat.le_of_ble_eq_true rfl), (Nat.le_of_ble_eq_true rfl)⟩ (fun E_4 S_4 hx_4 => ?_) (fun r_4 S_4 h_4 => ?_)
  · skip
    obtain ⟨rfl, ow1, hF1, hS1⟩ := hx_4
    obtain ⟨K1, N1, I1, Q1, J1⟩ := S_4
    refine ⟨12, cat1 htb (by decide) (by decide) k_715 hX.ca.2.2.1, fun q9 => ?_⟩
    refine x_astore_n C (lv' := [_, _, _, _]) D_L_keyAt_0.2.2.2.2.2.2.2.2.1 rfl (Nat.le_of_ble_eq_true rfl) (by first | rfl | exact x_ok_q rfl) (by first | exact Or.inr ⟨_, rfl⟩ | exact va_rf_or _ | exact Or.inl rfl) rfl ?_
    refine x_iconst C (v := nI 1) D_L_keyAt_0.2.2.2.2.2.2.2.2.2.1 (by decide +kernel) ?_
    refine ret _ _ _ _ _ _ rfl D_L_keyAt_0.2.2.2.2.2.2.2.2.2.2.1 (Nat.le_of_ble_eq_true rfl) (Nat.le_of_ble_eq_true rfl) ?_
    exact ⟨rfl, ow1, hF1, hS1⟩
  exact h_4.elim
abbrev rm_L_depthY : Room := { frames := 7, cells := 8, slots := 60, locals := 112 }
theorem hd_X8_depth : yX8_depth.cls ≠ "java/lang/invoke/MethodHandle" ∧ yX8_depth.cls ≠ "java/lang/invoke/VarHandle" ∧ (parseMethodDescriptor yX8_depth.desc).map (fun d => d.parameters.length) = some 1 := by decide +kernel
set_option maxHeartbeats 4000000 in
set_option maxRecDepth 100000 in
theorem c_L_depthY (l : Launch) (G : xG) {K N : Nat → Nat} {I : Nat → Nat → Int32} {Q : Nat → Nat → Option Nat} {J : Nat → Nat → Int64} (ow : xO) (x o n m : Nat) (c : Nat → Nat) (al : Nat → Bool) (sp tu pt pc ps : Nat → Nat) (pa : Nat → Bool) (r d u g w : Int32) (k : Nat) (hlt : l.stackTraces = false) (hS : SY ow (K, N, I, Q, J) x n c al sp tu pt m pc pa ps r d u g w) (hO : K o = 24 ∧ N o = 1) (hk : k < n)  : XMW l yL_depth cL_depth 4 (some .int) [(0, 9, 12, 26)] rm_L_depthY G [.ref x, .int (cv1 (c k)), .ref o] (K, N, I, Q, J) (fun r_ S1 => r_ = nI 0 ∧ ∃ S0 J2, S1 = (S0.1, S0.2.1, S0.2.2.1, S0.2.2.2.1, J2) ∧ J2 = x_u2 S0.2.2.2.2 o 0 ((nI (dep (sp k))).toInt64) ∧ ∃ ow1, FR8 ow ow1 (K, N, I, Q, J) S0 ∧ SY ow1 S0 x n c al sp tu pt m pc pa ps r d u g w) := by
  refine x_metW (lv := [_, _, _, _]) (by decide +kernel) (x_cc (by first | rfl | exact x_crf _) (x_cc (by first | rfl | exact x_crf _) (x_cc (by first | rfl | exact x_crf _) x_cn))) (Nat.le_of_ble_eq_true rfl) rfl ?_
  intro pP eE sS mM aA bB hH cC Z C hX htb ret
  obtain ⟨ko, no⟩ := id hO
  have hx : K x = 8 := hS.choose_spec.choose_spec.choose_spec.choose_spec.1.1
  refine x_aload_n C D_L_depth_0.1 rfl rfl (by first | exact Or.inr ⟨_, rfl⟩ | exact va_rf_or _ | exact Or.inl rfl) ?_
  refine x_iconst C (v := nI 0) D_L_depth_0.2.1 (by decide +kernel) ?_
  refine x_aload_n C D_L_depth_0.2.2.1 rfl rfl (by first | exact Or.inr ⟨_, rfl⟩ | exact va_rf_or _ | exact Or.inl rfl) ?_
  refine x_iload_n C D_L_depth_0.2.2.2.1 rfl rfl ?_
  refine x_callTV C hX (y := yX8_depth) (c_X8_depthY l G ow x n m c al sp tu pt pc ps pa r d u g w k hlt hS hk) (ci := 7) hx (by decide) rfl rfl k_744 k_745 k_746 k_60 k_747 hd_X8_depth ⟨(Nat.le_of_ble_eq_true rfl), (Nat.le_of_ble_eq_true rfl)⟩ rfl (by first | exact Nat.le_of_ble_eq_true rfl | simp [x_crf, Value.category]) rfl rfl D_L_depth_0.2.2.2.2.1 ⟨(Nat.le_of_ble_eq_true rfl), (Nat.le_of_ble_eq_true rfl)⟩ (fun E_4 S_4 hx_4 => ?_) (fun r_4 S_4 h_4 => ?_)
  · skip
    exact hx_4.elim
  obtain ⟨rfl, ow1, hF1, hS1⟩ := h_4
  obtain ⟨K1, N1, I1, Q1, J1⟩ := S_4
  obtain ⟨ho1, ko1, no1, ho2⟩ := hF1 o (by show K o ≠ 0; omega)
  have ko1 : K1 o = 24 := ko1.trans ko
  have no1 : N1 o = 1 := no1.trans no
  refine x_i2l C D_L_depth_0.2.2.2.2.2.1 ?_
  refine x_last C 0 ko1 rfl (by omega) (by omega) D_L_depth_0.2.2.2.2.2.2.1 (fun J2 eJ2 => ?_)
  refine x_goto C 15 D_L_depth_0.2.2.2.2.2.2.2.1 (by decide) ?_
  refine x_iconst C (v := nI 0) D_L_depth_0.2.2.2.2.2.2.2.2.2.2.2 (by decide +kernel) ?_
  refine ret _ _ _ _ _ _ rfl D_L_depth_1 (Nat.le_of_ble_eq_true rfl) (Nat.le_of_ble_eq_true rfl) ?_
  exact ⟨rfl, (K1, N1, I1, Q1, J1), J2, rfl, eJ2, ow1, hF1, hS1⟩
abbrev rm_L_depthN : Room := { frames := 7, cells := 8, slots := 60, locals := 112 }
set_option maxHeartbeats 4000000 in
set_option maxRecDepth 100000 in
theorem c_L_depthN (l : Launch) (G : xG) {K N : Nat → Nat} {I : Nat → Nat → Int32} {Q : Nat → Nat → Option Nat} {J : Nat → Nat → Int64} (ow : xO) (x o n m : Nat) (c : Nat → Nat) (al : Nat → Bool) (sp tu pt pc ps : Nat → Nat) (pa : Nat → Bool) (r d u g w : Int32) (y : Int32) (hlt : l.stackTraces = false) (hS : SY ow (K, N, I, Q, J) x n c al sp tu pt m pc pa ps r d u g w) (hO : K o = 24 ∧ N o = 1) (hno : ∀ i, i < n → ¬ cv1 (c i) = y)  : XMW l yL_depth cL_depth 4 (some .int) [(0, 9, 12, 26)] rm_L_depthN G [.ref x, .int y, .ref o] (K, N, I, Q, J) (fun r_ S1 => r_ = nI 1 ∧ ∃ ow1, FR8 ow ow1 (K, N, I, Q, J) S1 ∧ SY ow1 S1 x n c al sp tu pt m pc pa ps r d u g w) := by
  refine x_metW (lv := [_, _, _, _]) (by decide +kernel) (x_cc (by first | rfl | exact x_crf _) (x_cc (by first | rfl | exact x_crf _) (x_cc (by first | rfl | exact x_crf _) x_cn))) (Nat.le_of_ble_eq_true rfl) rfl ?_
  intro pP eE sS mM aA bB hH cC Z C hX htb ret
  obtain ⟨ko, no⟩ := id hO
  have hx : K x = 8 := hS.choose_spec.choose_spec.choose_spec.choose_spec.1.1
  refine x_aload_n C D_L_depth_0.1 rfl rfl (by first | exact Or.inr ⟨_, rfl⟩ | exact va_rf_or _ | exact Or.inl rfl) ?_
  refine x_iconst C (v := nI 0) D_L_depth_0.2.1 (by decide +kernel) ?_
  refine x_aload_n C D_L_depth_0.2.2.1 rfl rfl (by first | exact Or.inr ⟨_, rfl⟩ | exact va_rf_or _ | exact Or.inl rfl) ?_
  refine x_iload_n C D_L_depth_0.2.2.2.1 rfl rfl ?_
  refine x_callTV C hX (y := yX8_depth) (c_X8_depthN l G ow x n m c al sp tu pt pc ps pa r d u g w y hlt hS hno) (ci := 7) hx (by decide) rfl rfl k_744 k_745 k_746 k_60 k_747 hd_X8_depth ⟨(Nat.le_of_ble_eq_true rfl), (Nat.le_of_ble_eq_true rfl)⟩ rfl (by first | exact Nat.le_of_ble_eq_true rfl | simp [x_crf, Value.category]) rfl rfl D_L_depth_0.2.2.2.2.1 ⟨(Nat.le_of_ble_eq_true rfl), (Nat.le_of_ble_eq_true rfl)⟩ (fun E_4 S_4 hx_4 => ?_) (fun r_4 S_4 h_4 => ?_)
  · skip
    obtain ⟨rfl, ow1, hF1, hS1⟩ := hx_4
    obtain ⟨K1, N1, I1, Q1, J1⟩ := S_4
    refine ⟨12, cat1 htb (by decide) (by decide) k_743 hX.ca.2.2.2, fun q9 => ?_⟩
    refine x_astore_n C (lv' := [_, _, _, _]) D_L_depth_0.2.2.2.2.2.2.2.2.1 rfl (Nat.le_of_ble_eq_true rfl) (by first | rfl | exact x_ok_q rfl) (by first | exact Or.inr ⟨_, rfl⟩ | exact va_rf_or _ | exact Or.inl rfl) rfl ?_
    refine x_iconst C (v := nI 1) D_L_depth_0.2.2.2.2.2.2.2.2.2.1 (by decide +kernel) ?_
    refine ret _ _ _ _ _ _ rfl D_L_depth_0.2.2.2.2.2.2.2.2.2.2.1 (Nat.le_of_ble_eq_true rfl) (Nat.le_of_ble_eq_true rfl) ?_
    exact ⟨rfl, ow1, hF1, hS1⟩
  exact h_4.elim
abbrev rm_L_weightY : Room := { frames := 7, cells := 8, slots := 60, locals := 112 }
theorem hd_X8_weight : yX8_weight.cls ≠ "java/lang/invoke/MethodHandle" ∧ yX8_weight.cls ≠ "java/lang/invoke/VarHandle" ∧ (parseMethodDescriptor yX8_weight.desc).map (fun d => d.parameters.length) = some 1 := by decide +kernel
set_option maxHeartbeats 4000000 in
set_option maxRecDepth 100000 in
theorem c_L_weightY (l : Launch) (G : xG) {K N : Nat → Nat} {I : Nat → Nat → Int32} {Q : Nat → Nat → Option Nat} {J : Nat → Nat → Int64} (ow : xO) (x o n m : Nat) (c : Nat → Nat) (al : Nat → Bool) (sp tu pt pc ps : Nat → Nat) (pa : Nat → Bool) (r d u g w : Int32) (k : Nat) (hlt : l.stackTraces = false) (hS : SY ow (K, N, I, Q, J) x n c al sp tu pt m pc pa ps r d u g w) (hO : K o = 24 ∧ N o = 1) (hk : k < n)  : XMW l yL_weight cL_weight 4 (some .int) [(0, 9, 12, 26)] rm_L_weightY G [.ref x, .int (cv1 (c k)), .ref o] (K, N, I, Q, J) (fun r_ S1 => r_ = nI 0 ∧ ∃ S0 J2, S1 = (S0.1, S0.2.1, S0.2.2.1, S0.2.2.2.1, J2) ∧ J2 = x_u2 S0.2.2.2.2 o 0 ((nI (cnW n sp (sp k))).toInt64) ∧ ∃ ow1, FR8 ow ow1 (K, N, I, Q, J) S0 ∧ SY ow1 S0 x n c al sp tu pt m pc pa ps r d u g w) := by
  refine x_metW (lv := [_, _, _, _]) (by decide +kernel) (x_cc (by first | rfl | exact x_crf _) (x_cc (by first | rfl | exact x_crf _) (x_cc (by first | rfl | exact x_crf _) x_cn))) (Nat.le_of_ble_eq_true rfl) rfl ?_
  intro pP eE sS mM aA bB hH cC Z C hX htb ret
  obtain ⟨ko, no⟩ := id hO
  have hx : K x = 8 := hS.choose_spec.choose_spec.choose_spec.choose_spec.1.1
  refine x_aload_n C D_L_weight_0.1 rfl rfl (by first | exact Or.inr ⟨_, rfl⟩ | exact va_rf_or _ | exact Or.inl rfl) ?_
  refine x_iconst C (v := nI 0) D_L_weight_0.2.1 (by decide +kernel) ?_
  refine x_aload_n C D_L_weight_0.2.2.1 rfl rfl (by first | exact Or.inr ⟨_, rfl⟩ | exact va_rf_or _ | exact Or.inl rfl) ?_
  refine x_iload_n C D_L_weight_0.2.2.2.1 rfl rfl ?_
  refine x_callTV C hX (y := yX8_weight) (c_X8_weightY l G ow x n m c al sp tu pt pc ps pa r d u g w k hlt hS hk) (ci := 7) hx (by decide) rfl rfl k_773 k_774 k_775 k_60 k_776 hd_X8_weight ⟨(Nat.le_of_ble_eq_true rfl), (Nat.le_of_ble_eq_true rfl)⟩ rfl (by first | exact Nat.le_of_ble_eq_true rfl | simp [x_crf, Value.category]) rfl rfl D_L_weight_0.2.2.2.2.1 ⟨(Nat.le_of_ble_eq_true rfl), (Nat.le_of_ble_eq_true rfl)⟩ (fun E_4 S_4 hx_4 => ?_) (fun r_4 S_4 h_4 => ?_)
  · skip
    exact hx_4.elim
  obtain ⟨rfl, ow1, hF1, hS1⟩ := h_4
  obtain ⟨K1, N1, I1, Q1, J1⟩ := S_4
  obtain ⟨ho1, ko1, no1, ho2⟩ := hF1 o (by show K o ≠ 0; omega)
  have ko1 : K1 o = 24 := ko1.trans ko
  have no1 : N1 o = 1 := no1.trans no
  refine x_i2l C D_L_weight_0.2.2.2.2.2.1 ?_
  refine x_last C 0 ko1 rfl (by omega) (by omega) D_L_weight_0.2.2.2.2.2.2.1 (fun J2 eJ2 => ?_)
  refine x_goto C 15 D_L_weight_0.2.2.2.2.2.2.2.1 (by decide) ?_
  refine x_iconst C (v := nI 0) D_L_weight_0.2.2.2.2.2.2.2.2.2.2.2 (by decide +kernel) ?_
  refine ret _ _ _ _ _ _ rfl D_L_weight_1 (Nat.le_of_ble_eq_true rfl) (Nat.le_of_ble_eq_true rfl) ?_
  exact ⟨rfl, (K1, N1, I1, Q1, J1), J2, rfl, eJ2, ow1, hF1, hS1⟩
abbrev rm_L_weightN : Room := { frames := 7, cells := 8, slots := 60, locals := 112 }
set_option maxHeartbeats 4000000 in
set_option maxRecDepth 100000 in
theorem c_L_weightN (l : Launch) (G : xG) {K N : Nat → Nat} {I : Nat → Nat → Int32} {Q : Nat → Nat → Option Nat} {J : Nat → Nat → Int64} (ow : xO) (x o n m : Nat) (c : Nat → Nat) (al : Nat → Bool) (sp tu pt pc ps : Nat → Nat) (pa : Nat → Bool) (r d u g w : Int32) (y : Int32) (hlt : l.stackTraces = false) (hS : SY ow (K, N, I, Q, J) x n c al sp tu pt m pc pa ps r d u g w) (hO : K o = 24 ∧ N o = 1) (hno : ∀ i, i < n → ¬ cv1 (c i) = y)  : XMW l yL_weight cL_weight 4 (some .int) [(0, 9, 12, 26)] rm_L_weightN G [.ref x, .int y, .ref o] (K, N, I, Q, J) (fun r_ S1 => r_ = nI 1 ∧ ∃ ow1, FR8 ow ow1 (K, N, I, Q, J) S1 ∧ SY ow1 S1 x n c al sp tu pt m pc pa ps r d u g w) := by
  refine x_metW (lv := [_, _, _, _]) (by decide +kernel) (x_cc (by first | rfl | exact x_crf _) (x_cc (by first | rfl | exact x_crf _) (x_cc (by first | rfl | exact x_crf _) x_cn))) (Nat.le_of_ble_eq_true rfl) rfl ?_
  intro pP eE sS mM aA bB hH cC Z C hX htb ret
  obtain ⟨ko, no⟩ := id hO
  have hx : K x = 8 := hS.choose_spec.choose_spec.choose_spec.choose_spec.1.1
  refine x_aload_n C D_L_weight_0.1 rfl rfl (by first | exact Or.inr ⟨_, rfl⟩ | exact va_rf_or _ | exact Or.inl rfl) ?_
  refine x_iconst C (v := nI 0) D_L_weight_0.2.1 (by decide +kernel) ?_
  refine x_aload_n C D_L_weight_0.2.2.1 rfl rfl (by first | exact Or.inr ⟨_, rfl⟩ | exact va_rf_or _ | exact Or.inl rfl) ?_
  refine x_iload_n C D_L_weight_0.2.2.2.1 rfl rfl ?_
  refine x_callTV C hX (y := yX8_weight) (c_X8_weightN l G ow x n m c al sp tu pt pc ps pa r d u g w y hlt hS hno) (ci := 7) hx (by decide) rfl rfl k_773 k_774 k_775 k_60 k_776 hd_X8_weight ⟨(Nat.le_of_ble_eq_true rfl), (Nat.le_of_ble_eq_true rfl)⟩ rfl (by first | exact Nat.le_of_ble_eq_true rfl | simp [x_crf, Value.category]) rfl rfl D_L_weight_0.2.2.2.2.1 ⟨(Nat.le_of_ble_eq_true rfl), (Nat.le_of_ble_eq_true rfl)⟩ (fun E_4 S_4 hx_4 => ?_) (fun r_4 S_4 h_4 => ?_)
  · skip
    obtain ⟨rfl, ow1, hF1, hS1⟩ := hx_4
    obtain ⟨K1, N1, I1, Q1, J1⟩ := S_4
    refine ⟨12, cat1 htb (by decide) (by decide) k_743 hX.ca.2.2.2, fun q9 => ?_⟩
    refine x_astore_n C (lv' := [_, _, _, _]) D_L_weight_0.2.2.2.2.2.2.2.2.1 rfl (Nat.le_of_ble_eq_true rfl) (by first | rfl | exact x_ok_q rfl) (by first | exact Or.inr ⟨_, rfl⟩ | exact va_rf_or _ | exact Or.inl rfl) rfl ?_
    refine x_iconst C (v := nI 1) D_L_weight_0.2.2.2.2.2.2.2.2.2.1 (by decide +kernel) ?_
    refine ret _ _ _ _ _ _ rfl D_L_weight_0.2.2.2.2.2.2.2.2.2.2.1 (Nat.le_of_ble_eq_true rfl) (Nat.le_of_ble_eq_true rfl) ?_
    exact ⟨rfl, ow1, hF1, hS1⟩
  exact h_4.elim
abbrev rm_L_partOfY : Room := { frames := 7, cells := 8, slots := 60, locals := 112 }
theorem hd_X8_partOf : yX8_partOf.cls ≠ "java/lang/invoke/MethodHandle" ∧ yX8_partOf.cls ≠ "java/lang/invoke/VarHandle" ∧ (parseMethodDescriptor yX8_partOf.desc).map (fun d => d.parameters.length) = some 1 := by decide +kernel
set_option maxHeartbeats 4000000 in
set_option maxRecDepth 100000 in
theorem c_L_partOfY (l : Launch) (G : xG) {K N : Nat → Nat} {I : Nat → Nat → Int32} {Q : Nat → Nat → Option Nat} {J : Nat → Nat → Int64} (ow : xO) (x o n m : Nat) (c : Nat → Nat) (al : Nat → Bool) (sp tu pt pc ps : Nat → Nat) (pa : Nat → Bool) (r d u g w : Int32) (k : Nat) (hlt : l.stackTraces = false) (hS : SY ow (K, N, I, Q, J) x n c al sp tu pt m pc pa ps r d u g w) (hO : K o = 24 ∧ N o = 1) (hk : k < n)  : XMW l yL_partOf cL_partOf 4 (some .int) [(0, 9, 12, 26)] rm_L_partOfY G [.ref x, .int (cv1 (c k)), .ref o] (K, N, I, Q, J) (fun r_ S1 => r_ = nI 0 ∧ ∃ S0 J2, S1 = (S0.1, S0.2.1, S0.2.2.1, S0.2.2.2.1, J2) ∧ J2 = x_u2 S0.2.2.2.2 o 0 ((nI (pt k)).toInt64) ∧ ∃ ow1, FR8 ow ow1 (K, N, I, Q, J) S0 ∧ SY ow1 S0 x n c al sp tu pt m pc pa ps r d u g w) := by
  refine x_metW (lv := [_, _, _, _]) (by decide +kernel) (x_cc (by first | rfl | exact x_crf _) (x_cc (by first | rfl | exact x_crf _) (x_cc (by first | rfl | exact x_crf _) x_cn))) (Nat.le_of_ble_eq_true rfl) rfl ?_
  intro pP eE sS mM aA bB hH cC Z C hX htb ret
  obtain ⟨ko, no⟩ := id hO
  have hx : K x = 8 := hS.choose_spec.choose_spec.choose_spec.choose_spec.1.1
  refine x_aload_n C D_L_partOf_0.1 rfl rfl (by first | exact Or.inr ⟨_, rfl⟩ | exact va_rf_or _ | exact Or.inl rfl) ?_
  refine x_iconst C (v := nI 0) D_L_partOf_0.2.1 (by decide +kernel) ?_
  refine x_aload_n C D_L_partOf_0.2.2.1 rfl rfl (by first | exact Or.inr ⟨_, rfl⟩ | exact va_rf_or _ | exact Or.inl rfl) ?_
  refine x_iload_n C D_L_partOf_0.2.2.2.1 rfl rfl ?_
  refine x_callTV C hX (y := yX8_partOf) (c_X8_partOfY l G ow x n m c al sp tu pt pc ps pa r d u g w k hlt hS hk) (ci := 7) hx (by decide) rfl rfl k_808 k_809 k_810 k_60 k_811 hd_X8_partOf ⟨(Nat.le_of_ble_eq_true rfl), (Nat.le_of_ble_eq_true rfl)⟩ rfl (by first | exact Nat.le_of_ble_eq_true rfl | simp [x_crf, Value.category]) rfl rfl D_L_partOf_0.2.2.2.2.1 ⟨(Nat.le_of_ble_eq_true rfl), (Nat.le_of_ble_eq_true rfl)⟩ (fun E_4 S_4 hx_4 => ?_) (fun r_4 S_4 h_4 => ?_)
  · skip
    exact hx_4.elim
  obtain ⟨rfl, ow1, hF1, hS1⟩ := h_4
  obtain ⟨K1, N1, I1, Q1, J1⟩ := S_4
  obtain ⟨ho1, ko1, no1, ho2⟩ := hF1 o (by show K o ≠ 0; omega)
  have ko1 : K1 o = 24 := ko1.trans ko
  have no1 : N1 o = 1 := no1.trans no
  refine x_i2l C D_L_partOf_0.2.2.2.2.2.1 ?_
  refine x_last C 0 ko1 rfl (by omega) (by omega) D_L_partOf_0.2.2.2.2.2.2.1 (fun J2 eJ2 => ?_)
  refine x_goto C 15 D_L_partOf_0.2.2.2.2.2.2.2.1 (by decide) ?_
  refine x_iconst C (v := nI 0) D_L_partOf_0.2.2.2.2.2.2.2.2.2.2.2 (by decide +kernel) ?_
  refine ret _ _ _ _ _ _ rfl D_L_partOf_1 (Nat.le_of_ble_eq_true rfl) (Nat.le_of_ble_eq_true rfl) ?_
  exact ⟨rfl, (K1, N1, I1, Q1, J1), J2, rfl, eJ2, ow1, hF1, hS1⟩
abbrev rm_L_partOfN : Room := { frames := 7, cells := 8, slots := 60, locals := 112 }
set_option maxHeartbeats 4000000 in
set_option maxRecDepth 100000 in
theorem c_L_partOfN (l : Launch) (G : xG) {K N : Nat → Nat} {I : Nat → Nat → Int32} {Q : Nat → Nat → Option Nat} {J : Nat → Nat → Int64} (ow : xO) (x o n m : Nat) (c : Nat → Nat) (al : Nat → Bool) (sp tu pt pc ps : Nat → Nat) (pa : Nat → Bool) (r d u g w : Int32) (y : Int32) (hlt : l.stackTraces = false) (hS : SY ow (K, N, I, Q, J) x n c al sp tu pt m pc pa ps r d u g w) (hO : K o = 24 ∧ N o = 1) (hno : ∀ i, i < n → ¬ cv1 (c i) = y)  : XMW l yL_partOf cL_partOf 4 (some .int) [(0, 9, 12, 26)] rm_L_partOfN G [.ref x, .int y, .ref o] (K, N, I, Q, J) (fun r_ S1 => r_ = nI 1 ∧ ∃ ow1, FR8 ow ow1 (K, N, I, Q, J) S1 ∧ SY ow1 S1 x n c al sp tu pt m pc pa ps r d u g w) := by
  refine x_metW (lv := [_, _, _, _]) (by decide +kernel) (x_cc (by first | rfl | exact x_crf _) (x_cc (by first | rfl | exact x_crf _) (x_cc (by first | rfl | exact x_crf _) x_cn))) (Nat.le_of_ble_eq_true rfl) rfl ?_
  intro pP eE sS mM aA bB hH cC Z C hX htb ret
  obtain ⟨ko, no⟩ := id hO
  have hx : K x = 8 := hS.choose_spec.choose_spec.choose_spec.choose_spec.1.1
  refine x_aload_n C D_L_partOf_0.1 rfl rfl (by first | exact Or.inr ⟨_, rfl⟩ | exact va_rf_or _ | exact Or.inl rfl) ?_
  refine x_iconst C (v := nI 0) D_L_partOf_0.2.1 (by decide +kernel) ?_
  refine x_aload_n C D_L_partOf_0.2.2.1 rfl rfl (by first | exact Or.inr ⟨_, rfl⟩ | exact va_rf_or _ | exact Or.inl rfl) ?_
  refine x_iload_n C D_L_partOf_0.2.2.2.1 rfl rfl ?_
  refine x_callTV C hX (y := yX8_partOf) (c_X8_partOfN l G ow x n m c al sp tu pt pc ps pa r d u g w y hlt hS hno) (ci := 7) hx (by decide) rfl rfl k_808 k_809 k_810 k_60 k_811 hd_X8_partOf ⟨(Nat.le_of_ble_eq_true rfl), (Nat.le_of_ble_eq_true rfl)⟩ rfl (by first | exact Nat.le_of_ble_eq_true rfl | simp [x_crf, Value.category]) rfl rfl D_L_partOf_0.2.2.2.2.1 ⟨(Nat.le_of_ble_eq_true rfl), (Nat.le_of_ble_eq_true rfl)⟩ (fun E_4 S_4 hx_4 => ?_) (fun r_4 S_4 h_4 => ?_)
  · skip
    obtain ⟨rfl, ow1, hF1, hS1⟩ := hx_4
    obtain ⟨K1, N1, I1, Q1, J1⟩ := S_4
    refine ⟨12, cat1 htb (by decide) (by decide) k_743 hX.ca.2.2.2, fun q9 => ?_⟩
    refine x_astore_n C (lv' := [_, _, _, _]) D_L_partOf_0.2.2.2.2.2.2.2.2.1 rfl (Nat.le_of_ble_eq_true rfl) (by first | rfl | exact x_ok_q rfl) (by first | exact Or.inr ⟨_, rfl⟩ | exact va_rf_or _ | exact Or.inl rfl) rfl ?_
    refine x_iconst C (v := nI 1) D_L_partOf_0.2.2.2.2.2.2.2.2.2.1 (by decide +kernel) ?_
    refine ret _ _ _ _ _ _ rfl D_L_partOf_0.2.2.2.2.2.2.2.2.2.2.1 (Nat.le_of_ble_eq_true rfl) (Nat.le_of_ble_eq_true rfl) ?_
    exact ⟨rfl, ow1, hF1, hS1⟩
  exact h_4.elim
abbrev rm_L_depthInTurningY : Room := { frames := 7, cells := 8, slots := 60, locals := 112 }
theorem hd_X8_depthInTurning : yX8_depthInTurning.cls ≠ "java/lang/invoke/MethodHandle" ∧ yX8_depthInTurning.cls ≠ "java/lang/invoke/VarHandle" ∧ (parseMethodDescriptor yX8_depthInTurning.desc).map (fun d => d.parameters.length) = some 1 := by decide +kernel
set_option maxHeartbeats 4000000 in
set_option maxRecDepth 100000 in
theorem c_L_depthInTurningY (l : Launch) (G : xG) {K N : Nat → Nat} {I : Nat → Nat → Int32} {Q : Nat → Nat → Option Nat} {J : Nat → Nat → Int64} (ow : xO) (x o n m : Nat) (c : Nat → Nat) (al : Nat → Bool) (sp tu pt pc ps : Nat → Nat) (pa : Nat → Bool) (r d u g w : Int32) (k : Nat) (hlt : l.stackTraces = false) (hS : SY ow (K, N, I, Q, J) x n c al sp tu pt m pc pa ps r d u g w) (hO : K o = 24 ∧ N o = 1) (hk : k < n) (hp : 0 < tu k)  : XMW l yL_depthInTurning cL_depthInTurning 4 (some .int) [(0, 9, 12, 26)] rm_L_depthInTurningY G [.ref x, .int (cv1 (c k)), .ref o] (K, N, I, Q, J) (fun r_ S1 => r_ = nI 0 ∧ ∃ S0 J2, S1 = (S0.1, S0.2.1, S0.2.2.1, S0.2.2.2.1, J2) ∧ J2 = x_u2 S0.2.2.2.2 o 0 ((nI (dep (tu k))).toInt64) ∧ ∃ ow1, FR8 ow ow1 (K, N, I, Q, J) S0 ∧ SY ow1 S0 x n c al sp tu pt m pc pa ps r d u g w) := by
  refine x_metW (lv := [_, _, _, _]) (by decide +kernel) (x_cc (by first | rfl | exact x_crf _) (x_cc (by first | rfl | exact x_crf _) (x_cc (by first | rfl | exact x_crf _) x_cn))) (Nat.le_of_ble_eq_true rfl) rfl ?_
  intro pP eE sS mM aA bB hH cC Z C hX htb ret
  obtain ⟨ko, no⟩ := id hO
  have hx : K x = 8 := hS.choose_spec.choose_spec.choose_spec.choose_spec.1.1
  refine x_aload_n C D_L_depthInTurning_0.1 rfl rfl (by first | exact Or.inr ⟨_, rfl⟩ | exact va_rf_or _ | exact Or.inl rfl) ?_
  refine x_iconst C (v := nI 0) D_L_depthInTurning_0.2.1 (by decide +kernel) ?_
  refine x_aload_n C D_L_depthInTurning_0.2.2.1 rfl rfl (by first | exact Or.inr ⟨_, rfl⟩ | exact va_rf_or _ | exact Or.inl rfl) ?_
  refine x_iload_n C D_L_depthInTurning_0.2.2.2.1 rfl rfl ?_
  refine x_callTV C hX (y := yX8_depthInTurning) (c_X8_depthInTurningY l G ow x n m c al sp tu pt pc ps pa r d u g w k hlt hS hk hp) (ci := 7) hx (by decide) rfl rfl k_784 k_785 k_786 k_60 k_787 hd_X8_depthInTurning ⟨(Nat.le_of_ble_eq_true rfl), (Nat.le_of_ble_eq_true rfl)⟩ rfl (by first | exact Nat.le_of_ble_eq_true rfl | simp [x_crf, Value.category]) rfl rfl D_L_depthInTurning_0.2.2.2.2.1 ⟨(Nat.le_of_ble_eq_true rfl), (Nat.le_of_ble_eq_true rfl)⟩ (fun E_4 S_4 hx_4 => ?_) (fun r_4 S_4 h_4 => ?_)
  · skip
    exact hx_4.elim
  obtain ⟨rfl, ow1, hF1, hS1⟩ := h_4
  obtain ⟨K1, N1, I1, Q1, J1⟩ := S_4
  obtain ⟨ho1, ko1, no1, ho2⟩ := hF1 o (by show K o ≠ 0; omega)
  have ko1 : K1 o = 24 := ko1.trans ko
  have no1 : N1 o = 1 := no1.trans no
  refine x_i2l C D_L_depthInTurning_0.2.2.2.2.2.1 ?_
  refine x_last C 0 ko1 rfl (by omega) (by omega) D_L_depthInTurning_0.2.2.2.2.2.2.1 (fun J2 eJ2 => ?_)
  refine x_goto C 15 D_L_depthInTurning_0.2.2.2.2.2.2.2.1 (by decide) ?_
  refine x_iconst C (v := nI 0) D_L_depthInTurning_0.2.2.2.2.2.2.2.2.2.2.2 (by decide +kernel) ?_
  refine ret _ _ _ _ _ _ rfl D_L_depthInTurning_1 (Nat.le_of_ble_eq_true rfl) (Nat.le_of_ble_eq_true rfl) ?_
  exact ⟨rfl, (K1, N1, I1, Q1, J1), J2, rfl, eJ2, ow1, hF1, hS1⟩
abbrev rm_L_depthInTurningN : Room := { frames := 7, cells := 8, slots := 60, locals := 112 }
set_option maxHeartbeats 4000000 in
set_option maxRecDepth 100000 in
theorem c_L_depthInTurningN (l : Launch) (G : xG) {K N : Nat → Nat} {I : Nat → Nat → Int32} {Q : Nat → Nat → Option Nat} {J : Nat → Nat → Int64} (ow : xO) (x o n m : Nat) (c : Nat → Nat) (al : Nat → Bool) (sp tu pt pc ps : Nat → Nat) (pa : Nat → Bool) (r d u g w : Int32) (y : Int32) (hlt : l.stackTraces = false) (hS : SY ow (K, N, I, Q, J) x n c al sp tu pt m pc pa ps r d u g w) (hO : K o = 24 ∧ N o = 1) (hno : ∀ i, i < n → 0 < tu i → ¬ cv1 (c i) = y)  : XMW l yL_depthInTurning cL_depthInTurning 4 (some .int) [(0, 9, 12, 26)] rm_L_depthInTurningN G [.ref x, .int y, .ref o] (K, N, I, Q, J) (fun r_ S1 => r_ = nI 1 ∧ ∃ ow1, FR8 ow ow1 (K, N, I, Q, J) S1 ∧ SY ow1 S1 x n c al sp tu pt m pc pa ps r d u g w) := by
  refine x_metW (lv := [_, _, _, _]) (by decide +kernel) (x_cc (by first | rfl | exact x_crf _) (x_cc (by first | rfl | exact x_crf _) (x_cc (by first | rfl | exact x_crf _) x_cn))) (Nat.le_of_ble_eq_true rfl) rfl ?_
  intro pP eE sS mM aA bB hH cC Z C hX htb ret
  obtain ⟨ko, no⟩ := id hO
  have hx : K x = 8 := hS.choose_spec.choose_spec.choose_spec.choose_spec.1.1
  refine x_aload_n C D_L_depthInTurning_0.1 rfl rfl (by first | exact Or.inr ⟨_, rfl⟩ | exact va_rf_or _ | exact Or.inl rfl) ?_
  refine x_iconst C (v := nI 0) D_L_depthInTurning_0.2.1 (by decide +kernel) ?_
  refine x_aload_n C D_L_depthInTurning_0.2.2.1 rfl rfl (by first | exact Or.inr ⟨_, rfl⟩ | exact va_rf_or _ | exact Or.inl rfl) ?_
  refine x_iload_n C D_L_depthInTurning_0.2.2.2.1 rfl rfl ?_
  refine x_callTV C hX (y := yX8_depthInTurning) (c_X8_depthInTurningN l G ow x n m c al sp tu pt pc ps pa r d u g w y hlt hS hno) (ci := 7) hx (by decide) rfl rfl k_784 k_785 k_786 k_60 k_787 hd_X8_depthInTurning ⟨(Nat.le_of_ble_eq_true rfl), (Nat.le_of_ble_eq_true rfl)⟩ rfl (by first | exact Nat.le_of_ble_eq_true rfl | simp [x_crf, Value.category]) rfl rfl D_L_depthInTurning_0.2.2.2.2.1 ⟨(Nat.le_of_ble_eq_true rfl), (Nat.le_of_ble_eq_true rfl)⟩ (fun E_4 S_4 hx_4 => ?_) (fun r_4 S_4 h_4 => ?_)
  · skip
    obtain ⟨rfl, ow1, hF1, hS1⟩ := hx_4
    obtain ⟨K1, N1, I1, Q1, J1⟩ := S_4
    refine ⟨12, cat1 htb (by decide) (by decide) k_743 hX.ca.2.2.2, fun q9 => ?_⟩
    refine x_astore_n C (lv' := [_, _, _, _]) D_L_depthInTurning_0.2.2.2.2.2.2.2.2.1 rfl (Nat.le_of_ble_eq_true rfl) (by first | rfl | exact x_ok_q rfl) (by first | exact Or.inr ⟨_, rfl⟩ | exact va_rf_or _ | exact Or.inl rfl) rfl ?_
    refine x_iconst C (v := nI 1) D_L_depthInTurning_0.2.2.2.2.2.2.2.2.2.1 (by decide +kernel) ?_
    refine ret _ _ _ _ _ _ rfl D_L_depthInTurning_0.2.2.2.2.2.2.2.2.2.2.1 (Nat.le_of_ble_eq_true rfl) (Nat.le_of_ble_eq_true rfl) ?_
    exact ⟨rfl, ow1, hF1, hS1⟩
  exact h_4.elim
abbrev rm_L_turningRootY : Room := { frames := 7, cells := 8, slots := 60, locals := 111 }
theorem hd_X8_turningRoot : yX8_turningRoot.cls ≠ "java/lang/invoke/MethodHandle" ∧ yX8_turningRoot.cls ≠ "java/lang/invoke/VarHandle" ∧ (parseMethodDescriptor yX8_turningRoot.desc).map (fun d => d.parameters.length) = some 0 := by decide +kernel
set_option maxHeartbeats 4000000 in
set_option maxRecDepth 100000 in
theorem c_L_turningRootY (l : Launch) (G : xG) {K N : Nat → Nat} {I : Nat → Nat → Int32} {Q : Nat → Nat → Option Nat} {J : Nat → Nat → Int64} (ow : xO) (x o n m : Nat) (c : Nat → Nat) (al : Nat → Bool) (sp tu pt pc ps : Nat → Nat) (pa : Nat → Bool) (r d u g w : Int32) (k : Nat) (hlt : l.stackTraces = false) (hS : SY ow (K, N, I, Q, J) x n c al sp tu pt m pc pa ps r d u g w) (hO : K o = 24 ∧ N o = 1) (hlr : lastF (fun i => decide (tu i = 1)) n = some k)  : XMW l yL_turningRoot cL_turningRoot 3 (some .int) [(0, 8, 11, 26)] rm_L_turningRootY G [.ref x, .ref o] (K, N, I, Q, J) (fun r_ S1 => r_ = nI 0 ∧ ∃ S0 J2, S1 = (S0.1, S0.2.1, S0.2.2.1, S0.2.2.2.1, J2) ∧ J2 = x_u2 S0.2.2.2.2 o 0 ((cv1 (c k)).toInt64) ∧ ∃ ow1, FR8 ow ow1 (K, N, I, Q, J) S0 ∧ SY ow1 S0 x n c al sp tu pt m pc pa ps r d u g w) := by
  refine x_metW (lv := [_, _, _]) (by decide +kernel) (x_cc (by first | rfl | exact x_crf _) (x_cc (by first | rfl | exact x_crf _) x_cn)) (Nat.le_of_ble_eq_true rfl) rfl ?_
  intro pP eE sS mM aA bB hH cC Z C hX htb ret
  obtain ⟨ko, no⟩ := id hO
  have hx : K x = 8 := hS.choose_spec.choose_spec.choose_spec.choose_spec.1.1
  refine x_aload_n C D_L_turningRoot_0.1 rfl rfl (by first | exact Or.inr ⟨_, rfl⟩ | exact va_rf_or _ | exact Or.inl rfl) ?_
  refine x_iconst C (v := nI 0) D_L_turningRoot_0.2.1 (by decide +kernel) ?_
  refine x_aload_n C D_L_turningRoot_0.2.2.1 rfl rfl (by first | exact Or.inr ⟨_, rfl⟩ | exact va_rf_or _ | exact Or.inl rfl) ?_
  refine x_callTV C hX (y := yX8_turningRoot) (c_X8_turningRootY l G ow x n m c al sp tu pt pc ps pa r d u g w k hlt hS hlr) (ci := 7) hx (by decide) rfl rfl k_796 k_797 k_798 k_60 k_799 hd_X8_turningRoot ⟨(Nat.le_of_ble_eq_true rfl), (Nat.le_of_ble_eq_true rfl)⟩ rfl (by first | exact Nat.le_of_ble_eq_true rfl | simp [x_crf, Value.category]) rfl rfl D_L_turningRoot_0.2.2.2.1 ⟨(Nat.le_of_ble_eq_true rfl), (Nat.le_of_ble_eq_true rfl)⟩ (fun E_3 S_3 hx_3 => ?_) (fun r_3 S_3 h_3 => ?_)
  · skip
    exact hx_3.elim
  obtain ⟨rfl, ow1, hF1, hS1⟩ := h_3
  obtain ⟨K1, N1, I1, Q1, J1⟩ := S_3
  obtain ⟨ho1, ko1, no1, ho2⟩ := hF1 o (by show K o ≠ 0; omega)
  have ko1 : K1 o = 24 := ko1.trans ko
  have no1 : N1 o = 1 := no1.trans no
  refine x_i2l C D_L_turningRoot_0.2.2.2.2.1 ?_
  refine x_last C 0 ko1 rfl (by omega) (by omega) D_L_turningRoot_0.2.2.2.2.2.1 (fun J2 eJ2 => ?_)
  refine x_goto C 14 D_L_turningRoot_0.2.2.2.2.2.2.1 (by decide) ?_
  refine x_iconst C (v := nI 0) D_L_turningRoot_0.2.2.2.2.2.2.2.2.2.2.1 (by decide +kernel) ?_
  refine ret _ _ _ _ _ _ rfl D_L_turningRoot_0.2.2.2.2.2.2.2.2.2.2.2 (Nat.le_of_ble_eq_true rfl) (Nat.le_of_ble_eq_true rfl) ?_
  exact ⟨rfl, (K1, N1, I1, Q1, J1), J2, rfl, eJ2, ow1, hF1, hS1⟩
abbrev rm_L_turningRootN : Room := { frames := 7, cells := 8, slots := 60, locals := 111 }
set_option maxHeartbeats 4000000 in
set_option maxRecDepth 100000 in
theorem c_L_turningRootN (l : Launch) (G : xG) {K N : Nat → Nat} {I : Nat → Nat → Int32} {Q : Nat → Nat → Option Nat} {J : Nat → Nat → Int64} (ow : xO) (x o n m : Nat) (c : Nat → Nat) (al : Nat → Bool) (sp tu pt pc ps : Nat → Nat) (pa : Nat → Bool) (r d u g w : Int32) (hlt : l.stackTraces = false) (hS : SY ow (K, N, I, Q, J) x n c al sp tu pt m pc pa ps r d u g w) (hO : K o = 24 ∧ N o = 1) (hlr : lastF (fun i => decide (tu i = 1)) n = none)  : XMW l yL_turningRoot cL_turningRoot 3 (some .int) [(0, 8, 11, 26)] rm_L_turningRootN G [.ref x, .ref o] (K, N, I, Q, J) (fun r_ S1 => r_ = nI 1 ∧ ∃ ow1, FR8 ow ow1 (K, N, I, Q, J) S1 ∧ SY ow1 S1 x n c al sp tu pt m pc pa ps r d u g w) := by
  refine x_metW (lv := [_, _, _]) (by decide +kernel) (x_cc (by first | rfl | exact x_crf _) (x_cc (by first | rfl | exact x_crf _) x_cn)) (Nat.le_of_ble_eq_true rfl) rfl ?_
  intro pP eE sS mM aA bB hH cC Z C hX htb ret
  obtain ⟨ko, no⟩ := id hO
  have hx : K x = 8 := hS.choose_spec.choose_spec.choose_spec.choose_spec.1.1
  refine x_aload_n C D_L_turningRoot_0.1 rfl rfl (by first | exact Or.inr ⟨_, rfl⟩ | exact va_rf_or _ | exact Or.inl rfl) ?_
  refine x_iconst C (v := nI 0) D_L_turningRoot_0.2.1 (by decide +kernel) ?_
  refine x_aload_n C D_L_turningRoot_0.2.2.1 rfl rfl (by first | exact Or.inr ⟨_, rfl⟩ | exact va_rf_or _ | exact Or.inl rfl) ?_
  refine x_callTV C hX (y := yX8_turningRoot) (c_X8_turningRootN l G ow x n m c al sp tu pt pc ps pa r d u g w hlt hS hlr) (ci := 7) hx (by decide) rfl rfl k_796 k_797 k_798 k_60 k_799 hd_X8_turningRoot ⟨(Nat.le_of_ble_eq_true rfl), (Nat.le_of_ble_eq_true rfl)⟩ rfl (by first | exact Nat.le_of_ble_eq_true rfl | simp [x_crf, Value.category]) rfl rfl D_L_turningRoot_0.2.2.2.1 ⟨(Nat.le_of_ble_eq_true rfl), (Nat.le_of_ble_eq_true rfl)⟩ (fun E_3 S_3 hx_3 => ?_) (fun r_3 S_3 h_3 => ?_)
  · skip
    obtain ⟨rfl, ow1, hF1, hS1⟩ := hx_3
    obtain ⟨K1, N1, I1, Q1, J1⟩ := S_3
    refine ⟨11, cat1 htb (by decide) (by decide) k_743 hX.ca.2.2.2, fun q9 => ?_⟩
    refine x_astore_n C (lv' := [_, _, _]) D_L_turningRoot_0.2.2.2.2.2.2.2.1 rfl (Nat.le_of_ble_eq_true rfl) (by first | rfl | exact x_ok_q rfl) (by first | exact Or.inr ⟨_, rfl⟩ | exact va_rf_or _ | exact Or.inl rfl) rfl ?_
    refine x_iconst C (v := nI 1) D_L_turningRoot_0.2.2.2.2.2.2.2.2.1 (by decide +kernel) ?_
    refine ret _ _ _ _ _ _ rfl D_L_turningRoot_0.2.2.2.2.2.2.2.2.2.1 (Nat.le_of_ble_eq_true rfl) (Nat.le_of_ble_eq_true rfl) ?_
    exact ⟨rfl, ow1, hF1, hS1⟩
  exact h_3.elim
abbrev rm_L_entryP : Room := { frames := 7, cells := 8, slots := 60, locals := 113 }
theorem hd_X8_entry : yX8_entry.cls ≠ "java/lang/invoke/MethodHandle" ∧ yX8_entry.cls ≠ "java/lang/invoke/VarHandle" ∧ (parseMethodDescriptor yX8_entry.desc).map (fun d => d.parameters.length) = some 2 := by decide +kernel
set_option maxHeartbeats 4000000 in
set_option maxRecDepth 100000 in
theorem c_L_entryP (l : Launch) (G : xG) {K N : Nat → Nat} {I : Nat → Nat → Int32} {Q : Nat → Nat → Option Nat} {J : Nat → Nat → Int64} (ow : xO) (x o n m : Nat) (c : Nat → Nat) (al : Nat → Bool) (sp tu pt pc ps : Nat → Nat) (pa : Nat → Bool) (r d u g w : Int32) (y z : Int32) (hlt : l.stackTraces = false) (hS : SY ow (K, N, I, Q, J) x n c al sp tu pt m pc pa ps r d u g w) (hO : K o = 24 ∧ N o = 1) (hp : cn (fun i => decide (nI (pt i) = y)) n = 0)  : XMW l yL_entry cL_entry 5 (some .int) [(0, 10, 13, 26), (0, 10, 17, 21)] rm_L_entryP G [.ref x, .int y, .int z, .ref o] (K, N, I, Q, J) (fun r_ S1 => r_ = nI 1 ∧ ∃ ow1, FR8 ow ow1 (K, N, I, Q, J) S1 ∧ SY ow1 S1 x n c al sp tu pt m pc pa ps r d u g w) := by
  refine x_metW (lv := [_, _, _, _, _]) (by decide +kernel) (x_cc (by first | rfl | exact x_crf _) (x_cc (by first | rfl | exact x_crf _) (x_cc (by first | rfl | exact x_crf _) (x_cc (by first | rfl | exact x_crf _) x_cn)))) (Nat.le_of_ble_eq_true rfl) rfl ?_
  intro pP eE sS mM aA bB hH cC Z C hX htb ret
  obtain ⟨ko, no⟩ := id hO
  have hx : K x = 8 := hS.choose_spec.choose_spec.choose_spec.choose_spec.1.1
  refine x_aload_n C D_L_entry_0.1 rfl rfl (by first | exact Or.inr ⟨_, rfl⟩ | exact va_rf_or _ | exact Or.inl rfl) ?_
  refine x_iconst C (v := nI 0) D_L_entry_0.2.1 (by decide +kernel) ?_
  refine x_aload_n C D_L_entry_0.2.2.1 rfl rfl (by first | exact Or.inr ⟨_, rfl⟩ | exact va_rf_or _ | exact Or.inl rfl) ?_
  refine x_iload_n C D_L_entry_0.2.2.2.1 rfl rfl ?_
  refine x_iload_n C D_L_entry_0.2.2.2.2.1 rfl rfl ?_
  refine x_callTV C hX (y := yX8_entry) (c_X8_entryP l G ow x n m c al sp tu pt pc ps pa r d u g w y z hlt hS hp) (ci := 7) hx (by decide) rfl rfl k_817 k_818 k_819 k_60 k_820 hd_X8_entry ⟨(Nat.le_of_ble_eq_true rfl), (Nat.le_of_ble_eq_true rfl)⟩ rfl (by first | exact Nat.le_of_ble_eq_true rfl | simp [x_crf, Value.category]) rfl rfl D_L_entry_0.2.2.2.2.2.1 ⟨(Nat.le_of_ble_eq_true rfl), (Nat.le_of_ble_eq_true rfl)⟩ (fun E_5 S_5 hx_5 => ?_) (fun r_5 S_5 h_5 => ?_)
  · skip
    obtain ⟨rfl, ow1, hF1, hS1⟩ := hx_5
    obtain ⟨K1, N1, I1, Q1, J1⟩ := S_5
    refine ⟨13, cat1 htb (by decide) (by decide) k_743 hX.ca.2.2.2, fun q9 => ?_⟩
    refine x_astore C (lv' := [_, _, _, _, _]) D_L_entry_0.2.2.2.2.2.2.2.2.2.1 (Nat.le_of_ble_eq_true rfl) (by first | rfl | exact x_ok_q rfl) (by first | exact Or.inr ⟨_, rfl⟩ | exact va_rf_or _ | exact Or.inl rfl) rfl ?_
    refine x_iconst C (v := nI 1) D_L_entry_0.2.2.2.2.2.2.2.2.2.2.1 (by decide +kernel) ?_
    refine ret _ _ _ _ _ _ rfl D_L_entry_0.2.2.2.2.2.2.2.2.2.2.2 (Nat.le_of_ble_eq_true rfl) (Nat.le_of_ble_eq_true rfl) ?_
    exact ⟨rfl, ow1, hF1, hS1⟩
  exact h_5.elim
abbrev rm_L_entryN : Room := { frames := 7, cells := 8, slots := 60, locals := 113 }
set_option maxHeartbeats 4000000 in
set_option maxRecDepth 100000 in
theorem c_L_entryN (l : Launch) (G : xG) {K N : Nat → Nat} {I : Nat → Nat → Int32} {Q : Nat → Nat → Option Nat} {J : Nat → Nat → Int64} (ow : xO) (x o n m : Nat) (c : Nat → Nat) (al : Nat → Bool) (sp tu pt pc ps : Nat → Nat) (pa : Nat → Bool) (r d u g w : Int32) (y z : Int32) (hlt : l.stackTraces = false) (hS : SY ow (K, N, I, Q, J) x n c al sp tu pt m pc pa ps r d u g w) (hO : K o = 24 ∧ N o = 1) (hp : 0 < cn (fun i => decide (nI (pt i) = y)) n) (hz : z < 0 ∨ nI (cn (fun i => decide (nI (pt i) = y)) n) ≤ z)  : XMW l yL_entry cL_entry 5 (some .int) [(0, 10, 13, 26), (0, 10, 17, 21)] rm_L_entryN G [.ref x, .int y, .int z, .ref o] (K, N, I, Q, J) (fun r_ S1 => r_ = nI 2 ∧ ∃ ow1, FR8 ow ow1 (K, N, I, Q, J) S1 ∧ SY ow1 S1 x n c al sp tu pt m pc pa ps r d u g w) := by
  refine x_metW (lv := [_, _, _, _, _]) (by decide +kernel) (x_cc (by first | rfl | exact x_crf _) (x_cc (by first | rfl | exact x_crf _) (x_cc (by first | rfl | exact x_crf _) (x_cc (by first | rfl | exact x_crf _) x_cn)))) (Nat.le_of_ble_eq_true rfl) rfl ?_
  intro pP eE sS mM aA bB hH cC Z C hX htb ret
  obtain ⟨ko, no⟩ := id hO
  have hx : K x = 8 := hS.choose_spec.choose_spec.choose_spec.choose_spec.1.1
  refine x_aload_n C D_L_entry_0.1 rfl rfl (by first | exact Or.inr ⟨_, rfl⟩ | exact va_rf_or _ | exact Or.inl rfl) ?_
  refine x_iconst C (v := nI 0) D_L_entry_0.2.1 (by decide +kernel) ?_
  refine x_aload_n C D_L_entry_0.2.2.1 rfl rfl (by first | exact Or.inr ⟨_, rfl⟩ | exact va_rf_or _ | exact Or.inl rfl) ?_
  refine x_iload_n C D_L_entry_0.2.2.2.1 rfl rfl ?_
  refine x_iload_n C D_L_entry_0.2.2.2.2.1 rfl rfl ?_
  refine x_callTV C hX (y := yX8_entry) (c_X8_entryN l G ow x n m c al sp tu pt pc ps pa r d u g w y z hlt hS hp hz) (ci := 7) hx (by decide) rfl rfl k_817 k_818 k_819 k_60 k_820 hd_X8_entry ⟨(Nat.le_of_ble_eq_true rfl), (Nat.le_of_ble_eq_true rfl)⟩ rfl (by first | exact Nat.le_of_ble_eq_true rfl | simp [x_crf, Value.category]) rfl rfl D_L_entry_0.2.2.2.2.2.1 ⟨(Nat.le_of_ble_eq_true rfl), (Nat.le_of_ble_eq_true rfl)⟩ (fun E_5 S_5 hx_5 => ?_) (fun r_5 S_5 h_5 => ?_)
  · skip
    obtain ⟨rfl, ow1, hF1, hS1⟩ := hx_5
    obtain ⟨K1, N1, I1, Q1, J1⟩ := S_5
    refine ⟨17, cat2 htb (by decide) k_743 hX.2.2.2.2.2.1 (by decide) (by decide) k_715 hX.ca.2.2.1, fun q9 => ?_⟩
    refine x_astore C (lv' := [_, _, _, _, _]) D_L_entry_1.1 (Nat.le_of_ble_eq_true rfl) (by first | rfl | exact x_ok_q rfl) (by first | exact Or.inr ⟨_, rfl⟩ | exact va_rf_or _ | exact Or.inl rfl) rfl ?_
    refine x_iconst C (v := nI 2) D_L_entry_1.2.1 (by decide +kernel) ?_
    refine ret _ _ _ _ _ _ rfl D_L_entry_1.2.2.1 (Nat.le_of_ble_eq_true rfl) (Nat.le_of_ble_eq_true rfl) ?_
    exact ⟨rfl, ow1, hF1, hS1⟩
  exact h_5.elim
abbrev rm_L_entryY : Room := { frames := 7, cells := 8, slots := 60, locals := 113 }
set_option maxHeartbeats 4000000 in
set_option maxRecDepth 100000 in
theorem c_L_entryY (l : Launch) (G : xG) {K N : Nat → Nat} {I : Nat → Nat → Int32} {Q : Nat → Nat → Option Nat} {J : Nat → Nat → Int64} (ow : xO) (x o n m : Nat) (c : Nat → Nat) (al : Nat → Bool) (sp tu pt pc ps : Nat → Nat) (pa : Nat → Bool) (r d u g w : Int32) (y : Int32) (j : Nat) (hlt : l.stackTraces = false) (hS : SY ow (K, N, I, Q, J) x n c al sp tu pt m pc pa ps r d u g w) (hO : K o = 24 ∧ N o = 1) (hp : 0 < cn (fun i => decide (nI (pt i) = y)) n) (hj : j < cn (fun i => decide (nI (pt i) = y)) n)  : XMW l yL_entry cL_entry 5 (some .int) [(0, 10, 13, 26), (0, 10, 17, 21)] rm_L_entryY G [.ref x, .int y, .int (nI j), .ref o] (K, N, I, Q, J) (fun r_ S1 => r_ = nI 0 ∧ ∃ S0 J2, S1 = (S0.1, S0.2.1, S0.2.2.1, S0.2.2.2.1, J2) ∧ J2 = x_u2 S0.2.2.2.2 o 0 ((cv1 (c (selF (fun i => decide (nI (pt i) = y)) n j))).toInt64) ∧ ∃ ow1, FR8 ow ow1 (K, N, I, Q, J) S0 ∧ SY ow1 S0 x n c al sp tu pt m pc pa ps r d u g w) := by
  refine x_metW (lv := [_, _, _, _, _]) (by decide +kernel) (x_cc (by first | rfl | exact x_crf _) (x_cc (by first | rfl | exact x_crf _) (x_cc (by first | rfl | exact x_crf _) (x_cc (by first | rfl | exact x_crf _) x_cn)))) (Nat.le_of_ble_eq_true rfl) rfl ?_
  intro pP eE sS mM aA bB hH cC Z C hX htb ret
  obtain ⟨ko, no⟩ := id hO
  have hx : K x = 8 := hS.choose_spec.choose_spec.choose_spec.choose_spec.1.1
  refine x_aload_n C D_L_entry_0.1 rfl rfl (by first | exact Or.inr ⟨_, rfl⟩ | exact va_rf_or _ | exact Or.inl rfl) ?_
  refine x_iconst C (v := nI 0) D_L_entry_0.2.1 (by decide +kernel) ?_
  refine x_aload_n C D_L_entry_0.2.2.1 rfl rfl (by first | exact Or.inr ⟨_, rfl⟩ | exact va_rf_or _ | exact Or.inl rfl) ?_
  refine x_iload_n C D_L_entry_0.2.2.2.1 rfl rfl ?_
  refine x_iload_n C D_L_entry_0.2.2.2.2.1 rfl rfl ?_
  refine x_callTV C hX (y := yX8_entry) (c_X8_entryY l G ow x n m c al sp tu pt pc ps pa r d u g w y j hlt hS hp hj) (ci := 7) hx (by decide) rfl rfl k_817 k_818 k_819 k_60 k_820 hd_X8_entry ⟨(Nat.le_of_ble_eq_true rfl), (Nat.le_of_ble_eq_true rfl)⟩ rfl (by first | exact Nat.le_of_ble_eq_true rfl | simp [x_crf, Value.category]) rfl rfl D_L_entry_0.2.2.2.2.2.1 ⟨(Nat.le_of_ble_eq_true rfl), (Nat.le_of_ble_eq_true rfl)⟩ (fun E_5 S_5 hx_5 => ?_) (fun r_5 S_5 h_5 => ?_)
  · skip
    exact hx_5.elim
  obtain ⟨rfl, ow1, hF1, hS1⟩ := h_5
  obtain ⟨K1, N1, I1, Q1, J1⟩ := S_5
  obtain ⟨ho1, ko1, no1, ho2⟩ := hF1 o (by show K o ≠ 0; omega)
  have ko1 : K1 o = 24 := ko1.trans ko
  have no1 : N1 o = 1 := no1.trans no
  refine x_i2l C D_L_entry_0.2.2.2.2.2.2.1 ?_
  refine x_last C 0 ko1 rfl (by omega) (by omega) D_L_entry_0.2.2.2.2.2.2.2.1 (fun J2 eJ2 => ?_)
  refine x_goto C 21 D_L_entry_0.2.2.2.2.2.2.2.2.1 (by decide) ?_
  refine x_iconst C (v := nI 0) D_L_entry_1.2.2.2.1 (by decide +kernel) ?_
  refine ret _ _ _ _ _ _ rfl D_L_entry_1.2.2.2.2 (Nat.le_of_ble_eq_true rfl) (Nat.le_of_ble_eq_true rfl) ?_
  exact ⟨rfl, (K1, N1, I1, Q1, J1), J2, rfl, eJ2, ow1, hF1, hS1⟩
abbrev rm_L_addPointR : Room := { frames := 7, cells := 8, slots := 60, locals := 113 }
theorem hd_X8_addPoint : yX8_addPoint.cls ≠ "java/lang/invoke/MethodHandle" ∧ yX8_addPoint.cls ≠ "java/lang/invoke/VarHandle" ∧ (parseMethodDescriptor yX8_addPoint.desc).map (fun d => d.parameters.length) = some 2 := by decide +kernel
set_option maxHeartbeats 4000000 in
set_option maxRecDepth 100000 in
theorem c_L_addPointR (l : Launch) (G : xG) {K N : Nat → Nat} {I : Nat → Nat → Int32} {Q : Nat → Nat → Option Nat} {J : Nat → Nat → Int64} (ow : xO) (x o n m : Nat) (c : Nat → Nat) (al : Nat → Bool) (sp tu pt pc ps : Nat → Nat) (pa : Nat → Bool) (r d u g w : Int32) (y z : Int32) (hlt : l.stackTraces = false) (hS : SY ow (K, N, I, Q, J) x n c al sp tu pt m pc pa ps r d u g w) (hO : K o = 24 ∧ N o = 1) (hyz : y < 0 ∨ nI 99 < y ∨ z < 0 ∨ nI 99 < z)  : XMW l yL_addPoint cL_addPoint 5 (some .int) [(0, 17, 20, 13), (0, 17, 24, 15)] rm_L_addPointR G [.ref x, .int y, .int z, .ref o] (K, N, I, Q, J) (fun r_ S1 => r_ = nI 1 ∧ ∃ ow1, FR8 ow ow1 (K, N, I, Q, J) S1 ∧ SY ow1 S1 x n c al sp tu pt m pc pa ps r d u g w) := by
  refine x_metW (lv := [_, _, _, _, _]) (by decide +kernel) (x_cc (by first | rfl | exact x_crf _) (x_cc (by first | rfl | exact x_crf _) (x_cc (by first | rfl | exact x_crf _) (x_cc (by first | rfl | exact x_crf _) x_cn)))) (Nat.le_of_ble_eq_true rfl) rfl ?_
  intro pP eE sS mM aA bB hH cC Z C hX htb ret
  obtain ⟨ko, no⟩ := id hO
  have hx : K x = 8 := hS.choose_spec.choose_spec.choose_spec.choose_spec.1.1
  refine x_aload_n C D_L_addPoint_0.1 rfl rfl (by first | exact Or.inr ⟨_, rfl⟩ | exact va_rf_or _ | exact Or.inl rfl) ?_
  refine x_iconst C (v := nI 0) D_L_addPoint_0.2.1 (by decide +kernel) ?_
  refine x_aload_n C D_L_addPoint_0.2.2.1 rfl rfl (by first | exact Or.inr ⟨_, rfl⟩ | exact va_rf_or _ | exact Or.inl rfl) ?_
  refine x_iload_n C D_L_addPoint_0.2.2.2.1 rfl rfl ?_
  refine x_iload_n C D_L_addPoint_0.2.2.2.2.1 rfl rfl ?_
  refine x_callTV C hX (y := yX8_addPoint) (c_X8_addPointR l G ow x n m c al sp tu pt pc ps pa r d u g w y z hlt hS hyz) (ci := 7) hx (by decide) rfl rfl k_834 k_835 k_836 k_60 k_837 hd_X8_addPoint ⟨(Nat.le_of_ble_eq_true rfl), (Nat.le_of_ble_eq_true rfl)⟩ rfl (by first | exact Nat.le_of_ble_eq_true rfl | simp [x_crf, Value.category]) rfl rfl D_L_addPoint_0.2.2.2.2.2.1 ⟨(Nat.le_of_ble_eq_true rfl), (Nat.le_of_ble_eq_true rfl)⟩ (fun E_5 S_5 hx_5 => ?_) (fun r_5 S_5 h_5 => ?_)
  · skip
    obtain ⟨rfl, ow1, hF1, hS1⟩ := hx_5
    obtain ⟨K1, N1, I1, Q1, J1⟩ := S_5
    refine ⟨20, cat1 htb (by decide) (by decide) k_501 hX.ca.1, fun q9 => ?_⟩
    refine x_astore C (lv' := [_, _, _, _, _]) D_L_addPoint_1.1 (Nat.le_of_ble_eq_true rfl) (by first | rfl | exact x_ok_q rfl) (by first | exact Or.inr ⟨_, rfl⟩ | exact va_rf_or _ | exact Or.inl rfl) rfl ?_
    refine x_iconst C (v := nI 1) D_L_addPoint_1.2.1 (by decide +kernel) ?_
    refine ret _ _ _ _ _ _ rfl D_L_addPoint_1.2.2.1 (Nat.le_of_ble_eq_true rfl) (Nat.le_of_ble_eq_true rfl) ?_
    exact ⟨rfl, ow1, hF1, hS1⟩
  exact h_5.elim
abbrev rm_L_addPointT : Room := { frames := 7, cells := 8, slots := 60, locals := 113 }
set_option maxHeartbeats 4000000 in
set_option maxRecDepth 100000 in
theorem c_L_addPointT (l : Launch) (G : xG) {K N : Nat → Nat} {I : Nat → Nat → Int32} {Q : Nat → Nat → Option Nat} {J : Nat → Nat → Int64} (ow : xO) (x o n m : Nat) (c : Nat → Nat) (al : Nat → Bool) (sp tu pt pc ps : Nat → Nat) (pa : Nat → Bool) (r d u g w : Int32) (k : Nat) (hlt : l.stackTraces = false) (hS : SY ow (K, N, I, Q, J) x n c al sp tu pt m pc pa ps r d u g w) (hO : K o = 24 ∧ N o = 1) (hk : k < m) (hal : pa k = true)  : XMW l yL_addPoint cL_addPoint 5 (some .int) [(0, 17, 20, 13), (0, 17, 24, 15)] rm_L_addPointT G [.ref x, .int (nI (pc k / 100)), .int (nI (pc k % 100)), .ref o] (K, N, I, Q, J) (fun r_ S1 => r_ = nI 0 ∧ ∃ S0 J2, S1 = (S0.1, S0.2.1, S0.2.2.1, S0.2.2.2.1, J2) ∧ J2 = x_u2 S0.2.2.2.2 o 0 (0) ∧ ∃ ow1, FR8 ow ow1 (K, N, I, Q, J) S0 ∧ SY ow1 S0 x n c al sp tu pt m pc pa ps r d u g w) := by
  refine x_metW (lv := [_, _, _, _, _]) (by decide +kernel) (x_cc (by first | rfl | exact x_crf _) (x_cc (by first | rfl | exact x_crf _) (x_cc (by first | rfl | exact x_crf _) (x_cc (by first | rfl | exact x_crf _) x_cn)))) (Nat.le_of_ble_eq_true rfl) rfl ?_
  intro pP eE sS mM aA bB hH cC Z C hX htb ret
  obtain ⟨ko, no⟩ := id hO
  have hx : K x = 8 := hS.choose_spec.choose_spec.choose_spec.choose_spec.1.1
  refine x_aload_n C D_L_addPoint_0.1 rfl rfl (by first | exact Or.inr ⟨_, rfl⟩ | exact va_rf_or _ | exact Or.inl rfl) ?_
  refine x_iconst C (v := nI 0) D_L_addPoint_0.2.1 (by decide +kernel) ?_
  refine x_aload_n C D_L_addPoint_0.2.2.1 rfl rfl (by first | exact Or.inr ⟨_, rfl⟩ | exact va_rf_or _ | exact Or.inl rfl) ?_
  refine x_iload_n C D_L_addPoint_0.2.2.2.1 rfl rfl ?_
  refine x_iload_n C D_L_addPoint_0.2.2.2.2.1 rfl rfl ?_
  refine x_callTV C hX (y := yX8_addPoint) (c_X8_addPointT l G ow x n m c al sp tu pt pc ps pa r d u g w k hlt hS hk hal) (ci := 7) hx (by decide) rfl rfl k_834 k_835 k_836 k_60 k_837 hd_X8_addPoint ⟨(Nat.le_of_ble_eq_true rfl), (Nat.le_of_ble_eq_true rfl)⟩ rfl (by first | exact Nat.le_of_ble_eq_true rfl | simp [x_crf, Value.category]) rfl rfl D_L_addPoint_0.2.2.2.2.2.1 ⟨(Nat.le_of_ble_eq_true rfl), (Nat.le_of_ble_eq_true rfl)⟩ (fun E_5 S_5 hx_5 => ?_) (fun r_5 S_5 h_5 => ?_)
  · skip
    exact hx_5.elim
  obtain ⟨rfl, ow1, hF1, hS1⟩ := h_5
  obtain ⟨K1, N1, I1, Q1, J1⟩ := S_5
  obtain ⟨ho1, ko1, no1, ho2⟩ := hF1 o (by show K o ≠ 0; omega)
  have ko1 : K1 o = 24 := ko1.trans ko
  have no1 : N1 o = 1 := no1.trans no
  refine x_if_eq C 15 D_L_addPoint_0.2.2.2.2.2.2.1 (by decide) (fun c_8 => ?_) (fun c_8 => ?_)
  · skip
    refine x_lconst C (v := 0) D_L_addPoint_0.2.2.2.2.2.2.2.2.2.1 (by decide +kernel) ?_
    refine x_last C 0 ko1 rfl (by omega) (by omega) D_L_addPoint_0.2.2.2.2.2.2.2.2.2.2.1 (fun J2 eJ2 => ?_)
    refine x_goto C 28 D_L_addPoint_0.2.2.2.2.2.2.2.2.2.2.2 (by decide) ?_
    refine x_iconst C (v := nI 0) D_L_addPoint_1.2.2.2.2.2.2.1 (by decide +kernel) ?_
    refine ret _ _ _ _ _ _ rfl D_L_addPoint_1.2.2.2.2.2.2.2 (Nat.le_of_ble_eq_true rfl) (Nat.le_of_ble_eq_true rfl) ?_
    exact ⟨rfl, (K1, N1, I1, Q1, J1), J2, rfl, eJ2, ow1, hF1, hS1⟩
  · skip
    exact absurd rfl c_8
    --end
abbrev rm_L_addPointG : Room := { frames := 7, cells := 8, slots := 60, locals := 113 }
set_option maxHeartbeats 4000000 in
set_option maxRecDepth 100000 in
theorem c_L_addPointG (l : Launch) (G : xG) {K N : Nat → Nat} {I : Nat → Nat → Int32} {Q : Nat → Nat → Option Nat} {J : Nat → Nat → Int64} (ow : xO) (x o n m : Nat) (c : Nat → Nat) (al : Nat → Bool) (sp tu pt pc ps : Nat → Nat) (pa : Nat → Bool) (r d u g w : Int32) (k : Nat) (hlt : l.stackTraces = false) (hS : SY ow (K, N, I, Q, J) x n c al sp tu pt m pc pa ps r d u g w) (hO : K o = 24 ∧ N o = 1) (hk : k < m) (hal : pa k = false) (hlv : cn pa m = 60)  : XMW l yL_addPoint cL_addPoint 5 (some .int) [(0, 17, 20, 13), (0, 17, 24, 15)] rm_L_addPointG G [.ref x, .int (nI (pc k / 100)), .int (nI (pc k % 100)), .ref o] (K, N, I, Q, J) (fun r_ S1 => r_ = nI 2 ∧ ∃ ow1, FR8 ow ow1 (K, N, I, Q, J) S1 ∧ SY ow1 S1 x n c al sp tu pt m pc pa ps r d u g w) := by
  refine x_metW (lv := [_, _, _, _, _]) (by decide +kernel) (x_cc (by first | rfl | exact x_crf _) (x_cc (by first | rfl | exact x_crf _) (x_cc (by first | rfl | exact x_crf _) (x_cc (by first | rfl | exact x_crf _) x_cn)))) (Nat.le_of_ble_eq_true rfl) rfl ?_
  intro pP eE sS mM aA bB hH cC Z C hX htb ret
  obtain ⟨ko, no⟩ := id hO
  have hx : K x = 8 := hS.choose_spec.choose_spec.choose_spec.choose_spec.1.1
  refine x_aload_n C D_L_addPoint_0.1 rfl rfl (by first | exact Or.inr ⟨_, rfl⟩ | exact va_rf_or _ | exact Or.inl rfl) ?_
  refine x_iconst C (v := nI 0) D_L_addPoint_0.2.1 (by decide +kernel) ?_
  refine x_aload_n C D_L_addPoint_0.2.2.1 rfl rfl (by first | exact Or.inr ⟨_, rfl⟩ | exact va_rf_or _ | exact Or.inl rfl) ?_
  refine x_iload_n C D_L_addPoint_0.2.2.2.1 rfl rfl ?_
  refine x_iload_n C D_L_addPoint_0.2.2.2.2.1 rfl rfl ?_
  refine x_callTV C hX (y := yX8_addPoint) (c_X8_addPointG l G ow x n m c al sp tu pt pc ps pa r d u g w k hlt hS hk hal hlv) (ci := 7) hx (by decide) rfl rfl k_834 k_835 k_836 k_60 k_837 hd_X8_addPoint ⟨(Nat.le_of_ble_eq_true rfl), (Nat.le_of_ble_eq_true rfl)⟩ rfl (by first | exact Nat.le_of_ble_eq_true rfl | simp [x_crf, Value.category]) rfl rfl D_L_addPoint_0.2.2.2.2.2.1 ⟨(Nat.le_of_ble_eq_true rfl), (Nat.le_of_ble_eq_true rfl)⟩ (fun E_5 S_5 hx_5 => ?_) (fun r_5 S_5 h_5 => ?_)
  · skip
    obtain ⟨rfl, ow1, hF1, hS1⟩ := hx_5
    obtain ⟨K1, N1, I1, Q1, J1⟩ := S_5
    refine ⟨24, cat2 htb (by decide) k_501 hX.2.2.2.2.1 (by decide) (by decide) k_502 hX.ca.2.1, fun q9 => ?_⟩
    refine x_astore C (lv' := [_, _, _, _, _]) D_L_addPoint_1.2.2.2.1 (Nat.le_of_ble_eq_true rfl) (by first | rfl | exact x_ok_q rfl) (by first | exact Or.inr ⟨_, rfl⟩ | exact va_rf_or _ | exact Or.inl rfl) rfl ?_
    refine x_iconst C (v := nI 2) D_L_addPoint_1.2.2.2.2.1 (by decide +kernel) ?_
    refine ret _ _ _ _ _ _ rfl D_L_addPoint_1.2.2.2.2.2.1 (Nat.le_of_ble_eq_true rfl) (Nat.le_of_ble_eq_true rfl) ?_
    exact ⟨rfl, ow1, hF1, hS1⟩
  exact h_5.elim
abbrev rm_L_addPointF : Room := { frames := 7, cells := 8, slots := 60, locals := 113 }
set_option maxHeartbeats 4000000 in
set_option maxRecDepth 100000 in
theorem c_L_addPointF (l : Launch) (G : xG) {K N : Nat → Nat} {I : Nat → Nat → Int32} {Q : Nat → Nat → Option Nat} {J : Nat → Nat → Int64} (ow : xO) (x o n m : Nat) (c : Nat → Nat) (al : Nat → Bool) (sp tu pt pc ps : Nat → Nat) (pa : Nat → Bool) (r d u g w : Int32) (cc : Nat) (hlt : l.stackTraces = false) (hS : SY ow (K, N, I, Q, J) x n c al sp tu pt m pc pa ps r d u g w) (hO : K o = 24 ∧ N o = 1) (hcc : cc < 10000) (hnew : ∀ i, i < m → pc i ≠ cc) (hlv : cn pa m = 60)  : XMW l yL_addPoint cL_addPoint 5 (some .int) [(0, 17, 20, 13), (0, 17, 24, 15)] rm_L_addPointF G [.ref x, .int (nI (cc / 100)), .int (nI (cc % 100)), .ref o] (K, N, I, Q, J) (fun r_ S1 => r_ = nI 2 ∧ ∃ ow1, FR8 ow ow1 (K, N, I, Q, J) S1 ∧ SY ow1 S1 x n c al sp tu pt m pc pa ps r d u g w) := by
  refine x_metW (lv := [_, _, _, _, _]) (by decide +kernel) (x_cc (by first | rfl | exact x_crf _) (x_cc (by first | rfl | exact x_crf _) (x_cc (by first | rfl | exact x_crf _) (x_cc (by first | rfl | exact x_crf _) x_cn)))) (Nat.le_of_ble_eq_true rfl) rfl ?_
  intro pP eE sS mM aA bB hH cC Z C hX htb ret
  obtain ⟨ko, no⟩ := id hO
  have hx : K x = 8 := hS.choose_spec.choose_spec.choose_spec.choose_spec.1.1
  refine x_aload_n C D_L_addPoint_0.1 rfl rfl (by first | exact Or.inr ⟨_, rfl⟩ | exact va_rf_or _ | exact Or.inl rfl) ?_
  refine x_iconst C (v := nI 0) D_L_addPoint_0.2.1 (by decide +kernel) ?_
  refine x_aload_n C D_L_addPoint_0.2.2.1 rfl rfl (by first | exact Or.inr ⟨_, rfl⟩ | exact va_rf_or _ | exact Or.inl rfl) ?_
  refine x_iload_n C D_L_addPoint_0.2.2.2.1 rfl rfl ?_
  refine x_iload_n C D_L_addPoint_0.2.2.2.2.1 rfl rfl ?_
  refine x_callTV C hX (y := yX8_addPoint) (c_X8_addPointF l G ow x n m c al sp tu pt pc ps pa r d u g w cc hlt hS hcc hnew hlv) (ci := 7) hx (by decide) rfl rfl k_834 k_835 k_836 k_60 k_837 hd_X8_addPoint ⟨(Nat.le_of_ble_eq_true rfl), (Nat.le_of_ble_eq_true rfl)⟩ rfl (by first | exact Nat.le_of_ble_eq_true rfl | simp [x_crf, Value.category]) rfl rfl D_L_addPoint_0.2.2.2.2.2.1 ⟨(Nat.le_of_ble_eq_true rfl), (Nat.le_of_ble_eq_true rfl)⟩ (fun E_5 S_5 hx_5 => ?_) (fun r_5 S_5 h_5 => ?_)
  · skip
    obtain ⟨rfl, ow1, hF1, hS1⟩ := hx_5
    obtain ⟨K1, N1, I1, Q1, J1⟩ := S_5
    refine ⟨24, cat2 htb (by decide) k_501 hX.2.2.2.2.1 (by decide) (by decide) k_502 hX.ca.2.1, fun q9 => ?_⟩
    refine x_astore C (lv' := [_, _, _, _, _]) D_L_addPoint_1.2.2.2.1 (Nat.le_of_ble_eq_true rfl) (by first | rfl | exact x_ok_q rfl) (by first | exact Or.inr ⟨_, rfl⟩ | exact va_rf_or _ | exact Or.inl rfl) rfl ?_
    refine x_iconst C (v := nI 2) D_L_addPoint_1.2.2.2.2.1 (by decide +kernel) ?_
    refine ret _ _ _ _ _ _ rfl D_L_addPoint_1.2.2.2.2.2.1 (Nat.le_of_ble_eq_true rfl) (Nat.le_of_ble_eq_true rfl) ?_
    exact ⟨rfl, ow1, hF1, hS1⟩
  exact h_5.elim
abbrev rm_L_addPointD : Room := { frames := 7, cells := 8, slots := 60, locals := 114 }
set_option maxHeartbeats 4000000 in
set_option maxRecDepth 100000 in
theorem c_L_addPointD (l : Launch) (G : xG) {K N : Nat → Nat} {I : Nat → Nat → Int32} {Q : Nat → Nat → Option Nat} {J : Nat → Nat → Int64} (ow : xO) (x o n m : Nat) (c : Nat → Nat) (al : Nat → Bool) (sp tu pt pc ps : Nat → Nat) (pa : Nat → Bool) (r d u g w : Int32) (k : Nat) (hlt : l.stackTraces = false) (hS : SY ow (K, N, I, Q, J) x n c al sp tu pt m pc pa ps r d u g w) (hO : K o = 24 ∧ N o = 1) (hk : k < m) (hal : pa k = false) (hlv : cn pa m < 60)  : XMW l yL_addPoint cL_addPoint 5 (some .int) [(0, 17, 20, 13), (0, 17, 24, 15)] rm_L_addPointD G [.ref x, .int (nI (pc k / 100)), .int (nI (pc k % 100)), .ref o] (K, N, I, Q, J) (fun r_ S1 => r_ = nI 0 ∧ ∃ S0 J2, S1 = (S0.1, S0.2.1, S0.2.2.1, S0.2.2.2.1, J2) ∧ J2 = x_u2 S0.2.2.2.2 o 0 (1) ∧ ∃ ow1, FR8 ow ow1 (K, N, I, Q, J) S0 ∧ SY ow1 S0 x n c al sp tu pt m pc (x_up pa k true) ps r d u g w) := by
  refine x_metW (lv := [_, _, _, _, _]) (by decide +kernel) (x_cc (by first | rfl | exact x_crf _) (x_cc (by first | rfl | exact x_crf _) (x_cc (by first | rfl | exact x_crf _) (x_cc (by first | rfl | exact x_crf _) x_cn)))) (Nat.le_of_ble_eq_true rfl) rfl ?_
  intro pP eE sS mM aA bB hH cC Z C hX htb ret
  obtain ⟨ko, no⟩ := id hO
  have hx : K x = 8 := hS.choose_spec.choose_spec.choose_spec.choose_spec.1.1
  refine x_aload_n C D_L_addPoint_0.1 rfl rfl (by first | exact Or.inr ⟨_, rfl⟩ | exact va_rf_or _ | exact Or.inl rfl) ?_
  refine x_iconst C (v := nI 0) D_L_addPoint_0.2.1 (by decide +kernel) ?_
  refine x_aload_n C D_L_addPoint_0.2.2.1 rfl rfl (by first | exact Or.inr ⟨_, rfl⟩ | exact va_rf_or _ | exact Or.inl rfl) ?_
  refine x_iload_n C D_L_addPoint_0.2.2.2.1 rfl rfl ?_
  refine x_iload_n C D_L_addPoint_0.2.2.2.2.1 rfl rfl ?_
  refine x_callTV C hX (y := yX8_addPoint) (c_X8_addPointD l G ow x n m c al sp tu pt pc ps pa r d u g w k hlt hS hk hal hlv) (ci := 7) hx (by decide) rfl rfl k_834 k_835 k_836 k_60 k_837 hd_X8_addPoint ⟨(Nat.le_of_ble_eq_true rfl), (Nat.le_of_ble_eq_true rfl)⟩ rfl (by first | exact Nat.le_of_ble_eq_true rfl | simp [x_crf, Value.category]) rfl rfl D_L_addPoint_0.2.2.2.2.2.1 ⟨(Nat.le_of_ble_eq_true rfl), (Nat.le_of_ble_eq_true rfl)⟩ (fun E_5 S_5 hx_5 => ?_) (fun r_5 S_5 h_5 => ?_)
  · skip
    exact hx_5.elim
  obtain ⟨rfl, ow1, hF1, hS1⟩ := h_5
  obtain ⟨K1, N1, I1, Q1, J1⟩ := S_5
  obtain ⟨ho1, ko1, no1, ho2⟩ := hF1 o (by show K o ≠ 0; omega)
  have ko1 : K1 o = 24 := ko1.trans ko
  have no1 : N1 o = 1 := no1.trans no
  refine x_if_eq C 15 D_L_addPoint_0.2.2.2.2.2.2.1 (by decide) (fun c_8 => ?_) (fun c_8 => ?_)
  · skip
    exact absurd c_8 (by decide)
    --end
  · skip
    refine x_lconst C (v := 1) D_L_addPoint_0.2.2.2.2.2.2.2.1 (by decide +kernel) ?_
    refine x_goto C 16 D_L_addPoint_0.2.2.2.2.2.2.2.2.1 (by decide) ?_
    refine x_last C 0 ko1 rfl (by omega) (by omega) D_L_addPoint_0.2.2.2.2.2.2.2.2.2.2.1 (fun J2 eJ2 => ?_)
    refine x_goto C 28 D_L_addPoint_0.2.2.2.2.2.2.2.2.2.2.2 (by decide) ?_
    refine x_iconst C (v := nI 0) D_L_addPoint_1.2.2.2.2.2.2.1 (by decide +kernel) ?_
    refine ret _ _ _ _ _ _ rfl D_L_addPoint_1.2.2.2.2.2.2.2 (Nat.le_of_ble_eq_true rfl) (Nat.le_of_ble_eq_true rfl) ?_
    exact ⟨rfl, (K1, N1, I1, Q1, J1), J2, rfl, eJ2, ow1, hF1, hS1⟩
abbrev rm_L_addPointN : Room := { frames := 47, cells := 8, slots := 60, locals := 1098 }
set_option maxHeartbeats 4000000 in
set_option maxRecDepth 100000 in
theorem c_L_addPointN (l : Launch) (G : xG) {K N : Nat → Nat} {I : Nat → Nat → Int32} {Q : Nat → Nat → Option Nat} {J : Nat → Nat → Int64} (ow : xO) (x o n m : Nat) (c : Nat → Nat) (al : Nat → Bool) (sp tu pt pc ps : Nat → Nat) (pa : Nat → Bool) (r d u g w : Int32) (cc : Nat) (hlt : l.stackTraces = false) (hS : SY ow (K, N, I, Q, J) x n c al sp tu pt m pc pa ps r d u g w) (hO : K o = 24 ∧ N o = 1) (hcc : cc < 10000) (hnew : ∀ i, i < m → pc i ≠ cc) (hlv : cn pa m < 60) (hmm : m - cn pa m ≤ cn pa m)  : XMW l yL_addPoint cL_addPoint 5 (some .int) [(0, 17, 20, 13), (0, 17, 24, 15)] rm_L_addPointN G [.ref x, .int (nI (cc / 100)), .int (nI (cc % 100)), .ref o] (K, N, I, Q, J) (fun r_ S1 => r_ = nI 0 ∧ ∃ S0 J2, S1 = (S0.1, S0.2.1, S0.2.2.1, S0.2.2.2.1, J2) ∧ J2 = x_u2 S0.2.2.2.2 o 0 (1) ∧ ∃ ow1 OP PS, FR8 ow ow1 (K, N, I, Q, J) S0 ∧ PXm m pc ps cc (hplX m pc ps cc) OP PS ∧ SY ow1 S0 x n c al sp tu pt (m + 1) (x_up pc m cc) (x_up pa m true) (fun i => if 0 < FDm m ps (hplX m pc ps cc) then PS 8 i else x_up ps m (hplX m pc ps cc) i) r d u g (w + nI (if 0 < FDm m ps (hplX m pc ps cc) then cnW (m + 1) (x_up ps m (hplX m pc ps cc)) (FDm m ps (hplX m pc ps cc)) else 0))) := by
  refine x_metW (lv := [_, _, _, _, _]) (by decide +kernel) (x_cc (by first | rfl | exact x_crf _) (x_cc (by first | rfl | exact x_crf _) (x_cc (by first | rfl | exact x_crf _) (x_cc (by first | rfl | exact x_crf _) x_cn)))) (Nat.le_of_ble_eq_true rfl) rfl ?_
  intro pP eE sS mM aA bB hH cC Z C hX htb ret
  obtain ⟨ko, no⟩ := id hO
  have hx : K x = 8 := hS.choose_spec.choose_spec.choose_spec.choose_spec.1.1
  refine x_aload_n C D_L_addPoint_0.1 rfl rfl (by first | exact Or.inr ⟨_, rfl⟩ | exact va_rf_or _ | exact Or.inl rfl) ?_
  refine x_iconst C (v := nI 0) D_L_addPoint_0.2.1 (by decide +kernel) ?_
  refine x_aload_n C D_L_addPoint_0.2.2.1 rfl rfl (by first | exact Or.inr ⟨_, rfl⟩ | exact va_rf_or _ | exact Or.inl rfl) ?_
  refine x_iload_n C D_L_addPoint_0.2.2.2.1 rfl rfl ?_
  refine x_iload_n C D_L_addPoint_0.2.2.2.2.1 rfl rfl ?_
  refine x_callTV C hX (y := yX8_addPoint) (c_X8_addPointN l G ow x n m c al sp tu pt pc ps pa r d u g w cc hlt hS hcc hnew hlv hmm) (ci := 7) hx (by decide) rfl rfl k_834 k_835 k_836 k_60 k_837 hd_X8_addPoint ⟨(Nat.le_of_ble_eq_true rfl), (Nat.le_of_ble_eq_true rfl)⟩ rfl (by first | exact Nat.le_of_ble_eq_true rfl | simp [x_crf, Value.category]) rfl rfl D_L_addPoint_0.2.2.2.2.2.1 ⟨(Nat.le_of_ble_eq_true rfl), (Nat.le_of_ble_eq_true rfl)⟩ (fun E_5 S_5 hx_5 => ?_) (fun r_5 S_5 h_5 => ?_)
  · skip
    exact hx_5.elim
  obtain ⟨rfl, ow1, OP, PS, hF1, hPX, hS1⟩ := h_5
  obtain ⟨K1, N1, I1, Q1, J1⟩ := S_5
  obtain ⟨ho1, ko1, no1, ho2⟩ := hF1 o (by show K o ≠ 0; omega)
  have ko1 : K1 o = 24 := ko1.trans ko
  have no1 : N1 o = 1 := no1.trans no
  refine x_if_eq C 15 D_L_addPoint_0.2.2.2.2.2.2.1 (by decide) (fun c_8 => ?_) (fun c_8 => ?_)
  · skip
    exact absurd c_8 (by decide)
    --end
  · skip
    refine x_lconst C (v := 1) D_L_addPoint_0.2.2.2.2.2.2.2.1 (by decide +kernel) ?_
    refine x_goto C 16 D_L_addPoint_0.2.2.2.2.2.2.2.2.1 (by decide) ?_
    refine x_last C 0 ko1 rfl (by omega) (by omega) D_L_addPoint_0.2.2.2.2.2.2.2.2.2.2.1 (fun J2 eJ2 => ?_)
    refine x_goto C 28 D_L_addPoint_0.2.2.2.2.2.2.2.2.2.2.2 (by decide) ?_
    refine x_iconst C (v := nI 0) D_L_addPoint_1.2.2.2.2.2.2.1 (by decide +kernel) ?_
    refine ret _ _ _ _ _ _ rfl D_L_addPoint_1.2.2.2.2.2.2.2 (Nat.le_of_ble_eq_true rfl) (Nat.le_of_ble_eq_true rfl) ?_
    exact ⟨rfl, (K1, N1, I1, Q1, J1), J2, rfl, eJ2, ow1, OP, PS, hF1, hPX, hS1⟩
abbrev rm_L_pointDepthR : Room := { frames := 7, cells := 8, slots := 60, locals := 113 }
theorem hd_X8_pointDepth : yX8_pointDepth.cls ≠ "java/lang/invoke/MethodHandle" ∧ yX8_pointDepth.cls ≠ "java/lang/invoke/VarHandle" ∧ (parseMethodDescriptor yX8_pointDepth.desc).map (fun d => d.parameters.length) = some 2 := by decide +kernel
set_option maxHeartbeats 4000000 in
set_option maxRecDepth 100000 in
theorem c_L_pointDepthR (l : Launch) (G : xG) {K N : Nat → Nat} {I : Nat → Nat → Int32} {Q : Nat → Nat → Option Nat} {J : Nat → Nat → Int64} (ow : xO) (x o n m : Nat) (c : Nat → Nat) (al : Nat → Bool) (sp tu pt pc ps : Nat → Nat) (pa : Nat → Bool) (r d u g w : Int32) (y z : Int32) (hlt : l.stackTraces = false) (hS : SY ow (K, N, I, Q, J) x n c al sp tu pt m pc pa ps r d u g w) (hO : K o = 24 ∧ N o = 1) (hyz : y < 0 ∨ nI 99 < y ∨ z < 0 ∨ nI 99 < z)  : XMW l yL_pointDepth cL_pointDepth 5 (some .int) [(0, 10, 13, 26)] rm_L_pointDepthR G [.ref x, .int y, .int z, .ref o] (K, N, I, Q, J) (fun r_ S1 => r_ = nI 1 ∧ ∃ ow1, FR8 ow ow1 (K, N, I, Q, J) S1 ∧ SY ow1 S1 x n c al sp tu pt m pc pa ps r d u g w) := by
  refine x_metW (lv := [_, _, _, _, _]) (by decide +kernel) (x_cc (by first | rfl | exact x_crf _) (x_cc (by first | rfl | exact x_crf _) (x_cc (by first | rfl | exact x_crf _) (x_cc (by first | rfl | exact x_crf _) x_cn)))) (Nat.le_of_ble_eq_true rfl) rfl ?_
  intro pP eE sS mM aA bB hH cC Z C hX htb ret
  obtain ⟨ko, no⟩ := id hO
  have hx : K x = 8 := hS.choose_spec.choose_spec.choose_spec.choose_spec.1.1
  refine x_aload_n C D_L_pointDepth_0.1 rfl rfl (by first | exact Or.inr ⟨_, rfl⟩ | exact va_rf_or _ | exact Or.inl rfl) ?_
  refine x_iconst C (v := nI 0) D_L_pointDepth_0.2.1 (by decide +kernel) ?_
  refine x_aload_n C D_L_pointDepth_0.2.2.1 rfl rfl (by first | exact Or.inr ⟨_, rfl⟩ | exact va_rf_or _ | exact Or.inl rfl) ?_
  refine x_iload_n C D_L_pointDepth_0.2.2.2.1 rfl rfl ?_
  refine x_iload_n C D_L_pointDepth_0.2.2.2.2.1 rfl rfl ?_
  refine x_callTV C hX (y := yX8_pointDepth) (c_X8_pointDepthR l G ow x n m c al sp tu pt pc ps pa r d u g w y z hlt hS hyz) (ci := 7) hx (by decide) rfl rfl k_846 k_847 k_848 k_60 k_849 hd_X8_pointDepth ⟨(Nat.le_of_ble_eq_true rfl), (Nat.le_of_ble_eq_true rfl)⟩ rfl (by first | exact Nat.le_of_ble_eq_true rfl | simp [x_crf, Value.category]) rfl rfl D_L_pointDepth_0.2.2.2.2.2.1 ⟨(Nat.le_of_ble_eq_true rfl), (Nat.le_of_ble_eq_true rfl)⟩ (fun E_5 S_5 hx_5 => ?_) (fun r_5 S_5 h_5 => ?_)
  · skip
    obtain ⟨rfl, ow1, hF1, hS1⟩ := hx_5
    obtain ⟨K1, N1, I1, Q1, J1⟩ := S_5
    refine ⟨13, cat1 htb (by decide) (by decide) k_743 hX.ca.2.2.2, fun q9 => ?_⟩
    refine x_astore C (lv' := [_, _, _, _, _]) D_L_pointDepth_0.2.2.2.2.2.2.2.2.2.1 (Nat.le_of_ble_eq_true rfl) (by first | rfl | exact x_ok_q rfl) (by first | exact Or.inr ⟨_, rfl⟩ | exact va_rf_or _ | exact Or.inl rfl) rfl ?_
    refine x_iconst C (v := nI 1) D_L_pointDepth_0.2.2.2.2.2.2.2.2.2.2.1 (by decide +kernel) ?_
    refine ret _ _ _ _ _ _ rfl D_L_pointDepth_0.2.2.2.2.2.2.2.2.2.2.2 (Nat.le_of_ble_eq_true rfl) (Nat.le_of_ble_eq_true rfl) ?_
    exact ⟨rfl, ow1, hF1, hS1⟩
  exact h_5.elim
abbrev rm_L_pointDepthN : Room := { frames := 7, cells := 8, slots := 60, locals := 113 }
set_option maxHeartbeats 4000000 in
set_option maxRecDepth 100000 in
theorem c_L_pointDepthN (l : Launch) (G : xG) {K N : Nat → Nat} {I : Nat → Nat → Int32} {Q : Nat → Nat → Option Nat} {J : Nat → Nat → Int64} (ow : xO) (x o n m : Nat) (c : Nat → Nat) (al : Nat → Bool) (sp tu pt pc ps : Nat → Nat) (pa : Nat → Bool) (r d u g w : Int32) (cc : Nat) (hlt : l.stackTraces = false) (hS : SY ow (K, N, I, Q, J) x n c al sp tu pt m pc pa ps r d u g w) (hO : K o = 24 ∧ N o = 1) (hcc : cc < 10000) (hnew : ∀ i, i < m → pc i ≠ cc)  : XMW l yL_pointDepth cL_pointDepth 5 (some .int) [(0, 10, 13, 26)] rm_L_pointDepthN G [.ref x, .int (nI (cc / 100)), .int (nI (cc % 100)), .ref o] (K, N, I, Q, J) (fun r_ S1 => r_ = nI 1 ∧ ∃ ow1, FR8 ow ow1 (K, N, I, Q, J) S1 ∧ SY ow1 S1 x n c al sp tu pt m pc pa ps r d u g w) := by
  refine x_metW (lv := [_, _, _, _, _]) (by decide +kernel) (x_cc (by first | rfl | exact x_crf _) (x_cc (by first | rfl | exact x_crf _) (x_cc (by first | rfl | exact x_crf _) (x_cc (by first | rfl | exact x_crf _) x_cn)))) (Nat.le_of_ble_eq_true rfl) rfl ?_
  intro pP eE sS mM aA bB hH cC Z C hX htb ret
  obtain ⟨ko, no⟩ := id hO
  have hx : K x = 8 := hS.choose_spec.choose_spec.choose_spec.choose_spec.1.1
  refine x_aload_n C D_L_pointDepth_0.1 rfl rfl (by first | exact Or.inr ⟨_, rfl⟩ | exact va_rf_or _ | exact Or.inl rfl) ?_
  refine x_iconst C (v := nI 0) D_L_pointDepth_0.2.1 (by decide +kernel) ?_
  refine x_aload_n C D_L_pointDepth_0.2.2.1 rfl rfl (by first | exact Or.inr ⟨_, rfl⟩ | exact va_rf_or _ | exact Or.inl rfl) ?_
  refine x_iload_n C D_L_pointDepth_0.2.2.2.1 rfl rfl ?_
  refine x_iload_n C D_L_pointDepth_0.2.2.2.2.1 rfl rfl ?_
  refine x_callTV C hX (y := yX8_pointDepth) (c_X8_pointDepthN l G ow x n m c al sp tu pt pc ps pa r d u g w cc hlt hS hcc hnew) (ci := 7) hx (by decide) rfl rfl k_846 k_847 k_848 k_60 k_849 hd_X8_pointDepth ⟨(Nat.le_of_ble_eq_true rfl), (Nat.le_of_ble_eq_true rfl)⟩ rfl (by first | exact Nat.le_of_ble_eq_true rfl | simp [x_crf, Value.category]) rfl rfl D_L_pointDepth_0.2.2.2.2.2.1 ⟨(Nat.le_of_ble_eq_true rfl), (Nat.le_of_ble_eq_true rfl)⟩ (fun E_5 S_5 hx_5 => ?_) (fun r_5 S_5 h_5 => ?_)
  · skip
    obtain ⟨rfl, ow1, hF1, hS1⟩ := hx_5
    obtain ⟨K1, N1, I1, Q1, J1⟩ := S_5
    refine ⟨13, cat1 htb (by decide) (by decide) k_743 hX.ca.2.2.2, fun q9 => ?_⟩
    refine x_astore C (lv' := [_, _, _, _, _]) D_L_pointDepth_0.2.2.2.2.2.2.2.2.2.1 (Nat.le_of_ble_eq_true rfl) (by first | rfl | exact x_ok_q rfl) (by first | exact Or.inr ⟨_, rfl⟩ | exact va_rf_or _ | exact Or.inl rfl) rfl ?_
    refine x_iconst C (v := nI 1) D_L_pointDepth_0.2.2.2.2.2.2.2.2.2.2.1 (by decide +kernel) ?_
    refine ret _ _ _ _ _ _ rfl D_L_pointDepth_0.2.2.2.2.2.2.2.2.2.2.2 (Nat.le_of_ble_eq_true rfl) (Nat.le_of_ble_eq_true rfl) ?_
    exact ⟨rfl, ow1, hF1, hS1⟩
  exact h_5.elim
abbrev rm_L_pointDepthY : Room := { frames := 7, cells := 8, slots := 60, locals := 113 }
set_option maxHeartbeats 4000000 in
set_option maxRecDepth 100000 in
theorem c_L_pointDepthY (l : Launch) (G : xG) {K N : Nat → Nat} {I : Nat → Nat → Int32} {Q : Nat → Nat → Option Nat} {J : Nat → Nat → Int64} (ow : xO) (x o n m : Nat) (c : Nat → Nat) (al : Nat → Bool) (sp tu pt pc ps : Nat → Nat) (pa : Nat → Bool) (r d u g w : Int32) (k : Nat) (hlt : l.stackTraces = false) (hS : SY ow (K, N, I, Q, J) x n c al sp tu pt m pc pa ps r d u g w) (hO : K o = 24 ∧ N o = 1) (hk : k < m)  : XMW l yL_pointDepth cL_pointDepth 5 (some .int) [(0, 10, 13, 26)] rm_L_pointDepthY G [.ref x, .int (nI (pc k / 100)), .int (nI (pc k % 100)), .ref o] (K, N, I, Q, J) (fun r_ S1 => r_ = nI 0 ∧ ∃ S0 J2, S1 = (S0.1, S0.2.1, S0.2.2.1, S0.2.2.2.1, J2) ∧ J2 = x_u2 S0.2.2.2.2 o 0 ((nI (dep (ps k))).toInt64) ∧ ∃ ow1, FR8 ow ow1 (K, N, I, Q, J) S0 ∧ SY ow1 S0 x n c al sp tu pt m pc pa ps r d u g w) := by
  refine x_metW (lv := [_, _, _, _, _]) (by decide +kernel) (x_cc (by first | rfl | exact x_crf _) (x_cc (by first | rfl | exact x_crf _) (x_cc (by first | rfl | exact x_crf _) (x_cc (by first | rfl | exact x_crf _) x_cn)))) (Nat.le_of_ble_eq_true rfl) rfl ?_
  intro pP eE sS mM aA bB hH cC Z C hX htb ret
  obtain ⟨ko, no⟩ := id hO
  have hx : K x = 8 := hS.choose_spec.choose_spec.choose_spec.choose_spec.1.1
  refine x_aload_n C D_L_pointDepth_0.1 rfl rfl (by first | exact Or.inr ⟨_, rfl⟩ | exact va_rf_or _ | exact Or.inl rfl) ?_
  refine x_iconst C (v := nI 0) D_L_pointDepth_0.2.1 (by decide +kernel) ?_
  refine x_aload_n C D_L_pointDepth_0.2.2.1 rfl rfl (by first | exact Or.inr ⟨_, rfl⟩ | exact va_rf_or _ | exact Or.inl rfl) ?_
  refine x_iload_n C D_L_pointDepth_0.2.2.2.1 rfl rfl ?_
  refine x_iload_n C D_L_pointDepth_0.2.2.2.2.1 rfl rfl ?_
  refine x_callTV C hX (y := yX8_pointDepth) (c_X8_pointDepthY l G ow x n m c al sp tu pt pc ps pa r d u g w k hlt hS hk) (ci := 7) hx (by decide) rfl rfl k_846 k_847 k_848 k_60 k_849 hd_X8_pointDepth ⟨(Nat.le_of_ble_eq_true rfl), (Nat.le_of_ble_eq_true rfl)⟩ rfl (by first | exact Nat.le_of_ble_eq_true rfl | simp [x_crf, Value.category]) rfl rfl D_L_pointDepth_0.2.2.2.2.2.1 ⟨(Nat.le_of_ble_eq_true rfl), (Nat.le_of_ble_eq_true rfl)⟩ (fun E_5 S_5 hx_5 => ?_) (fun r_5 S_5 h_5 => ?_)
  · skip
    exact hx_5.elim
  obtain ⟨rfl, ow1, hF1, hS1⟩ := h_5
  obtain ⟨K1, N1, I1, Q1, J1⟩ := S_5
  obtain ⟨ho1, ko1, no1, ho2⟩ := hF1 o (by show K o ≠ 0; omega)
  have ko1 : K1 o = 24 := ko1.trans ko
  have no1 : N1 o = 1 := no1.trans no
  refine x_i2l C D_L_pointDepth_0.2.2.2.2.2.2.1 ?_
  refine x_last C 0 ko1 rfl (by omega) (by omega) D_L_pointDepth_0.2.2.2.2.2.2.2.1 (fun J2 eJ2 => ?_)
  refine x_goto C 17 D_L_pointDepth_0.2.2.2.2.2.2.2.2.1 (by decide) ?_
  refine x_iconst C (v := nI 0) D_L_pointDepth_1.1 (by decide +kernel) ?_
  refine ret _ _ _ _ _ _ rfl D_L_pointDepth_1.2 (Nat.le_of_ble_eq_true rfl) (Nat.le_of_ble_eq_true rfl) ?_
  exact ⟨rfl, (K1, N1, I1, Q1, J1), J2, rfl, eJ2, ow1, hF1, hS1⟩
abbrev rm_L_countInX : Room := { frames := 7, cells := 8, slots := 60, locals := 114 }
theorem hd_X8_countIn : yX8_countIn.cls ≠ "java/lang/invoke/MethodHandle" ∧ yX8_countIn.cls ≠ "java/lang/invoke/VarHandle" ∧ (parseMethodDescriptor yX8_countIn.desc).map (fun d => d.parameters.length) = some 4 := by decide +kernel
set_option maxHeartbeats 4000000 in
set_option maxRecDepth 100000 in
theorem c_L_countInX (l : Launch) (G : xG) {K N : Nat → Nat} {I : Nat → Nat → Int32} {Q : Nat → Nat → Option Nat} {J : Nat → Nat → Int64} (ow : xO) (x o n m : Nat) (c : Nat → Nat) (al : Nat → Bool) (sp tu pt pc ps : Nat → Nat) (pa : Nat → Bool) (r d u g w : Int32) (a b e f : Int32) (hlt : l.stackTraces = false) (hS : SY ow (K, N, I, Q, J) x n c al sp tu pt m pc pa ps r d u g w) (hO : K o = 24 ∧ N o = 1) (hx9 : a < 0 ∨ e < a ∨ nI 99 < e ∨ b < 0 ∨ f < b ∨ nI 99 < f)  : XMW l yL_countIn cL_countIn 7 (some .int) [(0, 14, 17, 13)] rm_L_countInX G [.ref x, .int a, .int b, .int e, .int f, .ref o] (K, N, I, Q, J) (fun r_ S1 => r_ = nI 1 ∧ ∃ ow1, FR8 ow ow1 (K, N, I, Q, J) S1 ∧ SY ow1 S1 x n c al sp tu pt m pc pa ps r d u g w) := by
  refine x_metW (lv := [_, _, _, _, _, _, _]) (by decide +kernel) (x_cc (by first | rfl | exact x_crf _) (x_cc (by first | rfl | exact x_crf _) (x_cc (by first | rfl | exact x_crf _) (x_cc (by first | rfl | exact x_crf _) (x_cc (by first | rfl | exact x_crf _) (x_cc (by first | rfl | exact x_crf _) x_cn)))))) (Nat.le_of_ble_eq_true rfl) rfl ?_
  intro pP eE sS mM aA bB hH cC Z C hX htb ret
  obtain ⟨ko, no⟩ := id hO
  have hx : K x = 8 := hS.choose_spec.choose_spec.choose_spec.choose_spec.1.1
  refine x_aload C D_L_countIn_0.1 rfl (by first | exact Or.inr ⟨_, rfl⟩ | exact va_rf_or _ | exact Or.inl rfl) ?_
  refine x_iconst C (v := nI 0) D_L_countIn_0.2.1 (by decide +kernel) ?_
  refine x_aload_n C D_L_countIn_0.2.2.1 rfl rfl (by first | exact Or.inr ⟨_, rfl⟩ | exact va_rf_or _ | exact Or.inl rfl) ?_
  refine x_iload_n C D_L_countIn_0.2.2.2.1 rfl rfl ?_
  refine x_iload_n C D_L_countIn_0.2.2.2.2.1 rfl rfl ?_
  refine x_iload_n C D_L_countIn_0.2.2.2.2.2.1 rfl rfl ?_
  refine x_iload C D_L_countIn_0.2.2.2.2.2.2.1 rfl ?_
  refine x_callTV C hX (y := yX8_countIn) (c_X8_countInX l G ow x n m c al sp tu pt pc ps pa r d u g w a b e f hlt hS hx9) (ci := 7) hx (by decide) rfl rfl k_857 k_858 k_859 k_60 k_860 hd_X8_countIn ⟨(Nat.le_of_ble_eq_true rfl), (Nat.le_of_ble_eq_true rfl)⟩ rfl (by first | exact Nat.le_of_ble_eq_true rfl | simp [x_crf, Value.category]) rfl rfl D_L_countIn_0.2.2.2.2.2.2.2.1 ⟨(Nat.le_of_ble_eq_true rfl), (Nat.le_of_ble_eq_true rfl)⟩ (fun E_9 S_9 hx_9 => ?_) (fun r_9 S_9 h_9 => ?_)
  · skip
    obtain ⟨rfl, ow1, hF1, hS1⟩ := hx_9
    obtain ⟨K1, N1, I1, Q1, J1⟩ := S_9
    refine ⟨17, cat1 htb (by decide) (by decide) k_501 hX.ca.1, fun q9 => ?_⟩
    refine x_astore C (lv' := [_, _, _, _, _, _, _]) D_L_countIn_0.2.2.2.2.2.2.2.2.2.2.2 (Nat.le_of_ble_eq_true rfl) (by first | rfl | exact x_ok_q rfl) (by first | exact Or.inr ⟨_, rfl⟩ | exact va_rf_or _ | exact Or.inl rfl) rfl ?_
    refine x_iconst C (v := nI 1) D_L_countIn_1.1 (by decide +kernel) ?_
    refine ret _ _ _ _ _ _ rfl D_L_countIn_1.2.1 (Nat.le_of_ble_eq_true rfl) (Nat.le_of_ble_eq_true rfl) ?_
    exact ⟨rfl, ow1, hF1, hS1⟩
  exact h_9.elim
abbrev rm_L_countInY : Room := { frames := 47, cells := 8, slots := 60, locals := 1100 }
set_option maxHeartbeats 4000000 in
set_option maxRecDepth 100000 in
theorem c_L_countInY (l : Launch) (G : xG) {K N : Nat → Nat} {I : Nat → Nat → Int32} {Q : Nat → Nat → Option Nat} {J : Nat → Nat → Int64} (ow : xO) (x o n m : Nat) (c : Nat → Nat) (al : Nat → Bool) (sp tu pt pc ps : Nat → Nat) (pa : Nat → Bool) (r d u g w : Int32) (a b e f : Nat) (hlt : l.stackTraces = false) (hS : SY ow (K, N, I, Q, J) x n c al sp tu pt m pc pa ps r d u g w) (hO : K o = 24 ∧ N o = 1) (hac : a ≤ e) (hc9 : e ≤ 99) (hbd : b ≤ f) (hd9 : f ≤ 99)  : XMW l yL_countIn cL_countIn 7 (some .int) [(0, 14, 17, 13)] rm_L_countInY G [.ref x, .int (nI a), .int (nI b), .int (nI e), .int (nI f), .ref o] (K, N, I, Q, J) (fun r_ S1 => r_ = nI 0 ∧ ∃ S0 J2, S1 = (S0.1, S0.2.1, S0.2.2.1, S0.2.2.2.1, J2) ∧ J2 = x_u2 S0.2.2.2.2 o 0 ((nI (cn (fun i => pa i && decide (a ≤ pc i / 100) && decide (pc i / 100 ≤ e) && decide (b ≤ pc i % 100) && decide (pc i % 100 ≤ f)) m)).toInt64) ∧ ∃ ow1, FR8 ow ow1 (K, N, I, Q, J) S0 ∧ SY ow1 S0 x n c al sp tu pt m pc pa ps r d u g w) := by
  refine x_metW (lv := [_, _, _, _, _, _, _]) (by decide +kernel) (x_cc (by first | rfl | exact x_crf _) (x_cc (by first | rfl | exact x_crf _) (x_cc (by first | rfl | exact x_crf _) (x_cc (by first | rfl | exact x_crf _) (x_cc (by first | rfl | exact x_crf _) (x_cc (by first | rfl | exact x_crf _) x_cn)))))) (Nat.le_of_ble_eq_true rfl) rfl ?_
  intro pP eE sS mM aA bB hH cC Z C hX htb ret
  obtain ⟨ko, no⟩ := id hO
  have hx : K x = 8 := hS.choose_spec.choose_spec.choose_spec.choose_spec.1.1
  refine x_aload C D_L_countIn_0.1 rfl (by first | exact Or.inr ⟨_, rfl⟩ | exact va_rf_or _ | exact Or.inl rfl) ?_
  refine x_iconst C (v := nI 0) D_L_countIn_0.2.1 (by decide +kernel) ?_
  refine x_aload_n C D_L_countIn_0.2.2.1 rfl rfl (by first | exact Or.inr ⟨_, rfl⟩ | exact va_rf_or _ | exact Or.inl rfl) ?_
  refine x_iload_n C D_L_countIn_0.2.2.2.1 rfl rfl ?_
  refine x_iload_n C D_L_countIn_0.2.2.2.2.1 rfl rfl ?_
  refine x_iload_n C D_L_countIn_0.2.2.2.2.2.1 rfl rfl ?_
  refine x_iload C D_L_countIn_0.2.2.2.2.2.2.1 rfl ?_
  refine x_callTV C hX (y := yX8_countIn) (c_X8_countInY l G ow x n m c al sp tu pt pc ps pa r d u g w a b e f hlt hS hac hc9 hbd hd9) (ci := 7) hx (by decide) rfl rfl k_857 k_858 k_859 k_60 k_860 hd_X8_countIn ⟨(Nat.le_of_ble_eq_true rfl), (Nat.le_of_ble_eq_true rfl)⟩ rfl (by first | exact Nat.le_of_ble_eq_true rfl | simp [x_crf, Value.category]) rfl rfl D_L_countIn_0.2.2.2.2.2.2.2.1 ⟨(Nat.le_of_ble_eq_true rfl), (Nat.le_of_ble_eq_true rfl)⟩ (fun E_9 S_9 hx_9 => ?_) (fun r_9 S_9 h_9 => ?_)
  · skip
    exact hx_9.elim
  obtain ⟨rfl, ow1, hF1, hS1⟩ := h_9
  obtain ⟨K1, N1, I1, Q1, J1⟩ := S_9
  obtain ⟨ho1, ko1, no1, ho2⟩ := hF1 o (by show K o ≠ 0; omega)
  have ko1 : K1 o = 24 := ko1.trans ko
  have no1 : N1 o = 1 := no1.trans no
  refine x_i2l C D_L_countIn_0.2.2.2.2.2.2.2.2.1 ?_
  refine x_last C 0 ko1 rfl (by omega) (by omega) D_L_countIn_0.2.2.2.2.2.2.2.2.2.1 (fun J2 eJ2 => ?_)
  refine x_goto C 21 D_L_countIn_0.2.2.2.2.2.2.2.2.2.2.1 (by decide) ?_
  refine x_iconst C (v := nI 0) D_L_countIn_1.2.2.1 (by decide +kernel) ?_
  refine ret _ _ _ _ _ _ rfl D_L_countIn_1.2.2.2 (Nat.le_of_ble_eq_true rfl) (Nat.le_of_ble_eq_true rfl) ?_
  exact ⟨rfl, (K1, N1, I1, Q1, J1), J2, rfl, eJ2, ow1, hF1, hS1⟩
abbrev rm_L_nearestX : Room := { frames := 7, cells := 8, slots := 60, locals := 113 }
theorem hd_X8_nearest : yX8_nearest.cls ≠ "java/lang/invoke/MethodHandle" ∧ yX8_nearest.cls ≠ "java/lang/invoke/VarHandle" ∧ (parseMethodDescriptor yX8_nearest.desc).map (fun d => d.parameters.length) = some 2 := by decide +kernel
set_option maxHeartbeats 4000000 in
set_option maxRecDepth 100000 in
theorem c_L_nearestX (l : Launch) (G : xG) {K N : Nat → Nat} {I : Nat → Nat → Int32} {Q : Nat → Nat → Option Nat} {J : Nat → Nat → Int64} (ow : xO) (x o n m : Nat) (c : Nat → Nat) (al : Nat → Bool) (sp tu pt pc ps : Nat → Nat) (pa : Nat → Bool) (r d u g w : Int32) (y z : Int32) (hlt : l.stackTraces = false) (hS : SY ow (K, N, I, Q, J) x n c al sp tu pt m pc pa ps r d u g w) (hO : K o = 24 ∧ N o = 1) (hyz : y < 0 ∨ nI 99 < y ∨ z < 0 ∨ nI 99 < z)  : XMW l yL_nearest cL_nearest 5 (some .int) [(0, 10, 13, 13), (0, 10, 17, 26)] rm_L_nearestX G [.ref x, .int y, .int z, .ref o] (K, N, I, Q, J) (fun r_ S1 => r_ = nI 1 ∧ ∃ ow1, FR8 ow ow1 (K, N, I, Q, J) S1 ∧ SY ow1 S1 x n c al sp tu pt m pc pa ps r d u g w) := by
  refine x_metW (lv := [_, _, _, _, _]) (by decide +kernel) (x_cc (by first | rfl | exact x_crf _) (x_cc (by first | rfl | exact x_crf _) (x_cc (by first | rfl | exact x_crf _) (x_cc (by first | rfl | exact x_crf _) x_cn)))) (Nat.le_of_ble_eq_true rfl) rfl ?_
  intro pP eE sS mM aA bB hH cC Z C hX htb ret
  obtain ⟨ko, no⟩ := id hO
  have hx : K x = 8 := hS.choose_spec.choose_spec.choose_spec.choose_spec.1.1
  refine x_aload_n C D_L_nearest_0.1 rfl rfl (by first | exact Or.inr ⟨_, rfl⟩ | exact va_rf_or _ | exact Or.inl rfl) ?_
  refine x_iconst C (v := nI 0) D_L_nearest_0.2.1 (by decide +kernel) ?_
  refine x_aload_n C D_L_nearest_0.2.2.1 rfl rfl (by first | exact Or.inr ⟨_, rfl⟩ | exact va_rf_or _ | exact Or.inl rfl) ?_
  refine x_iload_n C D_L_nearest_0.2.2.2.1 rfl rfl ?_
  refine x_iload_n C D_L_nearest_0.2.2.2.2.1 rfl rfl ?_
  refine x_callTV C hX (y := yX8_nearest) (c_X8_nearestX l G ow x n m c al sp tu pt pc ps pa r d u g w y z hlt hS hyz) (ci := 7) hx (by decide) rfl rfl k_884 k_885 k_886 k_60 k_887 hd_X8_nearest ⟨(Nat.le_of_ble_eq_true rfl), (Nat.le_of_ble_eq_true rfl)⟩ rfl (by first | exact Nat.le_of_ble_eq_true rfl | simp [x_crf, Value.category]) rfl rfl D_L_nearest_0.2.2.2.2.2.1 ⟨(Nat.le_of_ble_eq_true rfl), (Nat.le_of_ble_eq_true rfl)⟩ (fun E_5 S_5 hx_5 => ?_) (fun r_5 S_5 h_5 => ?_)
  · skip
    obtain ⟨rfl, ow1, hF1, hS1⟩ := hx_5
    obtain ⟨K1, N1, I1, Q1, J1⟩ := S_5
    refine ⟨13, cat1 htb (by decide) (by decide) k_501 hX.ca.1, fun q9 => ?_⟩
    refine x_astore C (lv' := [_, _, _, _, _]) D_L_nearest_0.2.2.2.2.2.2.2.2.2.1 (Nat.le_of_ble_eq_true rfl) (by first | rfl | exact x_ok_q rfl) (by first | exact Or.inr ⟨_, rfl⟩ | exact va_rf_or _ | exact Or.inl rfl) rfl ?_
    refine x_iconst C (v := nI 1) D_L_nearest_0.2.2.2.2.2.2.2.2.2.2.1 (by decide +kernel) ?_
    refine ret _ _ _ _ _ _ rfl D_L_nearest_0.2.2.2.2.2.2.2.2.2.2.2 (Nat.le_of_ble_eq_true rfl) (Nat.le_of_ble_eq_true rfl) ?_
    exact ⟨rfl, ow1, hF1, hS1⟩
  exact h_5.elim
abbrev rm_L_nearestZ : Room := { frames := 47, cells := 8, slots := 60, locals := 1099 }
set_option maxHeartbeats 4000000 in
set_option maxRecDepth 100000 in
theorem c_L_nearestZ (l : Launch) (G : xG) {K N : Nat → Nat} {I : Nat → Nat → Int32} {Q : Nat → Nat → Option Nat} {J : Nat → Nat → Int64} (ow : xO) (x o n m : Nat) (c : Nat → Nat) (al : Nat → Bool) (sp tu pt pc ps : Nat → Nat) (pa : Nat → Bool) (r d u g w : Int32) (a b : Nat) (hlt : l.stackTraces = false) (hS : SY ow (K, N, I, Q, J) x n c al sp tu pt m pc pa ps r d u g w) (hO : K o = 24 ∧ N o = 1) (ha : a < 100) (hb9 : b < 100) (hlv : cn pa m = 0)  : XMW l yL_nearest cL_nearest 5 (some .int) [(0, 10, 13, 13), (0, 10, 17, 26)] rm_L_nearestZ G [.ref x, .int (nI a), .int (nI b), .ref o] (K, N, I, Q, J) (fun r_ S1 => r_ = nI 2 ∧ ∃ ow1, FR8 ow ow1 (K, N, I, Q, J) S1 ∧ SY ow1 S1 x n c al sp tu pt m pc pa ps r d u g w) := by
  refine x_metW (lv := [_, _, _, _, _]) (by decide +kernel) (x_cc (by first | rfl | exact x_crf _) (x_cc (by first | rfl | exact x_crf _) (x_cc (by first | rfl | exact x_crf _) (x_cc (by first | rfl | exact x_crf _) x_cn)))) (Nat.le_of_ble_eq_true rfl) rfl ?_
  intro pP eE sS mM aA bB hH cC Z C hX htb ret
  obtain ⟨ko, no⟩ := id hO
  have hx : K x = 8 := hS.choose_spec.choose_spec.choose_spec.choose_spec.1.1
  refine x_aload_n C D_L_nearest_0.1 rfl rfl (by first | exact Or.inr ⟨_, rfl⟩ | exact va_rf_or _ | exact Or.inl rfl) ?_
  refine x_iconst C (v := nI 0) D_L_nearest_0.2.1 (by decide +kernel) ?_
  refine x_aload_n C D_L_nearest_0.2.2.1 rfl rfl (by first | exact Or.inr ⟨_, rfl⟩ | exact va_rf_or _ | exact Or.inl rfl) ?_
  refine x_iload_n C D_L_nearest_0.2.2.2.1 rfl rfl ?_
  refine x_iload_n C D_L_nearest_0.2.2.2.2.1 rfl rfl ?_
  refine x_callTV C hX (y := yX8_nearest) (c_X8_nearestZ l G ow x n m c al sp tu pt pc ps pa r d u g w a b hlt hS ha hb9 hlv) (ci := 7) hx (by decide) rfl rfl k_884 k_885 k_886 k_60 k_887 hd_X8_nearest ⟨(Nat.le_of_ble_eq_true rfl), (Nat.le_of_ble_eq_true rfl)⟩ rfl (by first | exact Nat.le_of_ble_eq_true rfl | simp [x_crf, Value.category]) rfl rfl D_L_nearest_0.2.2.2.2.2.1 ⟨(Nat.le_of_ble_eq_true rfl), (Nat.le_of_ble_eq_true rfl)⟩ (fun E_5 S_5 hx_5 => ?_) (fun r_5 S_5 h_5 => ?_)
  · skip
    obtain ⟨rfl, ow1, hF1, hS1⟩ := hx_5
    obtain ⟨K1, N1, I1, Q1, J1⟩ := S_5
    refine ⟨17, cat2 htb (by decide) k_501 hX.2.2.2.2.2.2 (by decide) (by decide) k_743 hX.ca.2.2.2, fun q9 => ?_⟩
    refine x_astore C (lv' := [_, _, _, _, _]) D_L_nearest_1.1 (Nat.le_of_ble_eq_true rfl) (by first | rfl | exact x_ok_q rfl) (by first | exact Or.inr ⟨_, rfl⟩ | exact va_rf_or _ | exact Or.inl rfl) rfl ?_
    refine x_iconst C (v := nI 2) D_L_nearest_1.2.1 (by decide +kernel) ?_
    refine ret _ _ _ _ _ _ rfl D_L_nearest_1.2.2.1 (Nat.le_of_ble_eq_true rfl) (Nat.le_of_ble_eq_true rfl) ?_
    exact ⟨rfl, ow1, hF1, hS1⟩
  exact h_5.elim
abbrev rm_L_nearestY : Room := { frames := 47, cells := 8, slots := 60, locals := 1099 }
set_option maxHeartbeats 4000000 in
set_option maxRecDepth 100000 in
theorem c_L_nearestY (l : Launch) (G : xG) {K N : Nat → Nat} {I : Nat → Nat → Int32} {Q : Nat → Nat → Option Nat} {J : Nat → Nat → Int64} (ow : xO) (x o n m : Nat) (c : Nat → Nat) (al : Nat → Bool) (sp tu pt pc ps : Nat → Nat) (pa : Nat → Bool) (r d u g w : Int32) (a b : Nat) (hlt : l.stackTraces = false) (hS : SY ow (K, N, I, Q, J) x n c al sp tu pt m pc pa ps r d u g w) (hO : K o = 24 ∧ N o = 1) (ha : a < 100) (hb9 : b < 100) (hlv : 0 < cn pa m)  : XMW l yL_nearest cL_nearest 5 (some .int) [(0, 10, 13, 13), (0, 10, 17, 26)] rm_L_nearestY G [.ref x, .int (nI a), .int (nI b), .ref o] (K, N, I, Q, J) (fun r_ S1 => r_ = nI 0 ∧ ∃ S0 J2, S1 = (S0.1, S0.2.1, S0.2.2.1, S0.2.2.2.1, J2) ∧ J2 = x_u2 S0.2.2.2.2 o 0 ((nI (nrM pc pa a b m).1).toInt64) ∧ ∃ ow1, FR8 ow ow1 (K, N, I, Q, J) S0 ∧ SY ow1 S0 x n c al sp tu pt m pc pa ps r d u g w) := by
  refine x_metW (lv := [_, _, _, _, _]) (by decide +kernel) (x_cc (by first | rfl | exact x_crf _) (x_cc (by first | rfl | exact x_crf _) (x_cc (by first | rfl | exact x_crf _) (x_cc (by first | rfl | exact x_crf _) x_cn)))) (Nat.le_of_ble_eq_true rfl) rfl ?_
  intro pP eE sS mM aA bB hH cC Z C hX htb ret
  obtain ⟨ko, no⟩ := id hO
  have hx : K x = 8 := hS.choose_spec.choose_spec.choose_spec.choose_spec.1.1
  refine x_aload_n C D_L_nearest_0.1 rfl rfl (by first | exact Or.inr ⟨_, rfl⟩ | exact va_rf_or _ | exact Or.inl rfl) ?_
  refine x_iconst C (v := nI 0) D_L_nearest_0.2.1 (by decide +kernel) ?_
  refine x_aload_n C D_L_nearest_0.2.2.1 rfl rfl (by first | exact Or.inr ⟨_, rfl⟩ | exact va_rf_or _ | exact Or.inl rfl) ?_
  refine x_iload_n C D_L_nearest_0.2.2.2.1 rfl rfl ?_
  refine x_iload_n C D_L_nearest_0.2.2.2.2.1 rfl rfl ?_
  refine x_callTV C hX (y := yX8_nearest) (c_X8_nearestY l G ow x n m c al sp tu pt pc ps pa r d u g w a b hlt hS ha hb9 hlv) (ci := 7) hx (by decide) rfl rfl k_884 k_885 k_886 k_60 k_887 hd_X8_nearest ⟨(Nat.le_of_ble_eq_true rfl), (Nat.le_of_ble_eq_true rfl)⟩ rfl (by first | exact Nat.le_of_ble_eq_true rfl | simp [x_crf, Value.category]) rfl rfl D_L_nearest_0.2.2.2.2.2.1 ⟨(Nat.le_of_ble_eq_true rfl), (Nat.le_of_ble_eq_true rfl)⟩ (fun E_5 S_5 hx_5 => ?_) (fun r_5 S_5 h_5 => ?_)
  · skip
    exact hx_5.elim
  obtain ⟨rfl, ow1, hF1, hS1⟩ := h_5
  obtain ⟨K1, N1, I1, Q1, J1⟩ := S_5
  obtain ⟨ho1, ko1, no1, ho2⟩ := hF1 o (by show K o ≠ 0; omega)
  have ko1 : K1 o = 24 := ko1.trans ko
  have no1 : N1 o = 1 := no1.trans no
  refine x_i2l C D_L_nearest_0.2.2.2.2.2.2.1 ?_
  refine x_last C 0 ko1 rfl (by omega) (by omega) D_L_nearest_0.2.2.2.2.2.2.2.1 (fun J2 eJ2 => ?_)
  refine x_goto C 21 D_L_nearest_0.2.2.2.2.2.2.2.2.1 (by decide) ?_
  refine x_iconst C (v := nI 0) D_L_nearest_1.2.2.2.1 (by decide +kernel) ?_
  refine ret _ _ _ _ _ _ rfl D_L_nearest_1.2.2.2.2 (Nat.le_of_ble_eq_true rfl) (Nat.le_of_ble_eq_true rfl) ?_
  exact ⟨rfl, (K1, N1, I1, Q1, J1), J2, rfl, eJ2, ow1, hF1, hS1⟩
