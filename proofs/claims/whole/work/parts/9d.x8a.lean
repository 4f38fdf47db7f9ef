theorem tp_rt {K : Nat → Nat} {Q : Nat → Nat → Option Nat} {A : Tr} {o : Option Nat} (h : TP K Q A o) : ∀ q, o = some q → K q = 3 := fun q hq => by
  cases A with
  | leaf u => have h1 : o = none := h; rw [h1] at hq; cases hq
  | branch a b c => have h1 := h.1; rw [h1] at hq; cases hq; exact h.2.1
theorem k1_nodes (l : Launch) (G : xG) {K N : Nat → Nat} {I : Nat → Nat → Int32} {Q : Nat → Nat → Option Nat} {J : Nat → Nat → Int64} {t n : Nat} {c sp : Nat → Nat} {al : Nat → Bool} {ow : xO} (h : KK1 ow (K, N, I, Q, J) t n c al sp) (hn : n ≤ 200) : XM l yX2_nodeCount cX2_nodeCount 1 (some .int) rm_X2_nodeCount_1 G Ri [.ref t] (K, N, I, Q, J) (fun r S1 => r = nI n ∧ S1 = (K, N, I, Q, J)) := by
  obtain ⟨cd, A, pq, pn, rw_, rn, hC, hS, hA, h3⟩ := h
  have hsz := SI_sz hS
  have hcap : sz A ≤ 200 := hC.1.2.2.2.2.2.2.1
  have hht : ht A ≤ 14 := by have := SI_ht hS (by omega); omega
  have hK : K t = 2 := hC.1.1.1
  have hT : TP K Q A (Q t 2) := hC.1.2.1
  have hW : WT I A := hC.1.2.2.1
  exact XM.mono (c_X2_nodeCount_1 l G t hK (tp_rt hT)) (fun r S1 hp => ⟨hp.1.trans (by rw [wOf_TP hT hW, hsz]), hp.2⟩)
theorem k1_height (l : Launch) (G : xG) {K N : Nat → Nat} {I : Nat → Nat → Int32} {Q : Nat → Nat → Option Nat} {J : Nat → Nat → Int64} {t n : Nat} {c sp : Nat → Nat} {al : Nat → Bool} {ow : xO} (h : KK1 ow (K, N, I, Q, J) t n c al sp) (hn : n ≤ 200) : XM l yX2_greatestDepth cX2_greatestDepth 1 (some .int) rm_X2_greatestDepth_1 G Ri [.ref t] (K, N, I, Q, J) (fun r S1 => r = nI (hmx sp n) - nI 1 ∧ S1 = (K, N, I, Q, J)) := by
  obtain ⟨cd, A, pq, pn, rw_, rn, hC, hS, hA, h3⟩ := h
  have hsz := SI_sz hS
  have hcap : sz A ≤ 200 := hC.1.2.2.2.2.2.2.1
  have hht : ht A ≤ 14 := by have := SI_ht hS (by omega); omega
  have hK : K t = 2 := hC.1.1.1
  have hT : TP K Q A (Q t 2) := hC.1.2.1
  have hW : WT I A := hC.1.2.2.1
  exact XM.mono (c_X2_greatestDepth_1 l G t A hK hT (by omega)) (fun r S1 hp => ⟨hp.1.trans (by rw [RT_hmx hS.1 hS.2.2.2.2.1]), hp.2⟩)
theorem k1_sum (l : Launch) (G : xG) {K N : Nat → Nat} {I : Nat → Nat → Int32} {Q : Nat → Nat → Option Nat} {J : Nat → Nat → Int64} {t n : Nat} {c sp : Nat → Nat} {al : Nat → Bool} {ow : xO} (h : KK1 ow (K, N, I, Q, J) t n c al sp) (hn : n ≤ 200) : XM l yX2_sumOfDepths cX2_sumOfDepths 1 (some .int) rm_X2_sumOfDepths_1 G Ri [.ref t] (K, N, I, Q, J) (fun r S1 => r = nI (smd sp n) ∧ S1 = (K, N, I, Q, J)) := by
  obtain ⟨cd, A, pq, pn, rw_, rn, hC, hS, hA, h3⟩ := h
  have hsz := SI_sz hS
  have hcap : sz A ≤ 200 := hC.1.2.2.2.2.2.2.1
  have hht : ht A ≤ 14 := by have := SI_ht hS (by omega); omega
  have hK : K t = 2 := hC.1.1.1
  have hT : TP K Q A (Q t 2) := hC.1.2.1
  have hW : WT I A := hC.1.2.2.1
  exact XM.mono (c_X2_sumOfDepths_1 l G t A hK hT (by omega)) (fun r S1 hp => ⟨hp.1.trans (by rw [RT_smd hS.1 hS.2.2.2.2.1]), hp.2⟩)
theorem KK1.kc {ow : xO} {S : xS} {t n : Nat} {c sp : Nat → Nat} {al : Nat → Bool} (h : KK1 ow S t n c al sp) : S.1 t = 2 ∧ S.2.2.1 t 3 = nI (cn al n) := by
  obtain ⟨cd, A, pq, pn, rw_, rn, hC, hS, hA, h3⟩ := h
  exact ⟨hC.1.1.1, h3⟩
theorem k5_nodes (l : Launch) (G : xG) {K N : Nat → Nat} {I : Nat → Nat → Int32} {Q : Nat → Nat → Option Nat} {J : Nat → Nat → Int64} {t n : Nat} {pc ps : Nat → Nat} {pa : Nat → Bool} {ow : xO} (h : KK5 ow (K, N, I, Q, J) t n pc pa ps)  : XM l yX2_nodeCount cX2_nodeCount 1 (some .int) rm_X2_nodeCount_5 G Ri [.ref t] (K, N, I, Q, J) (fun r S1 => r = nI n ∧ S1 = (K, N, I, Q, J)) := by
  obtain ⟨cd, A, pq, pn, rw_, rn, hC, hS, hA, h3⟩ := h
  have hsz := PI_sz hS
  have hcap : sz A ≤ 120 := hC.1.2.2.2.2.2.2.1
  have hht : ht A ≤ 14 := by have := PI_ht hS (by omega); omega
  have hK : K t = 5 := hC.1.1.1
  have hT : TP K Q A (Q t 2) := hC.1.2.1
  have hW : WT I A := hC.1.2.2.1
  exact XM.mono (c_X2_nodeCount_5 l G t hK (tp_rt hT)) (fun r S1 hp => ⟨hp.1.trans (by rw [wOf_TP hT hW, hsz]), hp.2⟩)
theorem k5_height (l : Launch) (G : xG) {K N : Nat → Nat} {I : Nat → Nat → Int32} {Q : Nat → Nat → Option Nat} {J : Nat → Nat → Int64} {t n : Nat} {pc ps : Nat → Nat} {pa : Nat → Bool} {ow : xO} (h : KK5 ow (K, N, I, Q, J) t n pc pa ps)  : XM l yX2_greatestDepth cX2_greatestDepth 1 (some .int) rm_X2_greatestDepth_5 G Ri [.ref t] (K, N, I, Q, J) (fun r S1 => r = nI (hmx ps n) - nI 1 ∧ S1 = (K, N, I, Q, J)) := by
  obtain ⟨cd, A, pq, pn, rw_, rn, hC, hS, hA, h3⟩ := h
  have hsz := PI_sz hS
  have hcap : sz A ≤ 120 := hC.1.2.2.2.2.2.2.1
  have hht : ht A ≤ 14 := by have := PI_ht hS (by omega); omega
  have hK : K t = 5 := hC.1.1.1
  have hT : TP K Q A (Q t 2) := hC.1.2.1
  have hW : WT I A := hC.1.2.2.1
  exact XM.mono (c_X2_greatestDepth_5 l G t A hK hT (by omega)) (fun r S1 hp => ⟨hp.1.trans (by rw [RT_hmx hS.1 hS.2.2.2.2.1]), hp.2⟩)
theorem KK5.kc {ow : xO} {S : xS} {t n : Nat} {pc ps : Nat → Nat} {pa : Nat → Bool} (h : KK5 ow S t n pc pa ps) : S.1 t = 5 ∧ S.2.2.1 t 3 = nI (cn pa n) ∧ n ≤ 120 := by
  obtain ⟨cd, A, pq, pn, rw_, rn, hC, hS, hA, h3⟩ := h
  exact ⟨hC.1.1.1, h3, by rw [← PI_sz hS]; exact hC.1.2.2.2.2.2.2.1⟩
theorem KK6.cnt {ow : xO} {S : xS} {t n : Nat} {c pt : Nat → Nat} {al : Nat → Bool} (h : KK6 ow S t n c al pt) : S.2.2.1 t 1 = nI n ∧ S.2.2.1 t 2 = nI (cn al n) ∧ UP n c ∧ ∀ i, i < n → pt i < 10 := by
  obtain ⟨cd, lst, pr, h1, h2, h3, h4, h5, h6⟩ := h
  refine ⟨h4, h5, h6, fun i hi => ?_⟩
  obtain ⟨a, a1, a2, a3, a4, a5⟩ := EI_at h2 hi
  rw [← a5]; exact (h3 a a2).2
theorem D_X8_size_0 : decode cX8_size 0 = .ok (.aload_n 0, 1) ∧ decode cX8_size 1 = .ok (.getfield 26, 3) ∧ decode cX8_size 4 = .ok (.invokevirtual 48, 3) ∧ decode cX8_size 7 = .ok (.ireturn, 1) := by decide +kernel
theorem D_X8_nodes_0 : decode cX8_nodes 0 = .ok (.aload_n 0, 1) ∧ decode cX8_nodes 1 = .ok (.getfield 10, 3) ∧ decode cX8_nodes 4 = .ok (.invokevirtual 91, 3) ∧ decode cX8_nodes 7 = .ok (.ireturn, 1) := by decide +kernel
theorem D_X8_bound_0 : decode cX8_bound 0 = .ok (.aload_n 0, 1) ∧ decode cX8_bound 1 = .ok (.getfield 10, 3) ∧ decode cX8_bound 4 = .ok (.invokevirtual 91, 3) ∧ decode cX8_bound 7 = .ok (.invokestatic 94, 3) ∧ decode cX8_bound 10 = .ok (.ireturn, 1) := by decide +kernel
theorem D_X8_height_0 : decode cX8_height 0 = .ok (.aload_n 0, 1) ∧ decode cX8_height 1 = .ok (.getfield 10, 3) ∧ decode cX8_height 4 = .ok (.invokevirtual 97, 3) ∧ decode cX8_height 7 = .ok (.ireturn, 1) := by decide +kernel
theorem D_X8_rebuilt_0 : decode cX8_rebuilt 0 = .ok (.aload_n 0, 1) ∧ decode cX8_rebuilt 1 = .ok (.getfield 10, 3) ∧ decode cX8_rebuilt 4 = .ok (.invokevirtual 117, 3) ∧ decode cX8_rebuilt 7 = .ok (.ireturn, 1) := by decide +kernel
theorem D_X8_drops_0 : decode cX8_drops 0 = .ok (.aload_n 0, 1) ∧ decode cX8_drops 1 = .ok (.getfield 10, 3) ∧ decode cX8_drops 4 = .ok (.invokevirtual 120, 3) ∧ decode cX8_drops 7 = .ok (.ireturn, 1) := by decide +kernel
theorem D_X8_averageDepth_0 : decode cX8_averageDepth 0 = .ok (.aload_n 0, 1) ∧ decode cX8_averageDepth 1 = .ok (.getfield 10, 3) ∧ decode cX8_averageDepth 4 = .ok (.invokevirtual 91, 3) ∧ decode cX8_averageDepth 7 = .ok (.istore_n 1, 1) ∧ decode cX8_averageDepth 8 = .ok (.iload_n 1, 1) ∧ decode cX8_averageDepth 9 = .ok (.ifCond .gt 5, 3) ∧ decode cX8_averageDepth 12 = .ok (.fconst 0, 1) ∧ decode cX8_averageDepth 13 = .ok (.freturn, 1) ∧ decode cX8_averageDepth 14 = .ok (.aload_n 0, 1) ∧ decode cX8_averageDepth 15 = .ok (.getfield 10, 3) ∧ decode cX8_averageDepth 18 = .ok (.invokevirtual 123, 3) ∧ decode cX8_averageDepth 21 = .ok (.i2f, 1) := by decide +kernel
theorem D_X8_averageDepth_1 : decode cX8_averageDepth 22 = .ok (.iload_n 1, 1) ∧ decode cX8_averageDepth 23 = .ok (.i2f, 1) ∧ decode cX8_averageDepth 24 = .ok (.fdiv, 1) ∧ decode cX8_averageDepth 25 = .ok (.freturn, 1) := by decide +kernel
theorem D_X8_turns_0 : decode cX8_turns 0 = .ok (.aload_n 0, 1) ∧ decode cX8_turns 1 = .ok (.getfield 19, 3) ∧ decode cX8_turns 4 = .ok (.invokevirtual 136, 3) ∧ decode cX8_turns 7 = .ok (.ireturn, 1) := by decide +kernel
theorem D_X8_entries_0 : decode cX8_entries 0 = .ok (.aload_n 0, 1) ∧ decode cX8_entries 1 = .ok (.getfield 26, 3) ∧ decode cX8_entries 4 = .ok (.invokevirtual 139, 3) ∧ decode cX8_entries 7 = .ok (.ireturn, 1) := by decide +kernel
theorem D_X8_merges_0 : decode cX8_merges 0 = .ok (.aload_n 0, 1) ∧ decode cX8_merges 1 = .ok (.getfield 26, 3) ∧ decode cX8_merges 4 = .ok (.invokevirtual 160, 3) ∧ decode cX8_merges 7 = .ok (.ireturn, 1) := by decide +kernel
theorem D_X8_points_0 : decode cX8_points 0 = .ok (.aload_n 0, 1) ∧ decode cX8_points 1 = .ok (.getfield 33, 3) ∧ decode cX8_points 4 = .ok (.invokevirtual 174, 3) ∧ decode cX8_points 7 = .ok (.ireturn, 1) := by decide +kernel
theorem D_X8_pointNodes_0 : decode cX8_pointNodes 0 = .ok (.aload_n 0, 1) ∧ decode cX8_pointNodes 1 = .ok (.getfield 33, 3) ∧ decode cX8_pointNodes 4 = .ok (.invokevirtual 179, 3) ∧ decode cX8_pointNodes 7 = .ok (.ireturn, 1) := by decide +kernel
theorem D_X8_pointHeight_0 : decode cX8_pointHeight 0 = .ok (.aload_n 0, 1) ∧ decode cX8_pointHeight 1 = .ok (.getfield 33, 3) ∧ decode cX8_pointHeight 4 = .ok (.invokevirtual 183, 3) ∧ decode cX8_pointHeight 7 = .ok (.ireturn, 1) := by decide +kernel
theorem D_X8_pointsRebuilt_0 : decode cX8_pointsRebuilt 0 = .ok (.aload_n 0, 1) ∧ decode cX8_pointsRebuilt 1 = .ok (.getfield 33, 3) ∧ decode cX8_pointsRebuilt 4 = .ok (.invokevirtual 195, 3) ∧ decode cX8_pointsRebuilt 7 = .ok (.ireturn, 1) := by decide +kernel
theorem D_X8_contains_0 : decode cX8_contains 0 = .ok (.aload_n 0, 1) ∧ decode cX8_contains 1 = .ok (.getfield 26, 3) ∧ decode cX8_contains 4 = .ok (.iload_n 1, 1) ∧ decode cX8_contains 5 = .ok (.invokevirtual 44, 3) ∧ decode cX8_contains 8 = .ok (.ireturn, 1) := by decide +kernel
theorem D_X8_rank_0 : decode cX8_rank 0 = .ok (.aload_n 0, 1) ∧ decode cX8_rank 1 = .ok (.getfield 26, 3) ∧ decode cX8_rank 4 = .ok (.iload_n 1, 1) ∧ decode cX8_rank 5 = .ok (.invokevirtual 72, 3) ∧ decode cX8_rank 8 = .ok (.ireturn, 1) := by decide +kernel
theorem D_X8_keyAt_0 : decode cX8_keyAt 0 = .ok (.aload_n 0, 1) ∧ decode cX8_keyAt 1 = .ok (.getfield 26, 3) ∧ decode cX8_keyAt 4 = .ok (.iload_n 1, 1) ∧ decode cX8_keyAt 5 = .ok (.invokevirtual 76, 3) ∧ decode cX8_keyAt 8 = .ok (.astore_n 2, 1) ∧ decode cX8_keyAt 9 = .ok (.aload_n 2, 1) ∧ decode cX8_keyAt 10 = .ok (.ifnonnull 13, 3) ∧ decode cX8_keyAt 13 = .ok (.new 80, 3) ∧ decode cX8_keyAt 16 = .ok (.dup, 1) ∧ decode cX8_keyAt 17 = .ok (.ldc 82, 2) ∧ decode cX8_keyAt 19 = .ok (.invokespecial 84, 3) ∧ decode cX8_keyAt 22 = .ok (.athrow, 1) := by decide +kernel
theorem D_X8_keyAt_1 : decode cX8_keyAt 23 = .ok (.aload_n 2, 1) ∧ decode cX8_keyAt 24 = .ok (.getfield 85, 3) ∧ decode cX8_keyAt 27 = .ok (.ireturn, 1) := by decide +kernel
theorem D_X8_weight_0 : decode cX8_weight 0 = .ok (.aload_n 0, 1) ∧ decode cX8_weight 1 = .ok (.getfield 10, 3) ∧ decode cX8_weight 4 = .ok (.iload_n 1, 1) ∧ decode cX8_weight 5 = .ok (.invokevirtual 108, 3) ∧ decode cX8_weight 8 = .ok (.astore_n 2, 1) ∧ decode cX8_weight 9 = .ok (.aload_n 2, 1) ∧ decode cX8_weight 10 = .ok (.ifnonnull 13, 3) ∧ decode cX8_weight 13 = .ok (.new 103, 3) ∧ decode cX8_weight 16 = .ok (.dup, 1) ∧ decode cX8_weight 17 = .ok (.ldc 105, 2) ∧ decode cX8_weight 19 = .ok (.invokespecial 107, 3) ∧ decode cX8_weight 22 = .ok (.athrow, 1) := by decide +kernel
theorem D_X8_weight_1 : decode cX8_weight 23 = .ok (.aload_n 2, 1) ∧ decode cX8_weight 24 = .ok (.getfield 112, 3) ∧ decode cX8_weight 27 = .ok (.ireturn, 1) := by decide +kernel
theorem D_X8_depth_0 : decode cX8_depth 0 = .ok (.aload_n 0, 1) ∧ decode cX8_depth 1 = .ok (.getfield 10, 3) ∧ decode cX8_depth 4 = .ok (.iload_n 1, 1) ∧ decode cX8_depth 5 = .ok (.invokevirtual 100, 3) ∧ decode cX8_depth 8 = .ok (.istore_n 2, 1) ∧ decode cX8_depth 9 = .ok (.iload_n 2, 1) ∧ decode cX8_depth 10 = .ok (.iconst (-1), 1) ∧ decode cX8_depth 11 = .ok (.if_icmp .ne 13, 3) ∧ decode cX8_depth 14 = .ok (.new 103, 3) ∧ decode cX8_depth 17 = .ok (.dup, 1) ∧ decode cX8_depth 18 = .ok (.ldc 105, 2) ∧ decode cX8_depth 20 = .ok (.invokespecial 107, 3) := by decide +kernel
theorem D_X8_depth_1 : decode cX8_depth 23 = .ok (.athrow, 1) ∧ decode cX8_depth 24 = .ok (.iload_n 2, 1) ∧ decode cX8_depth 25 = .ok (.ireturn, 1) := by decide +kernel
theorem D_X8_depthInTurning_0 : decode cX8_depthInTurning 0 = .ok (.aload_n 0, 1) ∧ decode cX8_depthInTurning 1 = .ok (.getfield 19, 3) ∧ decode cX8_depthInTurning 4 = .ok (.iload_n 1, 1) ∧ decode cX8_depthInTurning 5 = .ok (.invokevirtual 126, 3) ∧ decode cX8_depthInTurning 8 = .ok (.istore_n 2, 1) ∧ decode cX8_depthInTurning 9 = .ok (.iload_n 2, 1) ∧ decode cX8_depthInTurning 10 = .ok (.iconst (-1), 1) ∧ decode cX8_depthInTurning 11 = .ok (.if_icmp .ne 13, 3) ∧ decode cX8_depthInTurning 14 = .ok (.new 103, 3) ∧ decode cX8_depthInTurning 17 = .ok (.dup, 1) ∧ decode cX8_depthInTurning 18 = .ok (.ldc 127, 2) ∧ decode cX8_depthInTurning 20 = .ok (.invokespecial 107, 3) := by decide +kernel
theorem D_X8_depthInTurning_1 : decode cX8_depthInTurning 23 = .ok (.athrow, 1) ∧ decode cX8_depthInTurning 24 = .ok (.iload_n 2, 1) ∧ decode cX8_depthInTurning 25 = .ok (.ireturn, 1) := by decide +kernel
theorem D_X8_turningRoot_0 : decode cX8_turningRoot 0 = .ok (.aload_n 0, 1) ∧ decode cX8_turningRoot 1 = .ok (.getfield 19, 3) ∧ decode cX8_turningRoot 4 = .ok (.invokevirtual 129, 3) ∧ decode cX8_turningRoot 7 = .ok (.astore_n 1, 1) ∧ decode cX8_turningRoot 8 = .ok (.aload_n 1, 1) ∧ decode cX8_turningRoot 9 = .ok (.ifnonnull 13, 3) ∧ decode cX8_turningRoot 12 = .ok (.new 103, 3) ∧ decode cX8_turningRoot 15 = .ok (.dup, 1) ∧ decode cX8_turningRoot 16 = .ok (.ldc 133, 2) ∧ decode cX8_turningRoot 18 = .ok (.invokespecial 107, 3) ∧ decode cX8_turningRoot 21 = .ok (.athrow, 1) ∧ decode cX8_turningRoot 22 = .ok (.aload_n 1, 1) := by decide +kernel
theorem D_X8_turningRoot_1 : decode cX8_turningRoot 23 = .ok (.getfield 135, 3) ∧ decode cX8_turningRoot 26 = .ok (.ireturn, 1) := by decide +kernel
theorem D_X8_partOf_0 : decode cX8_partOf 0 = .ok (.aload_n 0, 1) ∧ decode cX8_partOf 1 = .ok (.getfield 26, 3) ∧ decode cX8_partOf 4 = .ok (.iload_n 1, 1) ∧ decode cX8_partOf 5 = .ok (.invokevirtual 142, 3) ∧ decode cX8_partOf 8 = .ok (.astore_n 2, 1) ∧ decode cX8_partOf 9 = .ok (.aload_n 2, 1) ∧ decode cX8_partOf 10 = .ok (.ifnonnull 13, 3) ∧ decode cX8_partOf 13 = .ok (.new 103, 3) ∧ decode cX8_partOf 16 = .ok (.dup, 1) ∧ decode cX8_partOf 17 = .ok (.ldc 144, 2) ∧ decode cX8_partOf 19 = .ok (.invokespecial 107, 3) ∧ decode cX8_partOf 22 = .ok (.athrow, 1) := by decide +kernel
theorem D_X8_partOf_1 : decode cX8_partOf 23 = .ok (.aload_n 2, 1) ∧ decode cX8_partOf 24 = .ok (.getfield 146, 3) ∧ decode cX8_partOf 27 = .ok (.ireturn, 1) := by decide +kernel
theorem D_X8_entry_0 : decode cX8_entry 0 = .ok (.aload_n 0, 1) ∧ decode cX8_entry 1 = .ok (.getfield 26, 3) ∧ decode cX8_entry 4 = .ok (.iload_n 1, 1) ∧ decode cX8_entry 5 = .ok (.invokevirtual 149, 3) ∧ decode cX8_entry 8 = .ok (.ifCond .ne 13, 3) ∧ decode cX8_entry 11 = .ok (.new 103, 3) ∧ decode cX8_entry 14 = .ok (.dup, 1) ∧ decode cX8_entry 15 = .ok (.ldc 152, 2) ∧ decode cX8_entry 17 = .ok (.invokespecial 107, 3) ∧ decode cX8_entry 20 = .ok (.athrow, 1) ∧ decode cX8_entry 21 = .ok (.aload_n 0, 1) ∧ decode cX8_entry 22 = .ok (.getfield 26, 3) := by decide +kernel
theorem D_X8_entry_1 : decode cX8_entry 25 = .ok (.iload_n 1, 1) ∧ decode cX8_entry 26 = .ok (.iload_n 2, 1) ∧ decode cX8_entry 27 = .ok (.invokevirtual 154, 3) ∧ decode cX8_entry 30 = .ok (.astore_n 3, 1) ∧ decode cX8_entry 31 = .ok (.aload_n 3, 1) ∧ decode cX8_entry 32 = .ok (.ifnonnull 13, 3) ∧ decode cX8_entry 35 = .ok (.new 80, 3) ∧ decode cX8_entry 38 = .ok (.dup, 1) ∧ decode cX8_entry 39 = .ok (.ldc 158, 2) ∧ decode cX8_entry 41 = .ok (.invokespecial 84, 3) ∧ decode cX8_entry 44 = .ok (.athrow, 1) ∧ decode cX8_entry 45 = .ok (.aload_n 3, 1) := by decide +kernel
theorem D_X8_entry_2 : decode cX8_entry 46 = .ok (.getfield 85, 3) ∧ decode cX8_entry 49 = .ok (.ireturn, 1) := by decide +kernel
theorem D_X8_add_0 : decode cX8_add 0 = .ok (.iload_n 1, 1) ∧ decode cX8_add 1 = .ok (.sipush (-999), 3) ∧ decode cX8_add 4 = .ok (.if_icmp .lt 10, 3) ∧ decode cX8_add 7 = .ok (.iload_n 1, 1) ∧ decode cX8_add 8 = .ok (.sipush 999, 3) ∧ decode cX8_add 11 = .ok (.if_icmp .le 13, 3) ∧ decode cX8_add 14 = .ok (.new 37, 3) ∧ decode cX8_add 17 = .ok (.dup, 1) ∧ decode cX8_add 18 = .ok (.ldc 39, 2) ∧ decode cX8_add 20 = .ok (.invokespecial 41, 3) ∧ decode cX8_add 23 = .ok (.athrow, 1) ∧ decode cX8_add 24 = .ok (.aload_n 0, 1) := by decide +kernel
theorem D_X8_add_1 : decode cX8_add 25 = .ok (.getfield 26, 3) ∧ decode cX8_add 28 = .ok (.iload_n 1, 1) ∧ decode cX8_add 29 = .ok (.invokevirtual 44, 3) ∧ decode cX8_add 32 = .ok (.ifCond .eq 5, 3) ∧ decode cX8_add 35 = .ok (.iconst 0, 1) ∧ decode cX8_add 36 = .ok (.ireturn, 1) ∧ decode cX8_add 37 = .ok (.aload_n 0, 1) ∧ decode cX8_add 38 = .ok (.getfield 26, 3) ∧ decode cX8_add 41 = .ok (.invokevirtual 48, 3) ∧ decode cX8_add 44 = .ok (.bipush 100, 2) ∧ decode cX8_add 46 = .ok (.if_icmp .lt 13, 3) ∧ decode cX8_add 49 = .ok (.new 52, 3) := by decide +kernel
theorem D_X8_add_2 : decode cX8_add 52 = .ok (.dup, 1) ∧ decode cX8_add 53 = .ok (.ldc 54, 2) ∧ decode cX8_add 55 = .ok (.invokespecial 56, 3) ∧ decode cX8_add 58 = .ok (.athrow, 1) ∧ decode cX8_add 59 = .ok (.aload_n 0, 1) ∧ decode cX8_add 60 = .ok (.getfield 10, 3) ∧ decode cX8_add 63 = .ok (.iload_n 1, 1) ∧ decode cX8_add 64 = .ok (.invokevirtual 57, 3) ∧ decode cX8_add 67 = .ok (.aload_n 0, 1) ∧ decode cX8_add 68 = .ok (.getfield 19, 3) ∧ decode cX8_add 71 = .ok (.iload_n 1, 1) ∧ decode cX8_add 72 = .ok (.invokevirtual 61, 3) := by decide +kernel
theorem D_X8_add_3 : decode cX8_add 75 = .ok (.aload_n 0, 1) ∧ decode cX8_add 76 = .ok (.getfield 26, 3) ∧ decode cX8_add 79 = .ok (.iload_n 1, 1) ∧ decode cX8_add 80 = .ok (.invokevirtual 64, 3) ∧ decode cX8_add 83 = .ok (.iconst 1, 1) ∧ decode cX8_add 84 = .ok (.ireturn, 1) := by decide +kernel
theorem D_X8_remove_0 : decode cX8_remove 0 = .ok (.aload_n 0, 1) ∧ decode cX8_remove 1 = .ok (.getfield 26, 3) ∧ decode cX8_remove 4 = .ok (.iload_n 1, 1) ∧ decode cX8_remove 5 = .ok (.invokevirtual 44, 3) ∧ decode cX8_remove 8 = .ok (.ifCond .ne 5, 3) ∧ decode cX8_remove 11 = .ok (.iconst 0, 1) ∧ decode cX8_remove 12 = .ok (.ireturn, 1) ∧ decode cX8_remove 13 = .ok (.aload_n 0, 1) ∧ decode cX8_remove 14 = .ok (.getfield 10, 3) ∧ decode cX8_remove 17 = .ok (.iload_n 1, 1) ∧ decode cX8_remove 18 = .ok (.invokevirtual 65, 3) ∧ decode cX8_remove 21 = .ok (.aload_n 0, 1) := by decide +kernel
theorem D_X8_remove_1 : decode cX8_remove 22 = .ok (.getfield 19, 3) ∧ decode cX8_remove 25 = .ok (.iload_n 1, 1) ∧ decode cX8_remove 26 = .ok (.invokevirtual 68, 3) ∧ decode cX8_remove 29 = .ok (.aload_n 0, 1) ∧ decode cX8_remove 30 = .ok (.getfield 26, 3) ∧ decode cX8_remove 33 = .ok (.iload_n 1, 1) ∧ decode cX8_remove 34 = .ok (.invokevirtual 71, 3) ∧ decode cX8_remove 37 = .ok (.iconst 1, 1) ∧ decode cX8_remove 38 = .ok (.ireturn, 1) := by decide +kernel
theorem D_X8_addPoint_0 : decode cX8_addPoint 0 = .ok (.iload_n 1, 1) ∧ decode cX8_addPoint 1 = .ok (.iload_n 2, 1) ∧ decode cX8_addPoint 2 = .ok (.invokestatic 163, 3) ∧ decode cX8_addPoint 5 = .ok (.ifCond .ne 13, 3) ∧ decode cX8_addPoint 8 = .ok (.new 37, 3) ∧ decode cX8_addPoint 11 = .ok (.dup, 1) ∧ decode cX8_addPoint 12 = .ok (.ldc 167, 2) ∧ decode cX8_addPoint 14 = .ok (.invokespecial 41, 3) ∧ decode cX8_addPoint 17 = .ok (.athrow, 1) ∧ decode cX8_addPoint 18 = .ok (.iload_n 1, 1) ∧ decode cX8_addPoint 19 = .ok (.iload_n 2, 1) ∧ decode cX8_addPoint 20 = .ok (.invokestatic 169, 3) := by decide +kernel
theorem D_X8_addPoint_1 : decode cX8_addPoint 23 = .ok (.istore_n 3, 1) ∧ decode cX8_addPoint 24 = .ok (.aload_n 0, 1) ∧ decode cX8_addPoint 25 = .ok (.getfield 33, 3) ∧ decode cX8_addPoint 28 = .ok (.iload_n 3, 1) ∧ decode cX8_addPoint 29 = .ok (.invokevirtual 173, 3) ∧ decode cX8_addPoint 32 = .ok (.ifCond .eq 5, 3) ∧ decode cX8_addPoint 35 = .ok (.iconst 0, 1) ∧ decode cX8_addPoint 36 = .ok (.ireturn, 1) ∧ decode cX8_addPoint 37 = .ok (.aload_n 0, 1) ∧ decode cX8_addPoint 38 = .ok (.getfield 33, 3) ∧ decode cX8_addPoint 41 = .ok (.invokevirtual 174, 3) ∧ decode cX8_addPoint 44 = .ok (.bipush 60, 2) := by decide +kernel
theorem D_X8_addPoint_2 : decode cX8_addPoint 46 = .ok (.if_icmp .lt 13, 3) ∧ decode cX8_addPoint 49 = .ok (.new 52, 3) ∧ decode cX8_addPoint 52 = .ok (.dup, 1) ∧ decode cX8_addPoint 53 = .ok (.ldc 175, 2) ∧ decode cX8_addPoint 55 = .ok (.invokespecial 56, 3) ∧ decode cX8_addPoint 58 = .ok (.athrow, 1) ∧ decode cX8_addPoint 59 = .ok (.aload_n 0, 1) ∧ decode cX8_addPoint 60 = .ok (.getfield 33, 3) ∧ decode cX8_addPoint 63 = .ok (.iload_n 3, 1) ∧ decode cX8_addPoint 64 = .ok (.invokevirtual 177, 3) ∧ decode cX8_addPoint 67 = .ok (.iconst 1, 1) ∧ decode cX8_addPoint 68 = .ok (.ireturn, 1) := by decide +kernel
theorem D_X8_removePoint_0 : decode cX8_removePoint 0 = .ok (.iload_n 1, 1) ∧ decode cX8_removePoint 1 = .ok (.iload_n 2, 1) ∧ decode cX8_removePoint 2 = .ok (.invokestatic 163, 3) ∧ decode cX8_removePoint 5 = .ok (.ifCond .ne 5, 3) ∧ decode cX8_removePoint 8 = .ok (.iconst 0, 1) ∧ decode cX8_removePoint 9 = .ok (.ireturn, 1) ∧ decode cX8_removePoint 10 = .ok (.iload_n 1, 1) ∧ decode cX8_removePoint 11 = .ok (.iload_n 2, 1) ∧ decode cX8_removePoint 12 = .ok (.invokestatic 169, 3) ∧ decode cX8_removePoint 15 = .ok (.istore_n 3, 1) ∧ decode cX8_removePoint 16 = .ok (.aload_n 0, 1) ∧ decode cX8_removePoint 17 = .ok (.getfield 33, 3) := by decide +kernel
theorem D_X8_removePoint_1 : decode cX8_removePoint 20 = .ok (.iload_n 3, 1) ∧ decode cX8_removePoint 21 = .ok (.invokevirtual 173, 3) ∧ decode cX8_removePoint 24 = .ok (.ifCond .ne 5, 3) ∧ decode cX8_removePoint 27 = .ok (.iconst 0, 1) ∧ decode cX8_removePoint 28 = .ok (.ireturn, 1) ∧ decode cX8_removePoint 29 = .ok (.aload_n 0, 1) ∧ decode cX8_removePoint 30 = .ok (.getfield 33, 3) ∧ decode cX8_removePoint 33 = .ok (.iload_n 3, 1) ∧ decode cX8_removePoint 34 = .ok (.invokevirtual 178, 3) ∧ decode cX8_removePoint 37 = .ok (.iconst 1, 1) ∧ decode cX8_removePoint 38 = .ok (.ireturn, 1) := by decide +kernel
theorem D_X8_pointDepth_0 : decode cX8_pointDepth 0 = .ok (.iload_n 1, 1) ∧ decode cX8_pointDepth 1 = .ok (.iload_n 2, 1) ∧ decode cX8_pointDepth 2 = .ok (.invokestatic 163, 3) ∧ decode cX8_pointDepth 5 = .ok (.ifCond .eq 18, 3) ∧ decode cX8_pointDepth 8 = .ok (.aload_n 0, 1) ∧ decode cX8_pointDepth 9 = .ok (.getfield 33, 3) ∧ decode cX8_pointDepth 12 = .ok (.iload_n 1, 1) ∧ decode cX8_pointDepth 13 = .ok (.iload_n 2, 1) ∧ decode cX8_pointDepth 14 = .ok (.invokestatic 169, 3) ∧ decode cX8_pointDepth 17 = .ok (.invokevirtual 180, 3) ∧ decode cX8_pointDepth 20 = .ok (.goto 4, 3) ∧ decode cX8_pointDepth 23 = .ok (.iconst (-1), 1) := by decide +kernel
theorem D_X8_pointDepth_1 : decode cX8_pointDepth 24 = .ok (.istore_n 3, 1) ∧ decode cX8_pointDepth 25 = .ok (.iload_n 3, 1) ∧ decode cX8_pointDepth 26 = .ok (.iconst (-1), 1) ∧ decode cX8_pointDepth 27 = .ok (.if_icmp .ne 13, 3) ∧ decode cX8_pointDepth 30 = .ok (.new 103, 3) ∧ decode cX8_pointDepth 33 = .ok (.dup, 1) ∧ decode cX8_pointDepth 34 = .ok (.ldc 181, 2) ∧ decode cX8_pointDepth 36 = .ok (.invokespecial 107, 3) ∧ decode cX8_pointDepth 39 = .ok (.athrow, 1) ∧ decode cX8_pointDepth 40 = .ok (.iload_n 3, 1) ∧ decode cX8_pointDepth 41 = .ok (.ireturn, 1) := by decide +kernel
theorem D_X8_countIn_0 : decode cX8_countIn 0 = .ok (.iload_n 1, 1) ∧ decode cX8_countIn 1 = .ok (.iload_n 2, 1) ∧ decode cX8_countIn 2 = .ok (.invokestatic 163, 3) ∧ decode cX8_countIn 5 = .ok (.ifCond .eq 23, 3) ∧ decode cX8_countIn 8 = .ok (.iload_n 3, 1) ∧ decode cX8_countIn 9 = .ok (.iload 4, 2) ∧ decode cX8_countIn 11 = .ok (.invokestatic 163, 3) ∧ decode cX8_countIn 14 = .ok (.ifCond .eq 14, 3) ∧ decode cX8_countIn 17 = .ok (.iload_n 3, 1) ∧ decode cX8_countIn 18 = .ok (.iload_n 1, 1) ∧ decode cX8_countIn 19 = .ok (.if_icmp .lt 9, 3) ∧ decode cX8_countIn 22 = .ok (.iload 4, 2) := by decide +kernel
theorem D_X8_countIn_1 : decode cX8_countIn 24 = .ok (.iload_n 2, 1) ∧ decode cX8_countIn 25 = .ok (.if_icmp .ge 13, 3) ∧ decode cX8_countIn 28 = .ok (.new 37, 3) ∧ decode cX8_countIn 31 = .ok (.dup, 1) ∧ decode cX8_countIn 32 = .ok (.ldc 184, 2) ∧ decode cX8_countIn 34 = .ok (.invokespecial 41, 3) ∧ decode cX8_countIn 37 = .ok (.athrow, 1) ∧ decode cX8_countIn 38 = .ok (.aload_n 0, 1) ∧ decode cX8_countIn 39 = .ok (.getfield 33, 3) ∧ decode cX8_countIn 42 = .ok (.iload_n 1, 1) ∧ decode cX8_countIn 43 = .ok (.iload_n 2, 1) ∧ decode cX8_countIn 44 = .ok (.iload_n 3, 1) := by decide +kernel
theorem D_X8_countIn_2 : decode cX8_countIn 45 = .ok (.iload 4, 2) ∧ decode cX8_countIn 47 = .ok (.invokevirtual 186, 3) ∧ decode cX8_countIn 50 = .ok (.ireturn, 1) := by decide +kernel
theorem D_X8_nearest_0 : decode cX8_nearest 0 = .ok (.iload_n 1, 1) ∧ decode cX8_nearest 1 = .ok (.iload_n 2, 1) ∧ decode cX8_nearest 2 = .ok (.invokestatic 163, 3) ∧ decode cX8_nearest 5 = .ok (.ifCond .ne 13, 3) ∧ decode cX8_nearest 8 = .ok (.new 37, 3) ∧ decode cX8_nearest 11 = .ok (.dup, 1) ∧ decode cX8_nearest 12 = .ok (.ldc 167, 2) ∧ decode cX8_nearest 14 = .ok (.invokespecial 41, 3) ∧ decode cX8_nearest 17 = .ok (.athrow, 1) ∧ decode cX8_nearest 18 = .ok (.aload_n 0, 1) ∧ decode cX8_nearest 19 = .ok (.getfield 33, 3) ∧ decode cX8_nearest 22 = .ok (.iload_n 1, 1) := by decide +kernel
theorem D_X8_nearest_1 : decode cX8_nearest 23 = .ok (.iload_n 2, 1) ∧ decode cX8_nearest 24 = .ok (.invokevirtual 190, 3) ∧ decode cX8_nearest 27 = .ok (.istore_n 3, 1) ∧ decode cX8_nearest 28 = .ok (.iload_n 3, 1) ∧ decode cX8_nearest 29 = .ok (.iconst (-1), 1) ∧ decode cX8_nearest 30 = .ok (.if_icmp .ne 13, 3) ∧ decode cX8_nearest 33 = .ok (.new 103, 3) ∧ decode cX8_nearest 36 = .ok (.dup, 1) ∧ decode cX8_nearest 37 = .ok (.ldc 193, 2) ∧ decode cX8_nearest 39 = .ok (.invokespecial 107, 3) ∧ decode cX8_nearest 42 = .ok (.athrow, 1) ∧ decode cX8_nearest 43 = .ok (.iload_n 3, 1) := by decide +kernel
theorem D_X8_nearest_2 : decode cX8_nearest 44 = .ok (.ireturn, 1) := by decide +kernel
abbrev rm_X8_size : Room := { frames := 1, cells := 0, slots := 0, locals := 20 }
theorem hd_X6_living : yX6_living.cls ≠ "java/lang/invoke/MethodHandle" ∧ yX6_living.cls ≠ "java/lang/invoke/VarHandle" ∧ (parseMethodDescriptor yX6_living.desc).map (fun d => d.parameters.length) = some 0 := by decide +kernel
set_option maxHeartbeats 4000000 in
set_option maxRecDepth 100000 in
theorem c_X8_size (l : Launch) (G : xG) {K N : Nat → Nat} {I : Nat → Nat → Int32} {Q : Nat → Nat → Option Nat} {J : Nat → Nat → Int64} (ow : xO) (x n m : Nat) (c : Nat → Nat) (al : Nat → Bool) (sp tu pt pc ps : Nat → Nat) (pa : Nat → Bool) (r d u g w : Int32) (hS : SY ow (K, N, I, Q, J) x n c al sp tu pt m pc pa ps r d u g w)  : XM l yX8_size cX8_size 1 (some .int) rm_X8_size G Ri [.ref x] (K, N, I, Q, J) (fun r_ S1 => r_ = nI (cn al n) ∧ S1 = (K, N, I, Q, J)) := by
  refine x_meti (lv := [_]) (by decide +kernel) (x_cc (by first | rfl | exact x_crf _) x_cn) (Nat.le_of_ble_eq_true rfl) rfl ?_
  intro pP eE sS mM aA bB hH cC Z C hini ret
  obtain ⟨t1, t7, t6, t5, hX0, H1, H7, H6, H5, hE0, hn, hb⟩ := id hS
  obtain ⟨hx, hox, hq1, hq7, hq6, hq5⟩ := id hX0
  obtain ⟨e1, e2, e3, e4, e5⟩ := id hE0
  have hx : K x = 8 := hx
  have hq1 : Q x 0 = some t1 := hq1
  have hq7 : Q x 1 = some t7 := hq7
  have hq6 : Q x 2 = some t6 := hq6
  have hq5 : Q x 3 = some t5 := hq5
  have kt1 : K t1 = 2 := H1.kc.1
  have kt7 : K t7 = 7 := H7.kc
  have kt6 : K t6 = 6 := H6.kc
  have kt5 : K t5 = 5 := H5.kc.1
  have l1 : I t1 3 = nI (cn al n) := H1.kc.2
  have l5 : I t5 3 = nI (cn pa m) := H5.kc.2.1
  have hm120 := H5.kc.2.2
  have l6 : I t6 1 = nI n := H6.cnt.1
  have l62 : I t6 2 = nI (cn al n) := H6.cnt.2.1
  have hup := H6.cnt.2.2.1
  have hcl := cn_le al n
  have hcm := cn_le pa m
  have e1 : I t1 4 = r := e1
  have e2 : I t1 5 = d := e2
  have e3 : I t7 2 = u := e3
  have e4 : I t6 3 = g := e4
  have e5 : I t5 4 = w := e5
  refine x_aload_n C D_X8_size_0.1 rfl rfl (by first | exact Or.inr ⟨_, rfl⟩ | exact va_rf_or _ | exact Or.inl rfl) ?_
  refine x_getQ C (ci := 7) (k0 := 2) hx (by decide) rfl (by decide) in_X8 k_181 rfl rfl D_X8_size_0.2.1 ?_
  refine x_eqr hq6 ?_
  refine x_callVi C (y := yX6_living) (c_X6_living l G t6 kt6) (ci := 5) kt6 (by decide) rfl rfl k_346 k_347 k_348 k_65 k_349 hd_X6_living ⟨(Nat.le_of_ble_eq_true rfl), (Nat.le_of_ble_eq_true rfl)⟩ rfl (by first | exact Nat.le_of_ble_eq_true rfl | simp [x_crf, Value.category]) rfl rfl D_X8_size_0.2.2.1 ⟨(Nat.le_of_ble_eq_true rfl), (Nat.le_of_ble_eq_true rfl)⟩ (fun r_4 S_4 h_4 => ?_)
  obtain ⟨rfl, rfl⟩ := h_4
  refine ret _ _ _ _ _ _ rfl D_X8_size_0.2.2.2 (Nat.le_of_ble_eq_true rfl) (Nat.le_of_ble_eq_true rfl) ?_
  exact ⟨l62, rfl⟩
abbrev rm_X8_nodes : Room := { frames := 2, cells := 0, slots := 0, locals := 40 }
set_option maxHeartbeats 4000000 in
set_option maxRecDepth 100000 in
theorem c_X8_nodes (l : Launch) (G : xG) {K N : Nat → Nat} {I : Nat → Nat → Int32} {Q : Nat → Nat → Option Nat} {J : Nat → Nat → Int64} (ow : xO) (x n m : Nat) (c : Nat → Nat) (al : Nat → Bool) (sp tu pt pc ps : Nat → Nat) (pa : Nat → Bool) (r d u g w : Int32) (hS : SY ow (K, N, I, Q, J) x n c al sp tu pt m pc pa ps r d u g w)  : XM l yX8_nodes cX8_nodes 1 (some .int) rm_X8_nodes G Ri [.ref x] (K, N, I, Q, J) (fun r_ S1 => r_ = nI n ∧ S1 = (K, N, I, Q, J)) := by
  refine x_meti (lv := [_]) (by decide +kernel) (x_cc (by first | rfl | exact x_crf _) x_cn) (Nat.le_of_ble_eq_true rfl) rfl ?_
  intro pP eE sS mM aA bB hH cC Z C hini ret
  obtain ⟨t1, t7, t6, t5, hX0, H1, H7, H6, H5, hE0, hn, hb⟩ := id hS
  obtain ⟨hx, hox, hq1, hq7, hq6, hq5⟩ := id hX0
  obtain ⟨e1, e2, e3, e4, e5⟩ := id hE0
  have hx : K x = 8 := hx
  have hq1 : Q x 0 = some t1 := hq1
  have hq7 : Q x 1 = some t7 := hq7
  have hq6 : Q x 2 = some t6 := hq6
  have hq5 : Q x 3 = some t5 := hq5
  have kt1 : K t1 = 2 := H1.kc.1
  have kt7 : K t7 = 7 := H7.kc
  have kt6 : K t6 = 6 := H6.kc
  have kt5 : K t5 = 5 := H5.kc.1
  have l1 : I t1 3 = nI (cn al n) := H1.kc.2
  have l5 : I t5 3 = nI (cn pa m) := H5.kc.2.1
  have hm120 := H5.kc.2.2
  have l6 : I t6 1 = nI n := H6.cnt.1
  have l62 : I t6 2 = nI (cn al n) := H6.cnt.2.1
  have hup := H6.cnt.2.2.1
  have hcl := cn_le al n
  have hcm := cn_le pa m
  have e1 : I t1 4 = r := e1
  have e2 : I t1 5 = d := e2
  have e3 : I t7 2 = u := e3
  have e4 : I t6 3 = g := e4
  have e5 : I t5 4 = w := e5
  refine x_aload_n C D_X8_nodes_0.1 rfl rfl (by first | exact Or.inr ⟨_, rfl⟩ | exact va_rf_or _ | exact Or.inl rfl) ?_
  refine x_getQ C (ci := 7) (k0 := 0) hx (by decide) rfl (by decide) in_X8 k_179 rfl rfl D_X8_nodes_0.2.1 ?_
  refine x_eqr hq1 ?_
  refine x_callUi C (x := ⟨"ScapegoatSpur$KeyTree", "nodeCount", "()I"⟩) (y := yX2_nodeCount) (owner := "ScapegoatSpur$LazyTree") (k1_nodes l G H1 hn) (ci := 1) kt1 (by decide) rfl k_362 k_363 k_365 k_242 k_61 k_246 rfl hu_X2_nodeCount ⟨(Nat.le_of_ble_eq_true rfl), (Nat.le_of_ble_eq_true rfl)⟩ rfl (by first | exact Nat.le_of_ble_eq_true rfl | simp [x_crf, Value.category]) rfl rfl D_X8_nodes_0.2.2.1 ⟨(Nat.le_of_ble_eq_true rfl), (Nat.le_of_ble_eq_true rfl)⟩ (fun r_4 S_4 h_4 => ?_)
  obtain ⟨rfl, rfl⟩ := h_4
  refine ret _ _ _ _ _ _ rfl D_X8_nodes_0.2.2.2 (Nat.le_of_ble_eq_true rfl) (Nat.le_of_ble_eq_true rfl) ?_
  exact ⟨rfl, rfl⟩
abbrev rm_X8_bound : Room := { frames := 2, cells := 0, slots := 0, locals := 40 }
set_option maxHeartbeats 4000000 in
set_option maxRecDepth 100000 in
theorem c_X8_bound (l : Launch) (G : xG) {K N : Nat → Nat} {I : Nat → Nat → Int32} {Q : Nat → Nat → Option Nat} {J : Nat → Nat → Int64} (ow : xO) (x n m : Nat) (c : Nat → Nat) (al : Nat → Bool) (sp tu pt pc ps : Nat → Nat) (pa : Nat → Bool) (r d u g w : Int32) (hS : SY ow (K, N, I, Q, J) x n c al sp tu pt m pc pa ps r d u g w)  : XM l yX8_bound cX8_bound 1 (some .int) rm_X8_bound G Ri [.ref x] (K, N, I, Q, J) (fun r_ S1 => r_ = nI (bnd n) ∧ S1 = (K, N, I, Q, J)) := by
  refine x_meti (lv := [_]) (by decide +kernel) (x_cc (by first | rfl | exact x_crf _) x_cn) (Nat.le_of_ble_eq_true rfl) rfl ?_
  intro pP eE sS mM aA bB hH cC Z C hini ret
  obtain ⟨t1, t7, t6, t5, hX0, H1, H7, H6, H5, hE0, hn, hb⟩ := id hS
  obtain ⟨hx, hox, hq1, hq7, hq6, hq5⟩ := id hX0
  obtain ⟨e1, e2, e3, e4, e5⟩ := id hE0
  have hx : K x = 8 := hx
  have hq1 : Q x 0 = some t1 := hq1
  have hq7 : Q x 1 = some t7 := hq7
  have hq6 : Q x 2 = some t6 := hq6
  have hq5 : Q x 3 = some t5 := hq5
  have kt1 : K t1 = 2 := H1.kc.1
  have kt7 : K t7 = 7 := H7.kc
  have kt6 : K t6 = 6 := H6.kc
  have kt5 : K t5 = 5 := H5.kc.1
  have l1 : I t1 3 = nI (cn al n) := H1.kc.2
  have l5 : I t5 3 = nI (cn pa m) := H5.kc.2.1
  have hm120 := H5.kc.2.2
  have l6 : I t6 1 = nI n := H6.cnt.1
  have l62 : I t6 2 = nI (cn al n) := H6.cnt.2.1
  have hup := H6.cnt.2.2.1
  have hcl := cn_le al n
  have hcm := cn_le pa m
  have e1 : I t1 4 = r := e1
  have e2 : I t1 5 = d := e2
  have e3 : I t7 2 = u := e3
  have e4 : I t6 3 = g := e4
  have e5 : I t5 4 = w := e5
  refine x_aload_n C D_X8_bound_0.1 rfl rfl (by first | exact Or.inr ⟨_, rfl⟩ | exact va_rf_or _ | exact Or.inl rfl) ?_
  refine x_getQ C (ci := 7) (k0 := 0) hx (by decide) rfl (by decide) in_X8 k_179 rfl rfl D_X8_bound_0.2.1 ?_
  refine x_eqr hq1 ?_
  refine x_callUi C (x := ⟨"ScapegoatSpur$KeyTree", "nodeCount", "()I"⟩) (y := yX2_nodeCount) (owner := "ScapegoatSpur$LazyTree") (k1_nodes l G H1 hn) (ci := 1) kt1 (by decide) rfl k_362 k_363 k_365 k_242 k_61 k_246 rfl hu_X2_nodeCount ⟨(Nat.le_of_ble_eq_true rfl), (Nat.le_of_ble_eq_true rfl)⟩ rfl (by first | exact Nat.le_of_ble_eq_true rfl | simp [x_crf, Value.category]) rfl rfl D_X8_bound_0.2.2.1 ⟨(Nat.le_of_ble_eq_true rfl), (Nat.le_of_ble_eq_true rfl)⟩ (fun r_4 S_4 h_4 => ?_)
  obtain ⟨rfl, rfl⟩ := h_4
  refine x_callSi C (y := yX1_boundFor) (c_X1_boundFor l G n (by omega)) k_370 k_371 k_62 k_372 hd_X1_boundFor ⟨(Nat.le_of_ble_eq_true rfl), (Nat.le_of_ble_eq_true rfl)⟩ rfl (by first | exact Nat.le_of_ble_eq_true rfl | simp [x_crf, Value.category]) rfl rfl D_X8_bound_0.2.2.2.1 ⟨(Nat.le_of_ble_eq_true rfl), (Nat.le_of_ble_eq_true rfl)⟩ (fun r_7 S_7 h_7 => ?_)
  obtain ⟨rfl, rfl⟩ := h_7
  refine ret _ _ _ _ _ _ rfl D_X8_bound_0.2.2.2.2 (Nat.le_of_ble_eq_true rfl) (Nat.le_of_ble_eq_true rfl) ?_
  exact ⟨rfl, rfl⟩
abbrev rm_X8_height : Room := { frames := 44, cells := 0, slots := 0, locals := 942 }
theorem hd_X2_greatestDepth : yX2_greatestDepth.cls ≠ "java/lang/invoke/MethodHandle" ∧ yX2_greatestDepth.cls ≠ "java/lang/invoke/VarHandle" ∧ (parseMethodDescriptor yX2_greatestDepth.desc).map (fun d => d.parameters.length) = some 0 := by decide +kernel
theorem hu_X2_greatestDepth : "ScapegoatSpur$LazyTree" ≠ "java/lang/invoke/MethodHandle" ∧ "ScapegoatSpur$LazyTree" ≠ "java/lang/invoke/VarHandle" ∧ (parseMethodDescriptor "()I").map (fun d => d.parameters.length) = some 0 := by decide +kernel
set_option maxHeartbeats 4000000 in
set_option maxRecDepth 100000 in
theorem c_X8_height (l : Launch) (G : xG) {K N : Nat → Nat} {I : Nat → Nat → Int32} {Q : Nat → Nat → Option Nat} {J : Nat → Nat → Int64} (ow : xO) (x n m : Nat) (c : Nat → Nat) (al : Nat → Bool) (sp tu pt pc ps : Nat → Nat) (pa : Nat → Bool) (r d u g w : Int32) (hS : SY ow (K, N, I, Q, J) x n c al sp tu pt m pc pa ps r d u g w)  : XM l yX8_height cX8_height 1 (some .int) rm_X8_height G Ri [.ref x] (K, N, I, Q, J) (fun r_ S1 => r_ = nI (hmx sp n) - nI 1 ∧ S1 = (K, N, I, Q, J)) := by
  refine x_meti (lv := [_]) (by decide +kernel) (x_cc (by first | rfl | exact x_crf _) x_cn) (Nat.le_of_ble_eq_true rfl) rfl ?_
  intro pP eE sS mM aA bB hH cC Z C hini ret
  obtain ⟨t1, t7, t6, t5, hX0, H1, H7, H6, H5, hE0, hn, hb⟩ := id hS
  obtain ⟨hx, hox, hq1, hq7, hq6, hq5⟩ := id hX0
  obtain ⟨e1, e2, e3, e4, e5⟩ := id hE0
  have hx : K x = 8 := hx
  have hq1 : Q x 0 = some t1 := hq1
  have hq7 : Q x 1 = some t7 := hq7
  have hq6 : Q x 2 = some t6 := hq6
  have hq5 : Q x 3 = some t5 := hq5
  have kt1 : K t1 = 2 := H1.kc.1
  have kt7 : K t7 = 7 := H7.kc
  have kt6 : K t6 = 6 := H6.kc
  have kt5 : K t5 = 5 := H5.kc.1
  have l1 : I t1 3 = nI (cn al n) := H1.kc.2
  have l5 : I t5 3 = nI (cn pa m) := H5.kc.2.1
  have hm120 := H5.kc.2.2
  have l6 : I t6 1 = nI n := H6.cnt.1
  have l62 : I t6 2 = nI (cn al n) := H6.cnt.2.1
  have hup := H6.cnt.2.2.1
  have hcl := cn_le al n
  have hcm := cn_le pa m
  have e1 : I t1 4 = r := e1
  have e2 : I t1 5 = d := e2
  have e3 : I t7 2 = u := e3
  have e4 : I t6 3 = g := e4
  have e5 : I t5 4 = w := e5
  refine x_aload_n C D_X8_height_0.1 rfl rfl (by first | exact Or.inr ⟨_, rfl⟩ | exact va_rf_or _ | exact Or.inl rfl) ?_
  refine x_getQ C (ci := 7) (k0 := 0) hx (by decide) rfl (by decide) in_X8 k_179 rfl rfl D_X8_height_0.2.1 ?_
  refine x_eqr hq1 ?_
  refine x_callUi C (x := ⟨"ScapegoatSpur$KeyTree", "greatestDepth", "()I"⟩) (y := yX2_greatestDepth) (owner := "ScapegoatSpur$LazyTree") (k1_height l G H1 hn) (ci := 1) kt1 (by decide) rfl k_379 k_380 k_382 k_383 k_61 k_384 rfl hu_X2_greatestDepth ⟨(Nat.le_of_ble_eq_true rfl), (Nat.le_of_ble_eq_true rfl)⟩ rfl (by first | exact Nat.le_of_ble_eq_true rfl | simp [x_crf, Value.category]) rfl rfl D_X8_height_0.2.2.1 ⟨(Nat.le_of_ble_eq_true rfl), (Nat.le_of_ble_eq_true rfl)⟩ (fun r_4 S_4 h_4 => ?_)
  obtain ⟨rfl, rfl⟩ := h_4
  refine ret _ _ _ _ _ _ rfl D_X8_height_0.2.2.2 (Nat.le_of_ble_eq_true rfl) (Nat.le_of_ble_eq_true rfl) ?_
  exact ⟨rfl, rfl⟩
abbrev rm_X8_rebuilt : Room := { frames := 1, cells := 0, slots := 0, locals := 20 }
theorem hd_X2_rebuiltWeight : yX2_rebuiltWeight.cls ≠ "java/lang/invoke/MethodHandle" ∧ yX2_rebuiltWeight.cls ≠ "java/lang/invoke/VarHandle" ∧ (parseMethodDescriptor yX2_rebuiltWeight.desc).map (fun d => d.parameters.length) = some 0 := by decide +kernel
theorem hu_X2_rebuiltWeight : "ScapegoatSpur$LazyTree" ≠ "java/lang/invoke/MethodHandle" ∧ "ScapegoatSpur$LazyTree" ≠ "java/lang/invoke/VarHandle" ∧ (parseMethodDescriptor "()I").map (fun d => d.parameters.length) = some 0 := by decide +kernel
set_option maxHeartbeats 4000000 in
set_option maxRecDepth 100000 in
theorem c_X8_rebuilt (l : Launch) (G : xG) {K N : Nat → Nat} {I : Nat → Nat → Int32} {Q : Nat → Nat → Option Nat} {J : Nat → Nat → Int64} (ow : xO) (x n m : Nat) (c : Nat → Nat) (al : Nat → Bool) (sp tu pt pc ps : Nat → Nat) (pa : Nat → Bool) (r d u g w : Int32) (hS : SY ow (K, N, I, Q, J) x n c al sp tu pt m pc pa ps r d u g w)  : XM l yX8_rebuilt cX8_rebuilt 1 (some .int) rm_X8_rebuilt G Ri [.ref x] (K, N, I, Q, J) (fun r_ S1 => r_ = r ∧ S1 = (K, N, I, Q, J)) := by
  refine x_meti (lv := [_]) (by decide +kernel) (x_cc (by first | rfl | exact x_crf _) x_cn) (Nat.le_of_ble_eq_true rfl) rfl ?_
  intro pP eE sS mM aA bB hH cC Z C hini ret
  obtain ⟨t1, t7, t6, t5, hX0, H1, H7, H6, H5, hE0, hn, hb⟩ := id hS
  obtain ⟨hx, hox, hq1, hq7, hq6, hq5⟩ := id hX0
  obtain ⟨e1, e2, e3, e4, e5⟩ := id hE0
  have hx : K x = 8 := hx
  have hq1 : Q x 0 = some t1 := hq1
  have hq7 : Q x 1 = some t7 := hq7
  have hq6 : Q x 2 = some t6 := hq6
  have hq5 : Q x 3 = some t5 := hq5
  have kt1 : K t1 = 2 := H1.kc.1
  have kt7 : K t7 = 7 := H7.kc
  have kt6 : K t6 = 6 := H6.kc
  have kt5 : K t5 = 5 := H5.kc.1
  have l1 : I t1 3 = nI (cn al n) := H1.kc.2
  have l5 : I t5 3 = nI (cn pa m) := H5.kc.2.1
  have hm120 := H5.kc.2.2
  have l6 : I t6 1 = nI n := H6.cnt.1
  have l62 : I t6 2 = nI (cn al n) := H6.cnt.2.1
  have hup := H6.cnt.2.2.1
  have hcl := cn_le al n
  have hcm := cn_le pa m
  have e1 : I t1 4 = r := e1
  have e2 : I t1 5 = d := e2
  have e3 : I t7 2 = u := e3
  have e4 : I t6 3 = g := e4
  have e5 : I t5 4 = w := e5
  refine x_aload_n C D_X8_rebuilt_0.1 rfl rfl (by first | exact Or.inr ⟨_, rfl⟩ | exact va_rf_or _ | exact Or.inl rfl) ?_
  refine x_getQ C (ci := 7) (k0 := 0) hx (by decide) rfl (by decide) in_X8 k_179 rfl rfl D_X8_rebuilt_0.2.1 ?_
  refine x_eqr hq1 ?_
  refine x_callUi C (x := ⟨"ScapegoatSpur$KeyTree", "rebuiltWeight", "()I"⟩) (y := yX2_rebuiltWeight) (owner := "ScapegoatSpur$LazyTree") (c_X2_rebuiltWeight_1 l G t1 kt1) (ci := 1) kt1 (by decide) rfl k_395 k_396 k_398 k_399 k_61 k_400 rfl hu_X2_rebuiltWeight ⟨(Nat.le_of_ble_eq_true rfl), (Nat.le_of_ble_eq_true rfl)⟩ rfl (by first | exact Nat.le_of_ble_eq_true rfl | simp [x_crf, Value.category]) rfl rfl D_X8_rebuilt_0.2.2.1 ⟨(Nat.le_of_ble_eq_true rfl), (Nat.le_of_ble_eq_true rfl)⟩ (fun r_4 S_4 h_4 => ?_)
  obtain ⟨rfl, rfl⟩ := h_4
  refine ret _ _ _ _ _ _ rfl D_X8_rebuilt_0.2.2.2 (Nat.le_of_ble_eq_true rfl) (Nat.le_of_ble_eq_true rfl) ?_
  exact ⟨e1, rfl⟩
abbrev rm_X8_drops : Room := { frames := 1, cells := 0, slots := 0, locals := 20 }
theorem hd_X2_dropCount : yX2_dropCount.cls ≠ "java/lang/invoke/MethodHandle" ∧ yX2_dropCount.cls ≠ "java/lang/invoke/VarHandle" ∧ (parseMethodDescriptor yX2_dropCount.desc).map (fun d => d.parameters.length) = some 0 := by decide +kernel
theorem hu_X2_dropCount : "ScapegoatSpur$LazyTree" ≠ "java/lang/invoke/MethodHandle" ∧ "ScapegoatSpur$LazyTree" ≠ "java/lang/invoke/VarHandle" ∧ (parseMethodDescriptor "()I").map (fun d => d.parameters.length) = some 0 := by decide +kernel
set_option maxHeartbeats 4000000 in
set_option maxRecDepth 100000 in
theorem c_X8_drops (l : Launch) (G : xG) {K N : Nat → Nat} {I : Nat → Nat → Int32} {Q : Nat → Nat → Option Nat} {J : Nat → Nat → Int64} (ow : xO) (x n m : Nat) (c : Nat → Nat) (al : Nat → Bool) (sp tu pt pc ps : Nat → Nat) (pa : Nat → Bool) (r d u g w : Int32) (hS : SY ow (K, N, I, Q, J) x n c al sp tu pt m pc pa ps r d u g w)  : XM l yX8_drops cX8_drops 1 (some .int) rm_X8_drops G Ri [.ref x] (K, N, I, Q, J) (fun r_ S1 => r_ = d ∧ S1 = (K, N, I, Q, J)) := by
  refine x_meti (lv := [_]) (by decide +kernel) (x_cc (by first | rfl | exact x_crf _) x_cn) (Nat.le_of_ble_eq_true rfl) rfl ?_
  intro pP eE sS mM aA bB hH cC Z C hini ret
  obtain ⟨t1, t7, t6, t5, hX0, H1, H7, H6, H5, hE0, hn, hb⟩ := id hS
  obtain ⟨hx, hox, hq1, hq7, hq6, hq5⟩ := id hX0
  obtain ⟨e1, e2, e3, e4, e5⟩ := id hE0
  have hx : K x = 8 := hx
  have hq1 : Q x 0 = some t1 := hq1
  have hq7 : Q x 1 = some t7 := hq7
  have hq6 : Q x 2 = some t6 := hq6
  have hq5 : Q x 3 = some t5 := hq5
  have kt1 : K t1 = 2 := H1.kc.1
  have kt7 : K t7 = 7 := H7.kc
  have kt6 : K t6 = 6 := H6.kc
  have kt5 : K t5 = 5 := H5.kc.1
  have l1 : I t1 3 = nI (cn al n) := H1.kc.2
  have l5 : I t5 3 = nI (cn pa m) := H5.kc.2.1
  have hm120 := H5.kc.2.2
  have l6 : I t6 1 = nI n := H6.cnt.1
  have l62 : I t6 2 = nI (cn al n) := H6.cnt.2.1
  have hup := H6.cnt.2.2.1
  have hcl := cn_le al n
  have hcm := cn_le pa m
  have e1 : I t1 4 = r := e1
  have e2 : I t1 5 = d := e2
  have e3 : I t7 2 = u := e3
  have e4 : I t6 3 = g := e4
  have e5 : I t5 4 = w := e5
  refine x_aload_n C D_X8_drops_0.1 rfl rfl (by first | exact Or.inr ⟨_, rfl⟩ | exact va_rf_or _ | exact Or.inl rfl) ?_
  refine x_getQ C (ci := 7) (k0 := 0) hx (by decide) rfl (by decide) in_X8 k_179 rfl rfl D_X8_drops_0.2.1 ?_
  refine x_eqr hq1 ?_
  refine x_callUi C (x := ⟨"ScapegoatSpur$KeyTree", "dropCount", "()I"⟩) (y := yX2_dropCount) (owner := "ScapegoatSpur$LazyTree") (c_X2_dropCount_1 l G t1 kt1) (ci := 1) kt1 (by decide) rfl k_405 k_406 k_408 k_409 k_61 k_410 rfl hu_X2_dropCount ⟨(Nat.le_of_ble_eq_true rfl), (Nat.le_of_ble_eq_true rfl)⟩ rfl (by first | exact Nat.le_of_ble_eq_true rfl | simp [x_crf, Value.category]) rfl rfl D_X8_drops_0.2.2.1 ⟨(Nat.le_of_ble_eq_true rfl), (Nat.le_of_ble_eq_true rfl)⟩ (fun r_4 S_4 h_4 => ?_)
  obtain ⟨rfl, rfl⟩ := h_4
  refine ret _ _ _ _ _ _ rfl D_X8_drops_0.2.2.2 (Nat.le_of_ble_eq_true rfl) (Nat.le_of_ble_eq_true rfl) ?_
  exact ⟨e2, rfl⟩
abbrev rm_X8_turns : Room := { frames := 1, cells := 0, slots := 0, locals := 20 }
theorem hd_X7_turnCount : yX7_turnCount.cls ≠ "java/lang/invoke/MethodHandle" ∧ yX7_turnCount.cls ≠ "java/lang/invoke/VarHandle" ∧ (parseMethodDescriptor yX7_turnCount.desc).map (fun d => d.parameters.length) = some 0 := by decide +kernel
set_option maxHeartbeats 4000000 in
set_option maxRecDepth 100000 in
theorem c_X8_turns (l : Launch) (G : xG) {K N : Nat → Nat} {I : Nat → Nat → Int32} {Q : Nat → Nat → Option Nat} {J : Nat → Nat → Int64} (ow : xO) (x n m : Nat) (c : Nat → Nat) (al : Nat → Bool) (sp tu pt pc ps : Nat → Nat) (pa : Nat → Bool) (r d u g w : Int32) (hS : SY ow (K, N, I, Q, J) x n c al sp tu pt m pc pa ps r d u g w)  : XM l yX8_turns cX8_turns 1 (some .int) rm_X8_turns G Ri [.ref x] (K, N, I, Q, J) (fun r_ S1 => r_ = u ∧ S1 = (K, N, I, Q, J)) := by
  refine x_meti (lv := [_]) (by decide +kernel) (x_cc (by first | rfl | exact x_crf _) x_cn) (Nat.le_of_ble_eq_true rfl) rfl ?_
  intro pP eE sS mM aA bB hH cC Z C hini ret
  obtain ⟨t1, t7, t6, t5, hX0, H1, H7, H6, H5, hE0, hn, hb⟩ := id hS
  obtain ⟨hx, hox, hq1, hq7, hq6, hq5⟩ := id hX0
  obtain ⟨e1, e2, e3, e4, e5⟩ := id hE0
  have hx : K x = 8 := hx
  have hq1 : Q x 0 = some t1 := hq1
  have hq7 : Q x 1 = some t7 := hq7
  have hq6 : Q x 2 = some t6 := hq6
  have hq5 : Q x 3 = some t5 := hq5
  have kt1 : K t1 = 2 := H1.kc.1
  have kt7 : K t7 = 7 := H7.kc
  have kt6 : K t6 = 6 := H6.kc
  have kt5 : K t5 = 5 := H5.kc.1
  have l1 : I t1 3 = nI (cn al n) := H1.kc.2
  have l5 : I t5 3 = nI (cn pa m) := H5.kc.2.1
  have hm120 := H5.kc.2.2
  have l6 : I t6 1 = nI n := H6.cnt.1
  have l62 : I t6 2 = nI (cn al n) := H6.cnt.2.1
  have hup := H6.cnt.2.2.1
  have hcl := cn_le al n
  have hcm := cn_le pa m
  have e1 : I t1 4 = r := e1
  have e2 : I t1 5 = d := e2
  have e3 : I t7 2 = u := e3
  have e4 : I t6 3 = g := e4
  have e5 : I t5 4 = w := e5
  refine x_aload_n C D_X8_turns_0.1 rfl rfl (by first | exact Or.inr ⟨_, rfl⟩ | exact va_rf_or _ | exact Or.inl rfl) ?_
  refine x_getQ C (ci := 7) (k0 := 1) hx (by decide) rfl (by decide) in_X8 k_180 rfl rfl D_X8_turns_0.2.1 ?_
  refine x_eqr hq7 ?_
  refine x_callVi C (y := yX7_turnCount) (c_X7_turnCount l G t7 kt7) (ci := 6) kt7 (by decide) rfl rfl k_428 k_429 k_430 k_64 k_431 hd_X7_turnCount ⟨(Nat.le_of_ble_eq_true rfl), (Nat.le_of_ble_eq_true rfl)⟩ rfl (by first | exact Nat.le_of_ble_eq_true rfl | simp [x_crf, Value.category]) rfl rfl D_X8_turns_0.2.2.1 ⟨(Nat.le_of_ble_eq_true rfl), (Nat.le_of_ble_eq_true rfl)⟩ (fun r_4 S_4 h_4 => ?_)
  obtain ⟨rfl, rfl⟩ := h_4
  refine ret _ _ _ _ _ _ rfl D_X8_turns_0.2.2.2 (Nat.le_of_ble_eq_true rfl) (Nat.le_of_ble_eq_true rfl) ?_
  exact ⟨e3, rfl⟩
abbrev rm_X8_entries : Room := { frames := 1, cells := 0, slots := 0, locals := 20 }
theorem hd_X6_entryCount : yX6_entryCount.cls ≠ "java/lang/invoke/MethodHandle" ∧ yX6_entryCount.cls ≠ "java/lang/invoke/VarHandle" ∧ (parseMethodDescriptor yX6_entryCount.desc).map (fun d => d.parameters.length) = some 0 := by decide +kernel
set_option maxHeartbeats 4000000 in
set_option maxRecDepth 100000 in
theorem c_X8_entries (l : Launch) (G : xG) {K N : Nat → Nat} {I : Nat → Nat → Int32} {Q : Nat → Nat → Option Nat} {J : Nat → Nat → Int64} (ow : xO) (x n m : Nat) (c : Nat → Nat) (al : Nat → Bool) (sp tu pt pc ps : Nat → Nat) (pa : Nat → Bool) (r d u g w : Int32) (hS : SY ow (K, N, I, Q, J) x n c al sp tu pt m pc pa ps r d u g w)  : XM l yX8_entries cX8_entries 1 (some .int) rm_X8_entries G Ri [.ref x] (K, N, I, Q, J) (fun r_ S1 => r_ = nI n ∧ S1 = (K, N, I, Q, J)) := by
  refine x_meti (lv := [_]) (by decide +kernel) (x_cc (by first | rfl | exact x_crf _) x_cn) (Nat.le_of_ble_eq_true rfl) rfl ?_
  intro pP eE sS mM aA bB hH cC Z C hini ret
  obtain ⟨t1, t7, t6, t5, hX0, H1, H7, H6, H5, hE0, hn, hb⟩ := id hS
  obtain ⟨hx, hox, hq1, hq7, hq6, hq5⟩ := id hX0
  obtain ⟨e1, e2, e3, e4, e5⟩ := id hE0
  have hx : K x = 8 := hx
  have hq1 : Q x 0 = some t1 := hq1
  have hq7 : Q x 1 = some t7 := hq7
  have hq6 : Q x 2 = some t6 := hq6
  have hq5 : Q x 3 = some t5 := hq5
  have kt1 : K t1 = 2 := H1.kc.1
  have kt7 : K t7 = 7 := H7.kc
  have kt6 : K t6 = 6 := H6.kc
  have kt5 : K t5 = 5 := H5.kc.1
  have l1 : I t1 3 = nI (cn al n) := H1.kc.2
  have l5 : I t5 3 = nI (cn pa m) := H5.kc.2.1
  have hm120 := H5.kc.2.2
  have l6 : I t6 1 = nI n := H6.cnt.1
  have l62 : I t6 2 = nI (cn al n) := H6.cnt.2.1
  have hup := H6.cnt.2.2.1
  have hcl := cn_le al n
  have hcm := cn_le pa m
  have e1 : I t1 4 = r := e1
  have e2 : I t1 5 = d := e2
  have e3 : I t7 2 = u := e3
  have e4 : I t6 3 = g := e4
  have e5 : I t5 4 = w := e5
  refine x_aload_n C D_X8_entries_0.1 rfl rfl (by first | exact Or.inr ⟨_, rfl⟩ | exact va_rf_or _ | exact Or.inl rfl) ?_
  refine x_getQ C (ci := 7) (k0 := 2) hx (by decide) rfl (by decide) in_X8 k_181 rfl rfl D_X8_entries_0.2.1 ?_
  refine x_eqr hq6 ?_
  refine x_callVi C (y := yX6_entryCount) (c_X6_entryCount l G t6 kt6) (ci := 5) kt6 (by decide) rfl rfl k_436 k_437 k_438 k_65 k_439 hd_X6_entryCount ⟨(Nat.le_of_ble_eq_true rfl), (Nat.le_of_ble_eq_true rfl)⟩ rfl (by first | exact Nat.le_of_ble_eq_true rfl | simp [x_crf, Value.category]) rfl rfl D_X8_entries_0.2.2.1 ⟨(Nat.le_of_ble_eq_true rfl), (Nat.le_of_ble_eq_true rfl)⟩ (fun r_4 S_4 h_4 => ?_)
  obtain ⟨rfl, rfl⟩ := h_4
  refine ret _ _ _ _ _ _ rfl D_X8_entries_0.2.2.2 (Nat.le_of_ble_eq_true rfl) (Nat.le_of_ble_eq_true rfl) ?_
  exact ⟨l6, rfl⟩
abbrev rm_X8_merges : Room := { frames := 1, cells := 0, slots := 0, locals := 20 }
theorem hd_X6_mergeCount : yX6_mergeCount.cls ≠ "java/lang/invoke/MethodHandle" ∧ yX6_mergeCount.cls ≠ "java/lang/invoke/VarHandle" ∧ (parseMethodDescriptor yX6_mergeCount.desc).map (fun d => d.parameters.length) = some 0 := by decide +kernel
set_option maxHeartbeats 4000000 in
set_option maxRecDepth 100000 in
theorem c_X8_merges (l : Launch) (G : xG) {K N : Nat → Nat} {I : Nat → Nat → Int32} {Q : Nat → Nat → Option Nat} {J : Nat → Nat → Int64} (ow : xO) (x n m : Nat) (c : Nat → Nat) (al : Nat → Bool) (sp tu pt pc ps : Nat → Nat) (pa : Nat → Bool) (r d u g w : Int32) (hS : SY ow (K, N, I, Q, J) x n c al sp tu pt m pc pa ps r d u g w)  : XM l yX8_merges cX8_merges 1 (some .int) rm_X8_merges G Ri [.ref x] (K, N, I, Q, J) (fun r_ S1 => r_ = g ∧ S1 = (K, N, I, Q, J)) := by
  refine x_meti (lv := [_]) (by decide +kernel) (x_cc (by first | rfl | exact x_crf _) x_cn) (Nat.le_of_ble_eq_true rfl) rfl ?_
  intro pP eE sS mM aA bB hH cC Z C hini ret
  obtain ⟨t1, t7, t6, t5, hX0, H1, H7, H6, H5, hE0, hn, hb⟩ := id hS
  obtain ⟨hx, hox, hq1, hq7, hq6, hq5⟩ := id hX0
  obtain ⟨e1, e2, e3, e4, e5⟩ := id hE0
  have hx : K x = 8 := hx
  have hq1 : Q x 0 = some t1 := hq1
  have hq7 : Q x 1 = some t7 := hq7
  have hq6 : Q x 2 = some t6 := hq6
  have hq5 : Q x 3 = some t5 := hq5
  have kt1 : K t1 = 2 := H1.kc.1
  have kt7 : K t7 = 7 := H7.kc
  have kt6 : K t6 = 6 := H6.kc
  have kt5 : K t5 = 5 := H5.kc.1
  have l1 : I t1 3 = nI (cn al n) := H1.kc.2
  have l5 : I t5 3 = nI (cn pa m) := H5.kc.2.1
  have hm120 := H5.kc.2.2
  have l6 : I t6 1 = nI n := H6.cnt.1
  have l62 : I t6 2 = nI (cn al n) := H6.cnt.2.1
  have hup := H6.cnt.2.2.1
  have hcl := cn_le al n
  have hcm := cn_le pa m
  have e1 : I t1 4 = r := e1
  have e2 : I t1 5 = d := e2
  have e3 : I t7 2 = u := e3
  have e4 : I t6 3 = g := e4
  have e5 : I t5 4 = w := e5
  refine x_aload_n C D_X8_merges_0.1 rfl rfl (by first | exact Or.inr ⟨_, rfl⟩ | exact va_rf_or _ | exact Or.inl rfl) ?_
  refine x_getQ C (ci := 7) (k0 := 2) hx (by decide) rfl (by decide) in_X8 k_181 rfl rfl D_X8_merges_0.2.1 ?_
  refine x_eqr hq6 ?_
  refine x_callVi C (y := yX6_mergeCount) (c_X6_mergeCount l G t6 kt6) (ci := 5) kt6 (by decide) rfl rfl k_444 k_445 k_446 k_65 k_447 hd_X6_mergeCount ⟨(Nat.le_of_ble_eq_true rfl), (Nat.le_of_ble_eq_true rfl)⟩ rfl (by first | exact Nat.le_of_ble_eq_true rfl | simp [x_crf, Value.category]) rfl rfl D_X8_merges_0.2.2.1 ⟨(Nat.le_of_ble_eq_true rfl), (Nat.le_of_ble_eq_true rfl)⟩ (fun r_4 S_4 h_4 => ?_)
  obtain ⟨rfl, rfl⟩ := h_4
  refine ret _ _ _ _ _ _ rfl D_X8_merges_0.2.2.2 (Nat.le_of_ble_eq_true rfl) (Nat.le_of_ble_eq_true rfl) ?_
  exact ⟨e4, rfl⟩
abbrev rm_X8_points : Room := { frames := 1, cells := 0, slots := 0, locals := 20 }
theorem hd_X2_living : yX2_living.cls ≠ "java/lang/invoke/MethodHandle" ∧ yX2_living.cls ≠ "java/lang/invoke/VarHandle" ∧ (parseMethodDescriptor yX2_living.desc).map (fun d => d.parameters.length) = some 0 := by decide +kernel
theorem hu_X2_living : "ScapegoatSpur$LazyTree" ≠ "java/lang/invoke/MethodHandle" ∧ "ScapegoatSpur$LazyTree" ≠ "java/lang/invoke/VarHandle" ∧ (parseMethodDescriptor "()I").map (fun d => d.parameters.length) = some 0 := by decide +kernel
set_option maxHeartbeats 4000000 in
set_option maxRecDepth 100000 in
theorem c_X8_points (l : Launch) (G : xG) {K N : Nat → Nat} {I : Nat → Nat → Int32} {Q : Nat → Nat → Option Nat} {J : Nat → Nat → Int64} (ow : xO) (x n m : Nat) (c : Nat → Nat) (al : Nat → Bool) (sp tu pt pc ps : Nat → Nat) (pa : Nat → Bool) (r d u g w : Int32) (hS : SY ow (K, N, I, Q, J) x n c al sp tu pt m pc pa ps r d u g w)  : XM l yX8_points cX8_points 1 (some .int) rm_X8_points G Ri [.ref x] (K, N, I, Q, J) (fun r_ S1 => r_ = nI (cn pa m) ∧ S1 = (K, N, I, Q, J)) := by
  refine x_meti (lv := [_]) (by decide +kernel) (x_cc (by first | rfl | exact x_crf _) x_cn) (Nat.le_of_ble_eq_true rfl) rfl ?_
  intro pP eE sS mM aA bB hH cC Z C hini ret
  obtain ⟨t1, t7, t6, t5, hX0, H1, H7, H6, H5, hE0, hn, hb⟩ := id hS
  obtain ⟨hx, hox, hq1, hq7, hq6, hq5⟩ := id hX0
  obtain ⟨e1, e2, e3, e4, e5⟩ := id hE0
  have hx : K x = 8 := hx
  have hq1 : Q x 0 = some t1 := hq1
  have hq7 : Q x 1 = some t7 := hq7
  have hq6 : Q x 2 = some t6 := hq6
  have hq5 : Q x 3 = some t5 := hq5
  have kt1 : K t1 = 2 := H1.kc.1
  have kt7 : K t7 = 7 := H7.kc
  have kt6 : K t6 = 6 := H6.kc
  have kt5 : K t5 = 5 := H5.kc.1
  have l1 : I t1 3 = nI (cn al n) := H1.kc.2
  have l5 : I t5 3 = nI (cn pa m) := H5.kc.2.1
  have hm120 := H5.kc.2.2
  have l6 : I t6 1 = nI n := H6.cnt.1
  have l62 : I t6 2 = nI (cn al n) := H6.cnt.2.1
  have hup := H6.cnt.2.2.1
  have hcl := cn_le al n
  have hcm := cn_le pa m
  have e1 : I t1 4 = r := e1
  have e2 : I t1 5 = d := e2
  have e3 : I t7 2 = u := e3
  have e4 : I t6 3 = g := e4
  have e5 : I t5 4 = w := e5
  refine x_aload_n C D_X8_points_0.1 rfl rfl (by first | exact Or.inr ⟨_, rfl⟩ | exact va_rf_or _ | exact Or.inl rfl) ?_
  refine x_getQ C (ci := 7) (k0 := 3) hx (by decide) rfl (by decide) in_X8 k_182 rfl rfl D_X8_points_0.2.1 ?_
  refine x_eqr hq5 ?_
  refine x_callUi C (x := ⟨"ScapegoatSpur$PointTree", "living", "()I"⟩) (y := yX2_living) (owner := "ScapegoatSpur$LazyTree") (c_X2_living_5 l G t5 kt5) (ci := 4) kt5 (by decide) rfl k_471 k_472 k_474 k_475 k_61 k_476 rfl hu_X2_living ⟨(Nat.le_of_ble_eq_true rfl), (Nat.le_of_ble_eq_true rfl)⟩ rfl (by first | exact Nat.le_of_ble_eq_true rfl | simp [x_crf, Value.category]) rfl rfl D_X8_points_0.2.2.1 ⟨(Nat.le_of_ble_eq_true rfl), (Nat.le_of_ble_eq_true rfl)⟩ (fun r_4 S_4 h_4 => ?_)
  obtain ⟨rfl, rfl⟩ := h_4
  refine ret _ _ _ _ _ _ rfl D_X8_points_0.2.2.2 (Nat.le_of_ble_eq_true rfl) (Nat.le_of_ble_eq_true rfl) ?_
  exact ⟨l5, rfl⟩
abbrev rm_X8_pointNodes : Room := { frames := 2, cells := 0, slots := 0, locals := 40 }
set_option maxHeartbeats 4000000 in
set_option maxRecDepth 100000 in
theorem c_X8_pointNodes (l : Launch) (G : xG) {K N : Nat → Nat} {I : Nat → Nat → Int32} {Q : Nat → Nat → Option Nat} {J : Nat → Nat → Int64} (ow : xO) (x n m : Nat) (c : Nat → Nat) (al : Nat → Bool) (sp tu pt pc ps : Nat → Nat) (pa : Nat → Bool) (r d u g w : Int32) (hS : SY ow (K, N, I, Q, J) x n c al sp tu pt m pc pa ps r d u g w)  : XM l yX8_pointNodes cX8_pointNodes 1 (some .int) rm_X8_pointNodes G Ri [.ref x] (K, N, I, Q, J) (fun r_ S1 => r_ = nI m ∧ S1 = (K, N, I, Q, J)) := by
  refine x_meti (lv := [_]) (by decide +kernel) (x_cc (by first | rfl | exact x_crf _) x_cn) (Nat.le_of_ble_eq_true rfl) rfl ?_
  intro pP eE sS mM aA bB hH cC Z C hini ret
  obtain ⟨t1, t7, t6, t5, hX0, H1, H7, H6, H5, hE0, hn, hb⟩ := id hS
  obtain ⟨hx, hox, hq1, hq7, hq6, hq5⟩ := id hX0
  obtain ⟨e1, e2, e3, e4, e5⟩ := id hE0
  have hx : K x = 8 := hx
  have hq1 : Q x 0 = some t1 := hq1
  have hq7 : Q x 1 = some t7 := hq7
  have hq6 : Q x 2 = some t6 := hq6
  have hq5 : Q x 3 = some t5 := hq5
  have kt1 : K t1 = 2 := H1.kc.1
  have kt7 : K t7 = 7 := H7.kc
  have kt6 : K t6 = 6 := H6.kc
  have kt5 : K t5 = 5 := H5.kc.1
  have l1 : I t1 3 = nI (cn al n) := H1.kc.2
  have l5 : I t5 3 = nI (cn pa m) := H5.kc.2.1
  have hm120 := H5.kc.2.2
  have l6 : I t6 1 = nI n := H6.cnt.1
  have l62 : I t6 2 = nI (cn al n) := H6.cnt.2.1
  have hup := H6.cnt.2.2.1
  have hcl := cn_le al n
  have hcm := cn_le pa m
  have e1 : I t1 4 = r := e1
  have e2 : I t1 5 = d := e2
  have e3 : I t7 2 = u := e3
  have e4 : I t6 3 = g := e4
  have e5 : I t5 4 = w := e5
  refine x_aload_n C D_X8_pointNodes_0.1 rfl rfl (by first | exact Or.inr ⟨_, rfl⟩ | exact va_rf_or _ | exact Or.inl rfl) ?_
  refine x_getQ C (ci := 7) (k0 := 3) hx (by decide) rfl (by decide) in_X8 k_182 rfl rfl D_X8_pointNodes_0.2.1 ?_
  refine x_eqr hq5 ?_
  refine x_callUi C (x := ⟨"ScapegoatSpur$PointTree", "nodeCount", "()I"⟩) (y := yX2_nodeCount) (owner := "ScapegoatSpur$LazyTree") (k5_nodes l G H5) (ci := 4) kt5 (by decide) rfl k_481 k_482 k_483 k_242 k_61 k_246 rfl hu_X2_nodeCount ⟨(Nat.le_of_ble_eq_true rfl), (Nat.le_of_ble_eq_true rfl)⟩ rfl (by first | exact Nat.le_of_ble_eq_true rfl | simp [x_crf, Value.category]) rfl rfl D_X8_pointNodes_0.2.2.1 ⟨(Nat.le_of_ble_eq_true rfl), (Nat.le_of_ble_eq_true rfl)⟩ (fun r_4 S_4 h_4 => ?_)
  obtain ⟨rfl, rfl⟩ := h_4
  refine ret _ _ _ _ _ _ rfl D_X8_pointNodes_0.2.2.2 (Nat.le_of_ble_eq_true rfl) (Nat.le_of_ble_eq_true rfl) ?_
  exact ⟨rfl, rfl⟩
abbrev rm_X8_pointHeight : Room := { frames := 44, cells := 0, slots := 0, locals := 942 }
set_option maxHeartbeats 4000000 in
set_option maxRecDepth 100000 in
theorem c_X8_pointHeight (l : Launch) (G : xG) {K N : Nat → Nat} {I : Nat → Nat → Int32} {Q : Nat → Nat → Option Nat} {J : Nat → Nat → Int64} (ow : xO) (x n m : Nat) (c : Nat → Nat) (al : Nat → Bool) (sp tu pt pc ps : Nat → Nat) (pa : Nat → Bool) (r d u g w : Int32) (hS : SY ow (K, N, I, Q, J) x n c al sp tu pt m pc pa ps r d u g w)  : XM l yX8_pointHeight cX8_pointHeight 1 (some .int) rm_X8_pointHeight G Ri [.ref x] (K, N, I, Q, J) (fun r_ S1 => r_ = nI (hmx ps m) - nI 1 ∧ S1 = (K, N, I, Q, J)) := by
  refine x_meti (lv := [_]) (by decide +kernel) (x_cc (by first | rfl | exact x_crf _) x_cn) (Nat.le_of_ble_eq_true rfl) rfl ?_
  intro pP eE sS mM aA bB hH cC Z C hini ret
  obtain ⟨t1, t7, t6, t5, hX0, H1, H7, H6, H5, hE0, hn, hb⟩ := id hS
  obtain ⟨hx, hox, hq1, hq7, hq6, hq5⟩ := id hX0
  obtain ⟨e1, e2, e3, e4, e5⟩ := id hE0
  have hx : K x = 8 := hx
  have hq1 : Q x 0 = some t1 := hq1
  have hq7 : Q x 1 = some t7 := hq7
  have hq6 : Q x 2 = some t6 := hq6
  have hq5 : Q x 3 = some t5 := hq5
  have kt1 : K t1 = 2 := H1.kc.1
  have kt7 : K t7 = 7 := H7.kc
  have kt6 : K t6 = 6 := H6.kc
  have kt5 : K t5 = 5 := H5.kc.1
  have l1 : I t1 3 = nI (cn al n) := H1.kc.2
  have l5 : I t5 3 = nI (cn pa m) := H5.kc.2.1
  have hm120 := H5.kc.2.2
  have l6 : I t6 1 = nI n := H6.cnt.1
  have l62 : I t6 2 = nI (cn al n) := H6.cnt.2.1
  have hup := H6.cnt.2.2.1
  have hcl := cn_le al n
  have hcm := cn_le pa m
  have e1 : I t1 4 = r := e1
  have e2 : I t1 5 = d := e2
  have e3 : I t7 2 = u := e3
  have e4 : I t6 3 = g := e4
  have e5 : I t5 4 = w := e5
  refine x_aload_n C D_X8_pointHeight_0.1 rfl rfl (by first | exact Or.inr ⟨_, rfl⟩ | exact va_rf_or _ | exact Or.inl rfl) ?_
  refine x_getQ C (ci := 7) (k0 := 3) hx (by decide) rfl (by decide) in_X8 k_182 rfl rfl D_X8_pointHeight_0.2.1 ?_
  refine x_eqr hq5 ?_
  refine x_callUi C (x := ⟨"ScapegoatSpur$PointTree", "greatestDepth", "()I"⟩) (y := yX2_greatestDepth) (owner := "ScapegoatSpur$LazyTree") (k5_height l G H5) (ci := 4) kt5 (by decide) rfl k_488 k_489 k_490 k_383 k_61 k_384 rfl hu_X2_greatestDepth ⟨(Nat.le_of_ble_eq_true rfl), (Nat.le_of_ble_eq_true rfl)⟩ rfl (by first | exact Nat.le_of_ble_eq_true rfl | simp [x_crf, Value.category]) rfl rfl D_X8_pointHeight_0.2.2.1 ⟨(Nat.le_of_ble_eq_true rfl), (Nat.le_of_ble_eq_true rfl)⟩ (fun r_4 S_4 h_4 => ?_)
  obtain ⟨rfl, rfl⟩ := h_4
  refine ret _ _ _ _ _ _ rfl D_X8_pointHeight_0.2.2.2 (Nat.le_of_ble_eq_true rfl) (Nat.le_of_ble_eq_true rfl) ?_
  exact ⟨rfl, rfl⟩
abbrev rm_X8_pointsRebuilt : Room := { frames := 1, cells := 0, slots := 0, locals := 20 }
set_option maxHeartbeats 4000000 in
set_option maxRecDepth 100000 in
theorem c_X8_pointsRebuilt (l : Launch) (G : xG) {K N : Nat → Nat} {I : Nat → Nat → Int32} {Q : Nat → Nat → Option Nat} {J : Nat → Nat → Int64} (ow : xO) (x n m : Nat) (c : Nat → Nat) (al : Nat → Bool) (sp tu pt pc ps : Nat → Nat) (pa : Nat → Bool) (r d u g w : Int32) (hS : SY ow (K, N, I, Q, J) x n c al sp tu pt m pc pa ps r d u g w)  : XM l yX8_pointsRebuilt cX8_pointsRebuilt 1 (some .int) rm_X8_pointsRebuilt G Ri [.ref x] (K, N, I, Q, J) (fun r_ S1 => r_ = w ∧ S1 = (K, N, I, Q, J)) := by
  refine x_meti (lv := [_]) (by decide +kernel) (x_cc (by first | rfl | exact x_crf _) x_cn) (Nat.le_of_ble_eq_true rfl) rfl ?_
  intro pP eE sS mM aA bB hH cC Z C hini ret
  obtain ⟨t1, t7, t6, t5, hX0, H1, H7, H6, H5, hE0, hn, hb⟩ := id hS
  obtain ⟨hx, hox, hq1, hq7, hq6, hq5⟩ := id hX0
  obtain ⟨e1, e2, e3, e4, e5⟩ := id hE0
  have hx : K x = 8 := hx
  have hq1 : Q x 0 = some t1 := hq1
  have hq7 : Q x 1 = some t7 := hq7
  have hq6 : Q x 2 = some t6 := hq6
  have hq5 : Q x 3 = some t5 := hq5
  have kt1 : K t1 = 2 := H1.kc.1
  have kt7 : K t7 = 7 := H7.kc
  have kt6 : K t6 = 6 := H6.kc
  have kt5 : K t5 = 5 := H5.kc.1
  have l1 : I t1 3 = nI (cn al n) := H1.kc.2
  have l5 : I t5 3 = nI (cn pa m) := H5.kc.2.1
  have hm120 := H5.kc.2.2
  have l6 : I t6 1 = nI n := H6.cnt.1
  have l62 : I t6 2 = nI (cn al n) := H6.cnt.2.1
  have hup := H6.cnt.2.2.1
  have hcl := cn_le al n
  have hcm := cn_le pa m
  have e1 : I t1 4 = r := e1
  have e2 : I t1 5 = d := e2
  have e3 : I t7 2 = u := e3
  have e4 : I t6 3 = g := e4
  have e5 : I t5 4 = w := e5
  refine x_aload_n C D_X8_pointsRebuilt_0.1 rfl rfl (by first | exact Or.inr ⟨_, rfl⟩ | exact va_rf_or _ | exact Or.inl rfl) ?_
  refine x_getQ C (ci := 7) (k0 := 3) hx (by decide) rfl (by decide) in_X8 k_182 rfl rfl D_X8_pointsRebuilt_0.2.1 ?_
  refine x_eqr hq5 ?_
  refine x_callUi C (x := ⟨"ScapegoatSpur$PointTree", "rebuiltWeight", "()I"⟩) (y := yX2_rebuiltWeight) (owner := "ScapegoatSpur$LazyTree") (c_X2_rebuiltWeight_5 l G t5 kt5) (ci := 4) kt5 (by decide) rfl k_495 k_496 k_497 k_399 k_61 k_400 rfl hu_X2_rebuiltWeight ⟨(Nat.le_of_ble_eq_true rfl), (Nat.le_of_ble_eq_true rfl)⟩ rfl (by first | exact Nat.le_of_ble_eq_true rfl | simp [x_crf, Value.category]) rfl rfl D_X8_pointsRebuilt_0.2.2.1 ⟨(Nat.le_of_ble_eq_true rfl), (Nat.le_of_ble_eq_true rfl)⟩ (fun r_4 S_4 h_4 => ?_)
  obtain ⟨rfl, rfl⟩ := h_4
  refine ret _ _ _ _ _ _ rfl D_X8_pointsRebuilt_0.2.2.2 (Nat.le_of_ble_eq_true rfl) (Nat.le_of_ble_eq_true rfl) ?_
  exact ⟨e5, rfl⟩
