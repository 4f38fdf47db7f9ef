theorem D_X9_contains_0 : decode cX9_contains 0 = .ok (.aload_n 0, 1) ∧ decode cX9_contains 1 = .ok (.iconst 0, 1) ∧ decode cX9_contains 2 = .ok (.putfield 44, 3) ∧ decode cX9_contains 5 = .ok (.aload_n 0, 1) ∧ decode cX9_contains 6 = .ok (.iload_n 1, 1) ∧ decode cX9_contains 7 = .ok (.invokevirtual 110, 3) ∧ decode cX9_contains 10 = .ok (.istore_n 2, 1) ∧ decode cX9_contains 11 = .ok (.iload_n 2, 1) ∧ decode cX9_contains 12 = .ok (.iconst (-1), 1) ∧ decode cX9_contains 13 = .ok (.if_icmp .eq 16, 3) ∧ decode cX9_contains 16 = .ok (.aload_n 0, 1) ∧ decode cX9_contains 17 = .ok (.getfield 13, 3) := by decide +kernel
theorem D_X9_contains_1 : decode cX9_contains 20 = .ok (.iload_n 2, 1) ∧ decode cX9_contains 21 = .ok (.baload, 1) ∧ decode cX9_contains 22 = .ok (.ifCond .eq 7, 3) ∧ decode cX9_contains 25 = .ok (.iconst 1, 1) ∧ decode cX9_contains 26 = .ok (.goto 4, 3) ∧ decode cX9_contains 29 = .ok (.iconst 0, 1) ∧ decode cX9_contains 30 = .ok (.ireturn, 1) := by decide +kernel
theorem D_X9_size_0 : decode cX9_size 0 = .ok (.aload_n 0, 1) ∧ decode cX9_size 1 = .ok (.iconst 0, 1) ∧ decode cX9_size 2 = .ok (.putfield 44, 3) ∧ decode cX9_size 5 = .ok (.aload_n 0, 1) ∧ decode cX9_size 6 = .ok (.invokevirtual 113, 3) ∧ decode cX9_size 9 = .ok (.ireturn, 1) := by decide +kernel
theorem D_X9_rank_0 : decode cX9_rank 0 = .ok (.aload_n 0, 1) ∧ decode cX9_rank 1 = .ok (.iconst 0, 1) ∧ decode cX9_rank 2 = .ok (.putfield 44, 3) ∧ decode cX9_rank 5 = .ok (.iconst 0, 1) ∧ decode cX9_rank 6 = .ok (.istore_n 2, 1) ∧ decode cX9_rank 7 = .ok (.iconst 0, 1) ∧ decode cX9_rank 8 = .ok (.istore_n 3, 1) ∧ decode cX9_rank 9 = .ok (.iload_n 3, 1) ∧ decode cX9_rank 10 = .ok (.aload_n 0, 1) ∧ decode cX9_rank 11 = .ok (.getfield 60, 3) ∧ decode cX9_rank 14 = .ok (.if_icmp .ge 36, 3) ∧ decode cX9_rank 17 = .ok (.iload_n 2, 1) := by decide +kernel
theorem D_X9_rank_1 : decode cX9_rank 18 = .ok (.aload_n 0, 1) ∧ decode cX9_rank 19 = .ok (.getfield 13, 3) ∧ decode cX9_rank 22 = .ok (.iload_n 3, 1) ∧ decode cX9_rank 23 = .ok (.baload, 1) ∧ decode cX9_rank 24 = .ok (.ifCond .eq 17, 3) ∧ decode cX9_rank 27 = .ok (.aload_n 0, 1) ∧ decode cX9_rank 28 = .ok (.getfield 7, 3) ∧ decode cX9_rank 31 = .ok (.iload_n 3, 1) ∧ decode cX9_rank 32 = .ok (.iaload, 1) ∧ decode cX9_rank 33 = .ok (.iload_n 1, 1) ∧ decode cX9_rank 34 = .ok (.if_icmp .ge 7, 3) ∧ decode cX9_rank 37 = .ok (.iconst 1, 1) := by decide +kernel
theorem D_X9_rank_2 : decode cX9_rank 38 = .ok (.goto 4, 3) ∧ decode cX9_rank 41 = .ok (.iconst 0, 1) ∧ decode cX9_rank 42 = .ok (.iadd, 1) ∧ decode cX9_rank 43 = .ok (.istore_n 2, 1) ∧ decode cX9_rank 44 = .ok (.iinc 3 1, 3) ∧ decode cX9_rank 47 = .ok (.goto (-38), 3) ∧ decode cX9_rank 50 = .ok (.iload_n 2, 1) ∧ decode cX9_rank 51 = .ok (.ireturn, 1) := by decide +kernel
theorem D_X9_keyAt_0 : decode cX9_keyAt 0 = .ok (.aload_n 0, 1) ∧ decode cX9_keyAt 1 = .ok (.iload_n 1, 1) ∧ decode cX9_keyAt 2 = .ok (.ifCond .lt 11, 3) ∧ decode cX9_keyAt 5 = .ok (.iload_n 1, 1) ∧ decode cX9_keyAt 6 = .ok (.aload_n 0, 1) ∧ decode cX9_keyAt 7 = .ok (.invokevirtual 113, 3) ∧ decode cX9_keyAt 10 = .ok (.if_icmp .lt 7, 3) ∧ decode cX9_keyAt 13 = .ok (.iconst 1, 1) ∧ decode cX9_keyAt 14 = .ok (.goto 4, 3) ∧ decode cX9_keyAt 17 = .ok (.iconst 0, 1) ∧ decode cX9_keyAt 18 = .ok (.invokevirtual 117, 3) ∧ decode cX9_keyAt 21 = .ok (.ifCond .ne 5, 3) := by decide +kernel
theorem D_X9_keyAt_1 : decode cX9_keyAt 24 = .ok (.iconst 0, 1) ∧ decode cX9_keyAt 25 = .ok (.ireturn, 1) ∧ decode cX9_keyAt 26 = .ok (.iload_n 1, 1) ∧ decode cX9_keyAt 27 = .ok (.istore_n 2, 1) ∧ decode cX9_keyAt 28 = .ok (.iconst 0, 1) ∧ decode cX9_keyAt 29 = .ok (.istore_n 3, 1) ∧ decode cX9_keyAt 30 = .ok (.iload_n 2, 1) ∧ decode cX9_keyAt 31 = .ok (.ifCond .gt 12, 3) ∧ decode cX9_keyAt 34 = .ok (.aload_n 0, 1) ∧ decode cX9_keyAt 35 = .ok (.getfield 13, 3) ∧ decode cX9_keyAt 38 = .ok (.iload_n 3, 1) ∧ decode cX9_keyAt 39 = .ok (.baload, 1) := by decide +kernel
theorem D_X9_keyAt_2 : decode cX9_keyAt 40 = .ok (.ifCond .ne 26, 3) ∧ decode cX9_keyAt 43 = .ok (.iload_n 2, 1) ∧ decode cX9_keyAt 44 = .ok (.aload_n 0, 1) ∧ decode cX9_keyAt 45 = .ok (.getfield 13, 3) ∧ decode cX9_keyAt 48 = .ok (.iload_n 3, 1) ∧ decode cX9_keyAt 49 = .ok (.baload, 1) ∧ decode cX9_keyAt 50 = .ok (.ifCond .eq 7, 3) ∧ decode cX9_keyAt 53 = .ok (.iconst 1, 1) ∧ decode cX9_keyAt 54 = .ok (.goto 4, 3) ∧ decode cX9_keyAt 57 = .ok (.iconst 0, 1) ∧ decode cX9_keyAt 58 = .ok (.isub, 1) ∧ decode cX9_keyAt 59 = .ok (.istore_n 2, 1) := by decide +kernel
theorem D_X9_keyAt_3 : decode cX9_keyAt 60 = .ok (.iinc 3 1, 3) ∧ decode cX9_keyAt 63 = .ok (.goto (-33), 3) ∧ decode cX9_keyAt 66 = .ok (.aload_n 0, 1) ∧ decode cX9_keyAt 67 = .ok (.getfield 7, 3) ∧ decode cX9_keyAt 70 = .ok (.iload_n 3, 1) ∧ decode cX9_keyAt 71 = .ok (.iaload, 1) ∧ decode cX9_keyAt 72 = .ok (.ireturn, 1) := by decide +kernel
theorem D_X9_nodes_0 : decode cX9_nodes 0 = .ok (.aload_n 0, 1) ∧ decode cX9_nodes 1 = .ok (.iconst 0, 1) ∧ decode cX9_nodes 2 = .ok (.putfield 44, 3) ∧ decode cX9_nodes 5 = .ok (.aload_n 0, 1) ∧ decode cX9_nodes 6 = .ok (.getfield 60, 3) ∧ decode cX9_nodes 9 = .ok (.ireturn, 1) := by decide +kernel
theorem D_X9_bound_0 : decode cX9_bound 0 = .ok (.aload_n 0, 1) ∧ decode cX9_bound 1 = .ok (.iconst 0, 1) ∧ decode cX9_bound 2 = .ok (.putfield 44, 3) ∧ decode cX9_bound 5 = .ok (.aload_n 0, 1) ∧ decode cX9_bound 6 = .ok (.getfield 60, 3) ∧ decode cX9_bound 9 = .ok (.ifCond .ne 7, 3) ∧ decode cX9_bound 12 = .ok (.iconst 0, 1) ∧ decode cX9_bound 13 = .ok (.goto 10, 3) ∧ decode cX9_bound 16 = .ok (.aload_n 0, 1) ∧ decode cX9_bound 17 = .ok (.getfield 60, 3) ∧ decode cX9_bound 20 = .ok (.invokestatic 70, 3) ∧ decode cX9_bound 23 = .ok (.ireturn, 1) := by decide +kernel
theorem D_X9_height_0 : decode cX9_height 0 = .ok (.aload_n 0, 1) ∧ decode cX9_height 1 = .ok (.iconst 0, 1) ∧ decode cX9_height 2 = .ok (.putfield 44, 3) ∧ decode cX9_height 5 = .ok (.aload_n 0, 1) ∧ decode cX9_height 6 = .ok (.getfield 17, 3) ∧ decode cX9_height 9 = .ok (.aload_n 0, 1) ∧ decode cX9_height 10 = .ok (.getfield 60, 3) ∧ decode cX9_height 13 = .ok (.invokestatic 143, 3) ∧ decode cX9_height 16 = .ok (.ireturn, 1) := by decide +kernel
theorem D_X9_isNode_0 : decode cX9_isNode 0 = .ok (.aload_n 0, 1) ∧ decode cX9_isNode 1 = .ok (.aload_n 0, 1) ∧ decode cX9_isNode 2 = .ok (.iload_n 1, 1) ∧ decode cX9_isNode 3 = .ok (.invokevirtual 110, 3) ∧ decode cX9_isNode 6 = .ok (.iconst (-1), 1) ∧ decode cX9_isNode 7 = .ok (.if_icmp .ne 7, 3) ∧ decode cX9_isNode 10 = .ok (.iconst 1, 1) ∧ decode cX9_isNode 11 = .ok (.goto 4, 3) ∧ decode cX9_isNode 14 = .ok (.iconst 0, 1) ∧ decode cX9_isNode 15 = .ok (.invokevirtual 117, 3) ∧ decode cX9_isNode 18 = .ok (.ireturn, 1) := by decide +kernel
theorem D_X9_depth_0 : decode cX9_depth 0 = .ok (.aload_n 0, 1) ∧ decode cX9_depth 1 = .ok (.iload_n 1, 1) ∧ decode cX9_depth 2 = .ok (.invokevirtual 146, 3) ∧ decode cX9_depth 5 = .ok (.ifCond .eq 19, 3) ∧ decode cX9_depth 8 = .ok (.aload_n 0, 1) ∧ decode cX9_depth 9 = .ok (.getfield 17, 3) ∧ decode cX9_depth 12 = .ok (.aload_n 0, 1) ∧ decode cX9_depth 13 = .ok (.iload_n 1, 1) ∧ decode cX9_depth 14 = .ok (.invokevirtual 110, 3) ∧ decode cX9_depth 17 = .ok (.iaload, 1) ∧ decode cX9_depth 18 = .ok (.invokestatic 48, 3) ∧ decode cX9_depth 21 = .ok (.goto 4, 3) := by decide +kernel
theorem D_X9_depth_1 : decode cX9_depth 24 = .ok (.iconst 0, 1) ∧ decode cX9_depth 25 = .ok (.ireturn, 1) := by decide +kernel
theorem D_X9_weight_0 : decode cX9_weight 0 = .ok (.aload_n 0, 1) ∧ decode cX9_weight 1 = .ok (.iload_n 1, 1) ∧ decode cX9_weight 2 = .ok (.invokevirtual 146, 3) ∧ decode cX9_weight 5 = .ok (.ifCond .eq 27, 3) ∧ decode cX9_weight 8 = .ok (.aload_n 0, 1) ∧ decode cX9_weight 9 = .ok (.getfield 17, 3) ∧ decode cX9_weight 12 = .ok (.aload_n 0, 1) ∧ decode cX9_weight 13 = .ok (.getfield 60, 3) ∧ decode cX9_weight 16 = .ok (.aload_n 0, 1) ∧ decode cX9_weight 17 = .ok (.getfield 17, 3) ∧ decode cX9_weight 20 = .ok (.aload_n 0, 1) ∧ decode cX9_weight 21 = .ok (.iload_n 1, 1) := by decide +kernel
theorem D_X9_weight_1 : decode cX9_weight 22 = .ok (.invokevirtual 110, 3) ∧ decode cX9_weight 25 = .ok (.iaload, 1) ∧ decode cX9_weight 26 = .ok (.invokestatic 67, 3) ∧ decode cX9_weight 29 = .ok (.goto 4, 3) ∧ decode cX9_weight 32 = .ok (.iconst 0, 1) ∧ decode cX9_weight 33 = .ok (.ireturn, 1) := by decide +kernel
theorem D_X9_rebuilt_0 : decode cX9_rebuilt 0 = .ok (.aload_n 0, 1) ∧ decode cX9_rebuilt 1 = .ok (.iconst 0, 1) ∧ decode cX9_rebuilt 2 = .ok (.putfield 44, 3) ∧ decode cX9_rebuilt 5 = .ok (.aload_n 0, 1) ∧ decode cX9_rebuilt 6 = .ok (.getfield 73, 3) ∧ decode cX9_rebuilt 9 = .ok (.ireturn, 1) := by decide +kernel
theorem D_X9_drops_0 : decode cX9_drops 0 = .ok (.aload_n 0, 1) ∧ decode cX9_drops 1 = .ok (.iconst 0, 1) ∧ decode cX9_drops 2 = .ok (.putfield 44, 3) ∧ decode cX9_drops 5 = .ok (.aload_n 0, 1) ∧ decode cX9_drops 6 = .ok (.getfield 134, 3) ∧ decode cX9_drops 9 = .ok (.ireturn, 1) := by decide +kernel
theorem D_X9_depthInTurning_0 : decode cX9_depthInTurning 0 = .ok (.aload_n 0, 1) ∧ decode cX9_depthInTurning 1 = .ok (.iload_n 1, 1) ∧ decode cX9_depthInTurning 2 = .ok (.invokevirtual 110, 3) ∧ decode cX9_depthInTurning 5 = .ok (.istore_n 2, 1) ∧ decode cX9_depthInTurning 6 = .ok (.aload_n 0, 1) ∧ decode cX9_depthInTurning 7 = .ok (.iload_n 2, 1) ∧ decode cX9_depthInTurning 8 = .ok (.iconst (-1), 1) ∧ decode cX9_depthInTurning 9 = .ok (.if_icmp .eq 12, 3) ∧ decode cX9_depthInTurning 12 = .ok (.aload_n 0, 1) ∧ decode cX9_depthInTurning 13 = .ok (.getfield 13, 3) ∧ decode cX9_depthInTurning 16 = .ok (.iload_n 2, 1) ∧ decode cX9_depthInTurning 17 = .ok (.baload, 1) := by decide +kernel
theorem D_X9_depthInTurning_1 : decode cX9_depthInTurning 18 = .ok (.ifCond .ne 7, 3) ∧ decode cX9_depthInTurning 21 = .ok (.iconst 1, 1) ∧ decode cX9_depthInTurning 22 = .ok (.goto 4, 3) ∧ decode cX9_depthInTurning 25 = .ok (.iconst 0, 1) ∧ decode cX9_depthInTurning 26 = .ok (.invokevirtual 117, 3) ∧ decode cX9_depthInTurning 29 = .ok (.ifCond .eq 15, 3) ∧ decode cX9_depthInTurning 32 = .ok (.aload_n 0, 1) ∧ decode cX9_depthInTurning 33 = .ok (.getfield 20, 3) ∧ decode cX9_depthInTurning 36 = .ok (.iload_n 2, 1) ∧ decode cX9_depthInTurning 37 = .ok (.iaload, 1) ∧ decode cX9_depthInTurning 38 = .ok (.invokestatic 48, 3) ∧ decode cX9_depthInTurning 41 = .ok (.goto 4, 3) := by decide +kernel
theorem D_X9_depthInTurning_2 : decode cX9_depthInTurning 44 = .ok (.iconst 0, 1) ∧ decode cX9_depthInTurning 45 = .ok (.ireturn, 1) := by decide +kernel
theorem D_X9_turningRoot_0 : decode cX9_turningRoot 0 = .ok (.aload_n 0, 1) ∧ decode cX9_turningRoot 1 = .ok (.getfield 20, 3) ∧ decode cX9_turningRoot 4 = .ok (.aload_n 0, 1) ∧ decode cX9_turningRoot 5 = .ok (.getfield 60, 3) ∧ decode cX9_turningRoot 8 = .ok (.iconst 1, 1) ∧ decode cX9_turningRoot 9 = .ok (.invokestatic 63, 3) ∧ decode cX9_turningRoot 12 = .ok (.istore_n 1, 1) ∧ decode cX9_turningRoot 13 = .ok (.aload_n 0, 1) ∧ decode cX9_turningRoot 14 = .ok (.iload_n 1, 1) ∧ decode cX9_turningRoot 15 = .ok (.iconst (-1), 1) ∧ decode cX9_turningRoot 16 = .ok (.if_icmp .ne 7, 3) ∧ decode cX9_turningRoot 19 = .ok (.iconst 1, 1) := by decide +kernel
theorem D_X9_turningRoot_1 : decode cX9_turningRoot 20 = .ok (.goto 4, 3) ∧ decode cX9_turningRoot 23 = .ok (.iconst 0, 1) ∧ decode cX9_turningRoot 24 = .ok (.invokevirtual 117, 3) ∧ decode cX9_turningRoot 27 = .ok (.ifCond .eq 12, 3) ∧ decode cX9_turningRoot 30 = .ok (.aload_n 0, 1) ∧ decode cX9_turningRoot 31 = .ok (.getfield 7, 3) ∧ decode cX9_turningRoot 34 = .ok (.iload_n 1, 1) ∧ decode cX9_turningRoot 35 = .ok (.iaload, 1) ∧ decode cX9_turningRoot 36 = .ok (.goto 4, 3) ∧ decode cX9_turningRoot 39 = .ok (.iconst 0, 1) ∧ decode cX9_turningRoot 40 = .ok (.ireturn, 1) := by decide +kernel
theorem D_X9_turns_0 : decode cX9_turns 0 = .ok (.aload_n 0, 1) ∧ decode cX9_turns 1 = .ok (.iconst 0, 1) ∧ decode cX9_turns 2 = .ok (.putfield 44, 3) ∧ decode cX9_turns 5 = .ok (.aload_n 0, 1) ∧ decode cX9_turns 6 = .ok (.getfield 90, 3) ∧ decode cX9_turns 9 = .ok (.ireturn, 1) := by decide +kernel
theorem D_X9_entries_0 : decode cX9_entries 0 = .ok (.aload_n 0, 1) ∧ decode cX9_entries 1 = .ok (.iconst 0, 1) ∧ decode cX9_entries 2 = .ok (.putfield 44, 3) ∧ decode cX9_entries 5 = .ok (.aload_n 0, 1) ∧ decode cX9_entries 6 = .ok (.getfield 60, 3) ∧ decode cX9_entries 9 = .ok (.ireturn, 1) := by decide +kernel
theorem D_X9_partOf_0 : decode cX9_partOf 0 = .ok (.aload_n 0, 1) ∧ decode cX9_partOf 1 = .ok (.iload_n 1, 1) ∧ decode cX9_partOf 2 = .ok (.invokevirtual 146, 3) ∧ decode cX9_partOf 5 = .ok (.ifCond .eq 16, 3) ∧ decode cX9_partOf 8 = .ok (.aload_n 0, 1) ∧ decode cX9_partOf 9 = .ok (.getfield 23, 3) ∧ decode cX9_partOf 12 = .ok (.aload_n 0, 1) ∧ decode cX9_partOf 13 = .ok (.iload_n 1, 1) ∧ decode cX9_partOf 14 = .ok (.invokevirtual 110, 3) ∧ decode cX9_partOf 17 = .ok (.iaload, 1) ∧ decode cX9_partOf 18 = .ok (.goto 4, 3) ∧ decode cX9_partOf 21 = .ok (.iconst 0, 1) := by decide +kernel
theorem D_X9_partOf_1 : decode cX9_partOf 22 = .ok (.ireturn, 1) := by decide +kernel
theorem D_X9_entry_0 : decode cX9_entry 0 = .ok (.aload_n 0, 1) ∧ decode cX9_entry 1 = .ok (.iload_n 1, 1) ∧ decode cX9_entry 2 = .ok (.invokevirtual 80, 3) ∧ decode cX9_entry 5 = .ok (.istore_n 3, 1) ∧ decode cX9_entry 6 = .ok (.aload_n 0, 1) ∧ decode cX9_entry 7 = .ok (.iload_n 3, 1) ∧ decode cX9_entry 8 = .ok (.ifCond .ne 7, 3) ∧ decode cX9_entry 11 = .ok (.iconst 1, 1) ∧ decode cX9_entry 12 = .ok (.goto 17, 3) ∧ decode cX9_entry 15 = .ok (.iload_n 2, 1) ∧ decode cX9_entry 16 = .ok (.ifCond .lt 8, 3) ∧ decode cX9_entry 19 = .ok (.iload_n 2, 1) := by decide +kernel
theorem D_X9_entry_1 : decode cX9_entry 20 = .ok (.iload_n 3, 1) ∧ decode cX9_entry 21 = .ok (.if_icmp .lt 7, 3) ∧ decode cX9_entry 24 = .ok (.iconst 2, 1) ∧ decode cX9_entry 25 = .ok (.goto 4, 3) ∧ decode cX9_entry 28 = .ok (.iconst 0, 1) ∧ decode cX9_entry 29 = .ok (.invokevirtual 117, 3) ∧ decode cX9_entry 32 = .ok (.ifCond .ne 5, 3) ∧ decode cX9_entry 35 = .ok (.iconst 0, 1) ∧ decode cX9_entry 36 = .ok (.ireturn, 1) ∧ decode cX9_entry 37 = .ok (.iload_n 2, 1) ∧ decode cX9_entry 38 = .ok (.istore 4, 2) ∧ decode cX9_entry 40 = .ok (.iconst 0, 1) := by decide +kernel
theorem D_X9_entry_2 : decode cX9_entry 41 = .ok (.istore 5, 2) ∧ decode cX9_entry 43 = .ok (.iload 4, 2) ∧ decode cX9_entry 45 = .ok (.ifCond .gt 14, 3) ∧ decode cX9_entry 48 = .ok (.aload_n 0, 1) ∧ decode cX9_entry 49 = .ok (.getfield 23, 3) ∧ decode cX9_entry 52 = .ok (.iload 5, 2) ∧ decode cX9_entry 54 = .ok (.iaload, 1) ∧ decode cX9_entry 55 = .ok (.iload_n 1, 1) ∧ decode cX9_entry 56 = .ok (.if_icmp .eq 30, 3) ∧ decode cX9_entry 59 = .ok (.iload 4, 2) ∧ decode cX9_entry 61 = .ok (.aload_n 0, 1) ∧ decode cX9_entry 62 = .ok (.getfield 23, 3) := by decide +kernel
theorem D_X9_entry_3 : decode cX9_entry 65 = .ok (.iload 5, 2) ∧ decode cX9_entry 67 = .ok (.iaload, 1) ∧ decode cX9_entry 68 = .ok (.iload_n 1, 1) ∧ decode cX9_entry 69 = .ok (.if_icmp .ne 7, 3) ∧ decode cX9_entry 72 = .ok (.iconst 1, 1) ∧ decode cX9_entry 73 = .ok (.goto 4, 3) ∧ decode cX9_entry 76 = .ok (.iconst 0, 1) ∧ decode cX9_entry 77 = .ok (.isub, 1) ∧ decode cX9_entry 78 = .ok (.istore 4, 2) ∧ decode cX9_entry 80 = .ok (.iinc 5 1, 3) ∧ decode cX9_entry 83 = .ok (.goto (-40), 3) ∧ decode cX9_entry 86 = .ok (.aload_n 0, 1) := by decide +kernel
theorem D_X9_entry_4 : decode cX9_entry 87 = .ok (.getfield 7, 3) ∧ decode cX9_entry 90 = .ok (.iload 5, 2) ∧ decode cX9_entry 92 = .ok (.iaload, 1) ∧ decode cX9_entry 93 = .ok (.ireturn, 1) := by decide +kernel
theorem D_X9_merges_0 : decode cX9_merges 0 = .ok (.aload_n 0, 1) ∧ decode cX9_merges 1 = .ok (.iconst 0, 1) ∧ decode cX9_merges 2 = .ok (.putfield 44, 3) ∧ decode cX9_merges 5 = .ok (.aload_n 0, 1) ∧ decode cX9_merges 6 = .ok (.getfield 83, 3) ∧ decode cX9_merges 9 = .ok (.ireturn, 1) := by decide +kernel
abbrev rm_X9_contains : Room := { frames := 1, cells := 0, slots := 0, locals := 23 }
set_option maxHeartbeats 4000000 in
set_option maxRecDepth 100000 in
theorem c_X9_contains (l : Launch) (G : xG) {K N : Nat → Nat} {I : Nat → Nat → Int32} {Q : Nat → Nat → Option Nat} {J : Nat → Nat → Int64} (m n : Nat) (ar kc sp tu pt : Nat → Nat) (al : Nat → Bool) (x : Int32) (hM : MZ K N Q m ar) (hK : KV I m ar n kc al sp tu pt)  : XM l yX9_contains cX9_contains 3 (some .boolean) rm_X9_contains G Rz [.ref m, .int x] (K, N, I, Q, J) (fun r S1 => r = ((lastF (fun i => decide (I (ar 5) i = x)) n).map al).getD false ∧ S1 = (K, N, x_u2 I m 18 (nI 0), Q, J)) := by
  refine x_metz (lv := [_, _, _]) (by decide +kernel) (x_cc (by first | rfl | exact x_crf _) (x_cc (by first | rfl | exact x_crf _) x_cn)) (Nat.le_of_ble_eq_true rfl) rfl ?_
  intro pP eE sS mM aA bB hH cC Z C hini ret
  have hk9 := hM.1
  obtain ⟨hn, hn201, hk5, hk6, hk7, hk8, hk9_⟩ := hK
  have h202 := hM.nk 6 (by decide)
  have hm5 := hM.nm 5 (by decide)
  have hm6 := hM.nm 6 (by decide)
  have hm7 := hM.nm 7 (by decide)
  have hm8 := hM.nm 8 (by decide)
  have hm9 := hM.nm 9 (by decide)
  obtain ⟨o, hnd⟩ : ∃ o, (lastF (fun i => decide (I (ar 5) i = x)) n) = o := ⟨_, rfl⟩
  refine x_aload_n C D_X9_contains_0.1 rfl rfl (by first | exact Or.inr ⟨_, rfl⟩ | exact va_rf_or _ | exact Or.inl rfl) ?_
  refine x_iconst C (v := nI 0) D_X9_contains_0.2.1 (by decide +kernel) ?_
  refine x_putI C (ci := 8) (k0 := 18) (by assumption) (by decide) rfl (by decide) in_X9 k_920 rfl tyX9 tyX9_ok nmX9 rfl (by rfl) rfl rfl rfl D_X9_contains_0.2.2.1 (fun I2 eI2 => ?_)
  have i2 : ∀ a, a ≠ m → I2 a = I a := fun a ha => by rw [eI2, x_u2_a _ _ ha]
  have hn1 : I2 m 0 = nI n := by rw [eI2, x_u2_j _ _ (by omega)]; exact hn
  have h6 : ∀ i, i < n → I2 (ar 6) i = xb (al i) := fun i hi => by rw [i2 _ hm6]; exact hk6 i hi
  refine x_aload_n C D_X9_contains_0.2.2.2.1 rfl rfl (by first | exact Or.inr ⟨_, rfl⟩ | exact va_rf_or _ | exact Or.inl rfl) ?_
  refine x_iload_n C D_X9_contains_0.2.2.2.2.1 rfl rfl ?_
  refine x_callVi C (y := yX9_nodeOf) (c_X9_nodeOf l G m n ar x hM hn1 (by omega)) (ci := 8) hM.1 (by decide) rfl rfl k_970 k_972 k_35 k_67 k_973 hd_X9_nodeOf ⟨(Nat.le_of_ble_eq_true rfl), (Nat.le_of_ble_eq_true rfl)⟩ rfl (by first | exact Nat.le_of_ble_eq_true rfl | simp [x_crf, Value.category]) rfl rfl D_X9_contains_0.2.2.2.2.2.1 ⟨(Nat.le_of_ble_eq_true rfl), (Nat.le_of_ble_eq_true rfl)⟩ (fun r_7 S_7 h_7 => ?_)
  obtain ⟨rfl, rfl⟩ := h_7
  refine x_eqi (oI o) (by rw [show (fun i => decide (I2 (ar 5) i = x)) = (fun i => decide (I (ar 5) i = x)) by rw [i2 _ hm5], hnd]) ?_
  refine x_istore_n C (lv' := [_, _, _]) D_X9_contains_0.2.2.2.2.2.2.1 rfl (Nat.le_of_ble_eq_true rfl) (by first | rfl | exact x_ok_q rfl) rfl ?_
  refine x_iload_n C D_X9_contains_0.2.2.2.2.2.2.2.1 rfl rfl ?_
  refine x_iconst C (v := (-1)) D_X9_contains_0.2.2.2.2.2.2.2.2.1 (by decide +kernel) ?_
  refine x_icmp_eq C 29 D_X9_contains_0.2.2.2.2.2.2.2.2.2.1 (by decide) (fun c_13 => ?_) (fun c_13 => ?_)
  · skip
    have ho : o = none := oI_none c_13 (fun k hk => by have := (lastF_lt (hnd.trans hk)).1; omega)
    refine x_iconst C (v := nI 0) D_X9_contains_1.2.2.2.2.2.1 (by decide +kernel) ?_
    refine ret _ _ _ _ _ _ false rfl D_X9_contains_1.2.2.2.2.2.2 (Nat.le_of_ble_eq_true rfl) (Nat.le_of_ble_eq_true rfl) rfl ?_
    exact ⟨by rw [hnd, ho]; rfl, by rw [eI2]⟩
  · skip
    obtain ⟨k, ho⟩ := oI_some c_13
    subst ho
    have hkn := (lastF_lt hnd).1
    refine x_aload_n C D_X9_contains_0.2.2.2.2.2.2.2.2.2.2.1 rfl rfl (by first | exact Or.inr ⟨_, rfl⟩ | exact va_rf_or _ | exact Or.inl rfl) ?_
    refine x_getQ C (ci := 8) (k0 := 6) (by assumption) (by decide) rfl (by decide) in_X9 k_908 rfl rfl D_X9_contains_0.2.2.2.2.2.2.2.2.2.2.2 ?_
    refine x_eqr (hM.2.1 6 (by decide)).1 ?_
    refine x_iload_n C D_X9_contains_1.1 rfl rfl ?_
    refine x_zald C _ (by first | assumption | exact (hM.2.1 _ (by decide)).2.1) rfl (by first | omega | (rw [hM.nk _ (by decide)]; omega) | (rw [hM.np _ (by decide)]; omega)) (by first | omega | (rw [hM.nk _ (by decide)]; omega) | (rw [hM.np _ (by decide)]; omega)) D_X9_contains_1.2.1 ?_
    refine x_eqi _ (h6 k hkn) ?_
    refine x_if_eq C 29 D_X9_contains_1.2.2.1 (by decide) (fun c_22 => ?_) (fun c_22 => ?_)
    · skip
      first
      | have d_22 := cz_eq c_22 (by omega)
      | have d_22 := cb_eq c_22
      | skip
      refine x_iconst C (v := nI 0) D_X9_contains_1.2.2.2.2.2.1 (by decide +kernel) ?_
      refine ret _ _ _ _ _ _ false rfl D_X9_contains_1.2.2.2.2.2.2 (Nat.le_of_ble_eq_true rfl) (Nat.le_of_ble_eq_true rfl) rfl ?_
      exact ⟨by rw [hnd]; simp [d_22], by rw [eI2]⟩
    · skip
      first
      | have d_22 := cz_ne c_22 (by omega)
      | have d_22 := cb_ne c_22
      | skip
      refine x_iconst C (v := nI 1) D_X9_contains_1.2.2.2.1 (by decide +kernel) ?_
      refine x_goto C 30 D_X9_contains_1.2.2.2.2.1 (by decide) ?_
      refine ret _ _ _ _ _ _ true rfl D_X9_contains_1.2.2.2.2.2.2 (Nat.le_of_ble_eq_true rfl) (Nat.le_of_ble_eq_true rfl) rfl ?_
      exact ⟨by rw [hnd]; simp [d_22], by rw [eI2]⟩
abbrev rm_X9_size : Room := { frames := 1, cells := 0, slots := 0, locals := 22 }
set_option maxHeartbeats 4000000 in
set_option maxRecDepth 100000 in
theorem c_X9_size (l : Launch) (G : xG) {K N : Nat → Nat} {I : Nat → Nat → Int32} {Q : Nat → Nat → Option Nat} {J : Nat → Nat → Int64} (m n : Nat) (ar kc sp tu pt : Nat → Nat) (al : Nat → Bool) (hM : MZ K N Q m ar) (hK : KV I m ar n kc al sp tu pt)  : XM l yX9_size cX9_size 1 (some .int) rm_X9_size G Ri [.ref m] (K, N, I, Q, J) (fun r S1 => r = nI (cn al n) ∧ S1 = (K, N, x_u2 I m 18 (nI 0), Q, J)) := by
  refine x_meti (lv := [_]) (by decide +kernel) (x_cc (by first | rfl | exact x_crf _) x_cn) (Nat.le_of_ble_eq_true rfl) rfl ?_
  intro pP eE sS mM aA bB hH cC Z C hini ret
  have hk9 := hM.1
  obtain ⟨hn, hn201, hk5, hk6, hk7, hk8, hk9_⟩ := hK
  have h202 := hM.nk 6 (by decide)
  have hm5 := hM.nm 5 (by decide)
  have hm6 := hM.nm 6 (by decide)
  have hm7 := hM.nm 7 (by decide)
  have hm8 := hM.nm 8 (by decide)
  have hm9 := hM.nm 9 (by decide)
  refine x_aload_n C D_X9_size_0.1 rfl rfl (by first | exact Or.inr ⟨_, rfl⟩ | exact va_rf_or _ | exact Or.inl rfl) ?_
  refine x_iconst C (v := nI 0) D_X9_size_0.2.1 (by decide +kernel) ?_
  refine x_putI C (ci := 8) (k0 := 18) (by assumption) (by decide) rfl (by decide) in_X9 k_920 rfl tyX9 tyX9_ok nmX9 rfl (by rfl) rfl rfl rfl D_X9_size_0.2.2.1 (fun I2 eI2 => ?_)
  have i2 : ∀ a, a ≠ m → I2 a = I a := fun a ha => by rw [eI2, x_u2_a _ _ ha]
  have hn1 : I2 m 0 = nI n := by rw [eI2, x_u2_j _ _ (by omega)]; exact hn
  have h6 : ∀ i, i < n → I2 (ar 6) i = xb (al i) := fun i hi => by rw [i2 _ hm6]; exact hk6 i hi
  refine x_aload_n C D_X9_size_0.2.2.2.1 rfl rfl (by first | exact Or.inr ⟨_, rfl⟩ | exact va_rf_or _ | exact Or.inl rfl) ?_
  refine x_callVi C (y := yX9_living) (c_X9_living l G m n ar al hM hn1 (by omega) h6) (ci := 8) hM.1 (by decide) rfl rfl k_974 k_976 k_36 k_67 k_977 hd_X9_living ⟨(Nat.le_of_ble_eq_true rfl), (Nat.le_of_ble_eq_true rfl)⟩ rfl (by first | exact Nat.le_of_ble_eq_true rfl | simp [x_crf, Value.category]) rfl rfl D_X9_size_0.2.2.2.2.1 ⟨(Nat.le_of_ble_eq_true rfl), (Nat.le_of_ble_eq_true rfl)⟩ (fun r_6 S_6 h_6 => ?_)
  obtain ⟨rfl, rfl⟩ := h_6
  refine ret _ _ _ _ _ _ rfl D_X9_size_0.2.2.2.2.2 (Nat.le_of_ble_eq_true rfl) (Nat.le_of_ble_eq_true rfl) ?_
  exact ⟨rfl, by rw [eI2]⟩
abbrev rm_X9_rank : Room := { frames := 0, cells := 0, slots := 0, locals := 0 }
set_option maxHeartbeats 4000000 in
set_option maxRecDepth 100000 in
theorem c_X9_rank (l : Launch) (G : xG) {K N : Nat → Nat} {I : Nat → Nat → Int32} {Q : Nat → Nat → Option Nat} {J : Nat → Nat → Int64} (m n : Nat) (ar kc sp tu pt : Nat → Nat) (al : Nat → Bool) (x : Int32) (hM : MZ K N Q m ar) (hK : KV I m ar n kc al sp tu pt)  : XM l yX9_rank cX9_rank 4 (some .int) rm_X9_rank G Ri [.ref m, .int x] (K, N, I, Q, J) (fun r S1 => r = nI (cn (fun i => al i && decide (I (ar 5) i < x)) n) ∧ S1 = (K, N, x_u2 I m 18 (nI 0), Q, J)) := by
  refine x_meti (lv := [_, _, _, _]) (by decide +kernel) (x_cc (by first | rfl | exact x_crf _) (x_cc (by first | rfl | exact x_crf _) x_cn)) (Nat.le_of_ble_eq_true rfl) rfl ?_
  intro pP eE sS mM aA bB hH cC Z C hini ret
  have hk9 := hM.1
  obtain ⟨hn, hn201, hk5, hk6, hk7, hk8, hk9_⟩ := hK
  have h202 := hM.nk 6 (by decide)
  have hm5 := hM.nm 5 (by decide)
  have hm6 := hM.nm 6 (by decide)
  have hm7 := hM.nm 7 (by decide)
  have hm8 := hM.nm 8 (by decide)
  have hm9 := hM.nm 9 (by decide)
  refine x_aload_n C D_X9_rank_0.1 rfl rfl (by first | exact Or.inr ⟨_, rfl⟩ | exact va_rf_or _ | exact Or.inl rfl) ?_
  refine x_iconst C (v := nI 0) D_X9_rank_0.2.1 (by decide +kernel) ?_
  refine x_putI C (ci := 8) (k0 := 18) (by assumption) (by decide) rfl (by decide) in_X9 k_920 rfl tyX9 tyX9_ok nmX9 rfl (by rfl) rfl rfl rfl D_X9_rank_0.2.2.1 (fun I2 eI2 => ?_)
  have i2 : ∀ a, a ≠ m → I2 a = I a := fun a ha => by rw [eI2, x_u2_a _ _ ha]
  have hn1 : I2 m 0 = nI n := by rw [eI2, x_u2_j _ _ (by omega)]; exact hn
  have h6 : ∀ i, i < n → I2 (ar 6) i = xb (al i) := fun i hi => by rw [i2 _ hm6]; exact hk6 i hi
  refine x_iconst C (v := nI 0) D_X9_rank_0.2.2.2.1 (by decide +kernel) ?_
  refine x_istore_n C (lv' := [_, _, _, _]) D_X9_rank_0.2.2.2.2.1 rfl (Nat.le_of_ble_eq_true rfl) (by first | rfl | exact x_ok_q rfl) rfl ?_
  refine x_iconst C (v := nI 0) D_X9_rank_0.2.2.2.2.2.1 (by decide +kernel) ?_
  refine x_istore_n C (lv' := [_, _, _, _]) D_X9_rank_0.2.2.2.2.2.2.1 rfl (Nat.le_of_ble_eq_true rfl) (by first | rfl | exact x_ok_q rfl) rfl ?_
  have L_9 : ∀ (w_9 : Nat) (k0 : Nat), n - k0 < w_9 → (k0 ≤ n) → XW pP l eE rm_X9_rank sS mM aA bB hH cC G Z 0 0 (K, N, I2, Q, J) 9 [some (.ref m), some (.int x), some (.int (nI (cn (fun i => al i && decide (I (ar 5) i < x)) k0))), some (.int (nI k0))] [] := by
    intro w_9
    induction w_9 with
    | zero =>
      intro k0 hw_9
      exact absurd hw_9 (Nat.not_lt_zero _)
    | succ w_9 ih_9 =>
      intro k0 hw_9 hk0
      refine x_iload_n C D_X9_rank_0.2.2.2.2.2.2.2.1 rfl rfl ?_
      refine x_aload_n C D_X9_rank_0.2.2.2.2.2.2.2.2.1 rfl rfl (by first | exact Or.inr ⟨_, rfl⟩ | exact va_rf_or _ | exact Or.inl rfl) ?_
      refine x_getI C (ci := 8) (k0 := 0) (by assumption) (by decide) rfl (by decide) in_X9 k_902 rfl rfl D_X9_rank_0.2.2.2.2.2.2.2.2.2.1 ?_
      first
      | refine x_eqi _ (hn1) ?_
      | refine x_eqi _ (h6 _ (by omega)) ?_
      | skip
      refine x_icmp_ge C 50 D_X9_rank_0.2.2.2.2.2.2.2.2.2.2.1 (by decide) (fun c_14 => ?_) (fun c_14 => ?_)
      · skip
        first
        | have d_14 := cv_le c_14 (by omega) (by omega)
        | skip
        obtain rfl : k0 = n := by omega
        refine x_iload_n C D_X9_rank_2.2.2.2.2.2.2.1 rfl rfl ?_
        refine ret _ _ _ _ _ _ rfl D_X9_rank_2.2.2.2.2.2.2.2 (Nat.le_of_ble_eq_true rfl) (Nat.le_of_ble_eq_true rfl) ?_
        exact ⟨rfl, by rw [eI2]⟩
      · skip
        first
        | have d_14 := cv_nle c_14 (by omega) (by omega)
        | skip
        have hcl := cn_le (fun i => al i && decide (I (ar 5) i < x)) k0
        refine x_iload_n C D_X9_rank_0.2.2.2.2.2.2.2.2.2.2.2 rfl rfl ?_
        refine x_aload_n C D_X9_rank_1.1 rfl rfl (by first | exact Or.inr ⟨_, rfl⟩ | exact va_rf_or _ | exact Or.inl rfl) ?_
        refine x_getQ C (ci := 8) (k0 := 6) (by assumption) (by decide) rfl (by decide) in_X9 k_908 rfl rfl D_X9_rank_1.2.1 ?_
        refine x_eqr (hM.2.1 6 (by decide)).1 ?_
        refine x_iload_n C D_X9_rank_1.2.2.1 rfl rfl ?_
        refine x_zald C _ (by first | assumption | exact (hM.2.1 _ (by decide)).2.1) rfl (by first | omega | (rw [hM.nk _ (by decide)]; omega) | (rw [hM.np _ (by decide)]; omega)) (by first | omega | (rw [hM.nk _ (by decide)]; omega) | (rw [hM.np _ (by decide)]; omega)) D_X9_rank_1.2.2.2.1 ?_
        first
        | refine x_eqi _ (hn1) ?_
        | refine x_eqi _ (h6 _ (by omega)) ?_
        | skip
        refine x_if_eq C 41 D_X9_rank_1.2.2.2.2.1 (by decide) (fun c_24 => ?_) (fun c_24 => ?_)
        · skip
          first
          | have d_24 := cz_eq c_24 (by omega)
          | have d_24 := cb_eq c_24
          | skip
          have hs : cn (fun i => al i && decide (I (ar 5) i < x)) (k0 + 1) = cn (fun i => al i && decide (I (ar 5) i < x)) k0 + 0 := by simp [cn, d_24]
          refine x_iconst C (v := nI 0) D_X9_rank_2.2.1 (by decide +kernel) ?_
          refine x_iadd C D_X9_rank_2.2.2.1 ?_
          first
          | refine x_eqi _ (nI_add _ _) ?_
          | skip
          refine x_istore_n C (lv' := [_, _, _, _]) D_X9_rank_2.2.2.2.1 rfl (Nat.le_of_ble_eq_true rfl) (by first | rfl | exact x_ok_q rfl) rfl ?_
          first
          | refine x_iinc C (lv' := [_, _, _, _]) D_X9_rank_2.2.2.2.2.1 rfl (x_incN_1 _) (by first | rfl | exact x_ok_q rfl) rfl ?_
          | refine x_iinc C (lv' := [_, _, _, _]) D_X9_rank_2.2.2.2.2.1 rfl (x_inc_1 _) (by first | rfl | exact x_ok_q rfl) rfl ?_
          refine x_goto C 9 D_X9_rank_2.2.2.2.2.2.1 (by decide) ?_
          rw [← hs]
          exact ih_9 (k0 + 1) (by omega) (by omega)
        · skip
          first
          | have d_24 := cz_ne c_24 (by omega)
          | have d_24 := cb_ne c_24
          | skip
          refine x_aload_n C D_X9_rank_1.2.2.2.2.2.1 rfl rfl (by first | exact Or.inr ⟨_, rfl⟩ | exact va_rf_or _ | exact Or.inl rfl) ?_
          refine x_getQ C (ci := 8) (k0 := 5) (by assumption) (by decide) rfl (by decide) in_X9 k_907 rfl rfl D_X9_rank_1.2.2.2.2.2.2.1 ?_
          refine x_eqr (hM.2.1 5 (by decide)).1 ?_
          refine x_iload_n C D_X9_rank_1.2.2.2.2.2.2.2.1 rfl rfl ?_
          refine x_iald C _ (by first | assumption | exact (hM.2.1 _ (by decide)).2.1) rfl (by first | omega | (rw [hM.nk _ (by decide)]; omega) | (rw [hM.np _ (by decide)]; omega)) (by first | omega | (rw [hM.nk _ (by decide)]; omega) | (rw [hM.np _ (by decide)]; omega)) D_X9_rank_1.2.2.2.2.2.2.2.2.1 ?_
          refine x_eqi _ (show I2 (ar 5) k0 = I (ar 5) k0 by rw [i2 _ hm5]) ?_
          refine x_iload_n C D_X9_rank_1.2.2.2.2.2.2.2.2.2.1 rfl rfl ?_
          refine x_icmp_ge C 41 D_X9_rank_1.2.2.2.2.2.2.2.2.2.2.1 (by decide) (fun c_34 => ?_) (fun c_34 => ?_)
          · skip
            have hs : cn (fun i => al i && decide (I (ar 5) i < x)) (k0 + 1) = cn (fun i => al i && decide (I (ar 5) i < x)) k0 + 0 := by
              have h9 : ¬ I (ar 5) k0 < x := by
                rw [i32_le] at c_34
                rw [i32_lt]; omega
              simp [cn, h9]
            refine x_iconst C (v := nI 0) D_X9_rank_2.2.1 (by decide +kernel) ?_
            refine x_iadd C D_X9_rank_2.2.2.1 ?_
            first
            | refine x_eqi _ (nI_add _ _) ?_
            | skip
            refine x_istore_n C (lv' := [_, _, _, _]) D_X9_rank_2.2.2.2.1 rfl (Nat.le_of_ble_eq_true rfl) (by first | rfl | exact x_ok_q rfl) rfl ?_
            first
            | refine x_iinc C (lv' := [_, _, _, _]) D_X9_rank_2.2.2.2.2.1 rfl (x_incN_1 _) (by first | rfl | exact x_ok_q rfl) rfl ?_
            | refine x_iinc C (lv' := [_, _, _, _]) D_X9_rank_2.2.2.2.2.1 rfl (x_inc_1 _) (by first | rfl | exact x_ok_q rfl) rfl ?_
            refine x_goto C 9 D_X9_rank_2.2.2.2.2.2.1 (by decide) ?_
            rw [← hs]
            exact ih_9 (k0 + 1) (by omega) (by omega)
          · skip
            have hs : cn (fun i => al i && decide (I (ar 5) i < x)) (k0 + 1) = cn (fun i => al i && decide (I (ar 5) i < x)) k0 + 1 := by
              have h9 : I (ar 5) k0 < x := by
                rw [i32_le] at c_34
                rw [i32_lt]; omega
              simp [cn, h9, d_24]
            refine x_iconst C (v := nI 1) D_X9_rank_1.2.2.2.2.2.2.2.2.2.2.2 (by decide +kernel) ?_
            refine x_goto C 42 D_X9_rank_2.1 (by decide) ?_
            refine x_iadd C D_X9_rank_2.2.2.1 ?_
            first
            | refine x_eqi _ (nI_add _ _) ?_
            | skip
            refine x_istore_n C (lv' := [_, _, _, _]) D_X9_rank_2.2.2.2.1 rfl (Nat.le_of_ble_eq_true rfl) (by first | rfl | exact x_ok_q rfl) rfl ?_
            first
            | refine x_iinc C (lv' := [_, _, _, _]) D_X9_rank_2.2.2.2.2.1 rfl (x_incN_1 _) (by first | rfl | exact x_ok_q rfl) rfl ?_
            | refine x_iinc C (lv' := [_, _, _, _]) D_X9_rank_2.2.2.2.2.1 rfl (x_inc_1 _) (by first | rfl | exact x_ok_q rfl) rfl ?_
            refine x_goto C 9 D_X9_rank_2.2.2.2.2.2.1 (by decide) ?_
            rw [← hs]
            exact ih_9 (k0 + 1) (by omega) (by omega)
  exact L_9 _ 0 (Nat.lt_succ_self _) (Nat.zero_le _)
abbrev rm_X9_keyAtX : Room := { frames := 1, cells := 0, slots := 0, locals := 22 }
set_option maxHeartbeats 4000000 in
set_option maxRecDepth 100000 in
theorem c_X9_keyAtX (l : Launch) (G : xG) {K N : Nat → Nat} {I : Nat → Nat → Int32} {Q : Nat → Nat → Option Nat} {J : Nat → Nat → Int64} (m n : Nat) (ar kc sp tu pt : Nat → Nat) (al : Nat → Bool) (x : Int32) (hM : MZ K N Q m ar) (hK : KV I m ar n kc al sp tu pt) (hx : x < 0 ∨ nI (cn al n) ≤ x) : XM l yX9_keyAt cX9_keyAt 4 (some .int) rm_X9_keyAtX G Ri [.ref m, .int x] (K, N, I, Q, J) (fun r S1 => r = nI 0 ∧ S1 = (K, N, x_u2 I m 18 (nI 1), Q, J)) := by
  refine x_meti (lv := [_, _, _, _]) (by decide +kernel) (x_cc (by first | rfl | exact x_crf _) (x_cc (by first | rfl | exact x_crf _) x_cn)) (Nat.le_of_ble_eq_true rfl) rfl ?_
  intro pP eE sS mM aA bB hH cC Z C hini ret
  have hk9 := hM.1
  obtain ⟨hn, hn201, hk5, hk6, hk7, hk8, hk9_⟩ := hK
  have h202 := hM.nk 6 (by decide)
  have hm5 := hM.nm 5 (by decide)
  have hm6 := hM.nm 6 (by decide)
  have hm7 := hM.nm 7 (by decide)
  have hm8 := hM.nm 8 (by decide)
  have hm9 := hM.nm 9 (by decide)
  refine x_aload_n C D_X9_keyAt_0.1 rfl rfl (by first | exact Or.inr ⟨_, rfl⟩ | exact va_rf_or _ | exact Or.inl rfl) ?_
  refine x_iload_n C D_X9_keyAt_0.2.1 rfl rfl ?_
  refine x_if_lt C 13 D_X9_keyAt_0.2.2.1 (by decide) (fun c_2 => ?_) (fun c_2 => ?_)
  · skip
    refine x_iconst C (v := nI 1) D_X9_keyAt_0.2.2.2.2.2.2.2.1 (by decide +kernel) ?_
    refine x_goto C 18 D_X9_keyAt_0.2.2.2.2.2.2.2.2.1 (by decide) ?_
    refine x_callVz C (y := yX9_can) (c_X9_can l G m _ hM.1) (ci := 8) hM.1 (by decide) rfl rfl k_978 k_980 k_37 k_67 k_981 hd_X9_can ⟨(Nat.le_of_ble_eq_true rfl), (Nat.le_of_ble_eq_true rfl)⟩ rfl (by first | exact Nat.le_of_ble_eq_true rfl | simp [x_crf, Value.category]) rfl rfl D_X9_keyAt_0.2.2.2.2.2.2.2.2.2.2.1 ⟨(Nat.le_of_ble_eq_true rfl), (Nat.le_of_ble_eq_true rfl)⟩ (fun r_18 S_18 h_18 => ?_)
    obtain ⟨rfl, rfl⟩ := h_18
    refine x_if_ne C 26 D_X9_keyAt_0.2.2.2.2.2.2.2.2.2.2.2 (by decide) (fun c_21 => ?_) (fun c_21 => ?_)
    · skip
      exact absurd c_21 (by decide)
    · skip
      first
      | have d_21 := cz_eq c_21 (by omega)
      | have d_21 := cb_eq c_21
      | skip
      refine x_iconst C (v := nI 0) D_X9_keyAt_1.1 (by decide +kernel) ?_
      refine ret _ _ _ _ _ _ rfl D_X9_keyAt_1.2.1 (Nat.le_of_ble_eq_true rfl) (Nat.le_of_ble_eq_true rfl) ?_
      exact ⟨rfl, rfl⟩
  · skip
    refine x_iload_n C D_X9_keyAt_0.2.2.2.1 rfl rfl ?_
    refine x_aload_n C D_X9_keyAt_0.2.2.2.2.1 rfl rfl (by first | exact Or.inr ⟨_, rfl⟩ | exact va_rf_or _ | exact Or.inl rfl) ?_
    refine x_callVi C (y := yX9_living) (c_X9_living l G m n ar al hM hn (by omega) hk6) (ci := 8) hM.1 (by decide) rfl rfl k_974 k_976 k_36 k_67 k_977 hd_X9_living ⟨(Nat.le_of_ble_eq_true rfl), (Nat.le_of_ble_eq_true rfl)⟩ rfl (by first | exact Nat.le_of_ble_eq_true rfl | simp [x_crf, Value.category]) rfl rfl D_X9_keyAt_0.2.2.2.2.2.1 ⟨(Nat.le_of_ble_eq_true rfl), (Nat.le_of_ble_eq_true rfl)⟩ (fun r_7 S_7 h_7 => ?_)
    obtain ⟨rfl, rfl⟩ := h_7
    refine x_icmp_lt C 17 D_X9_keyAt_0.2.2.2.2.2.2.1 (by decide) (fun c_10 => ?_) (fun c_10 => ?_)
    · skip
      exfalso
      rcases hx with h | h
      · exact c_2 h
      · rw [i32_lt] at c_10; rw [i32_le] at h; omega
      --end
    · skip
      refine x_iconst C (v := nI 1) D_X9_keyAt_0.2.2.2.2.2.2.2.1 (by decide +kernel) ?_
      refine x_goto C 18 D_X9_keyAt_0.2.2.2.2.2.2.2.2.1 (by decide) ?_
      refine x_callVz C (y := yX9_can) (c_X9_can l G m _ hM.1) (ci := 8) hM.1 (by decide) rfl rfl k_978 k_980 k_37 k_67 k_981 hd_X9_can ⟨(Nat.le_of_ble_eq_true rfl), (Nat.le_of_ble_eq_true rfl)⟩ rfl (by first | exact Nat.le_of_ble_eq_true rfl | simp [x_crf, Value.category]) rfl rfl D_X9_keyAt_0.2.2.2.2.2.2.2.2.2.2.1 ⟨(Nat.le_of_ble_eq_true rfl), (Nat.le_of_ble_eq_true rfl)⟩ (fun r_18 S_18 h_18 => ?_)
      obtain ⟨rfl, rfl⟩ := h_18
      refine x_if_ne C 26 D_X9_keyAt_0.2.2.2.2.2.2.2.2.2.2.2 (by decide) (fun c_21 => ?_) (fun c_21 => ?_)
      · skip
        exact absurd c_21 (by decide)
      · skip
        first
        | have d_21 := cz_eq c_21 (by omega)
        | have d_21 := cb_eq c_21
        | skip
        refine x_iconst C (v := nI 0) D_X9_keyAt_1.1 (by decide +kernel) ?_
        refine ret _ _ _ _ _ _ rfl D_X9_keyAt_1.2.1 (Nat.le_of_ble_eq_true rfl) (Nat.le_of_ble_eq_true rfl) ?_
        exact ⟨rfl, rfl⟩
abbrev rm_X9_keyAtI : Room := { frames := 1, cells := 0, slots := 0, locals := 22 }
set_option maxHeartbeats 4000000 in
set_option maxRecDepth 100000 in
theorem c_X9_keyAtI (l : Launch) (G : xG) {K N : Nat → Nat} {I : Nat → Nat → Int32} {Q : Nat → Nat → Option Nat} {J : Nat → Nat → Int64} (m n : Nat) (ar kc sp tu pt : Nat → Nat) (al : Nat → Bool) (j : Nat) (hM : MZ K N Q m ar) (hK : KV I m ar n kc al sp tu pt) (hj : j < cn al n) : XM l yX9_keyAt cX9_keyAt 4 (some .int) rm_X9_keyAtI G Ri [.ref m, .int (nI j)] (K, N, I, Q, J) (fun r S1 => r = cv1 (kc (selF al n j)) ∧ S1 = (K, N, x_u2 I m 18 (nI 0), Q, J)) := by
  refine x_meti (lv := [_, _, _, _]) (by decide +kernel) (x_cc (by first | rfl | exact x_crf _) (x_cc (by first | rfl | exact x_crf _) x_cn)) (Nat.le_of_ble_eq_true rfl) rfl ?_
  intro pP eE sS mM aA bB hH cC Z C hini ret
  have hk9 := hM.1
  obtain ⟨hn, hn201, hk5, hk6, hk7, hk8, hk9_⟩ := hK
  have h202 := hM.nk 6 (by decide)
  have hm5 := hM.nm 5 (by decide)
  have hm6 := hM.nm 6 (by decide)
  have hm7 := hM.nm 7 (by decide)
  have hm8 := hM.nm 8 (by decide)
  have hm9 := hM.nm 9 (by decide)
  have hcn := cn_le al n
  refine x_aload_n C D_X9_keyAt_0.1 rfl rfl (by first | exact Or.inr ⟨_, rfl⟩ | exact va_rf_or _ | exact Or.inl rfl) ?_
  refine x_iload_n C D_X9_keyAt_0.2.1 rfl rfl ?_
  refine x_if_lt C 13 D_X9_keyAt_0.2.2.1 (by decide) (fun c_2 => ?_) (fun c_2 => ?_)
  · skip
    exact absurd c_2 (nI_pos (by omega))
    --end
  · skip
    refine x_iload_n C D_X9_keyAt_0.2.2.2.1 rfl rfl ?_
    refine x_aload_n C D_X9_keyAt_0.2.2.2.2.1 rfl rfl (by first | exact Or.inr ⟨_, rfl⟩ | exact va_rf_or _ | exact Or.inl rfl) ?_
    refine x_callVi C (y := yX9_living) (c_X9_living l G m n ar al hM hn (by omega) hk6) (ci := 8) hM.1 (by decide) rfl rfl k_974 k_976 k_36 k_67 k_977 hd_X9_living ⟨(Nat.le_of_ble_eq_true rfl), (Nat.le_of_ble_eq_true rfl)⟩ rfl (by first | exact Nat.le_of_ble_eq_true rfl | simp [x_crf, Value.category]) rfl rfl D_X9_keyAt_0.2.2.2.2.2.1 ⟨(Nat.le_of_ble_eq_true rfl), (Nat.le_of_ble_eq_true rfl)⟩ (fun r_7 S_7 h_7 => ?_)
    obtain ⟨rfl, rfl⟩ := h_7
    refine x_icmp_lt C 17 D_X9_keyAt_0.2.2.2.2.2.2.1 (by decide) (fun c_10 => ?_) (fun c_10 => ?_)
    · skip
      first
      | have d_10 := cv_lt c_10 (by omega) (by omega)
      | skip
      refine x_iconst C (v := nI 0) D_X9_keyAt_0.2.2.2.2.2.2.2.2.2.1 (by decide +kernel) ?_
      refine x_callVz C (y := yX9_can) (c_X9_can l G m _ hM.1) (ci := 8) hM.1 (by decide) rfl rfl k_978 k_980 k_37 k_67 k_981 hd_X9_can ⟨(Nat.le_of_ble_eq_true rfl), (Nat.le_of_ble_eq_true rfl)⟩ rfl (by first | exact Nat.le_of_ble_eq_true rfl | simp [x_crf, Value.category]) rfl rfl D_X9_keyAt_0.2.2.2.2.2.2.2.2.2.2.1 ⟨(Nat.le_of_ble_eq_true rfl), (Nat.le_of_ble_eq_true rfl)⟩ (fun r_18 S_18 h_18 => ?_)
      obtain ⟨rfl, rfl⟩ := h_18
      obtain ⟨I2, eI2⟩ : ∃ I2, I2 = x_u2 I m 18 (nI 0) := ⟨_, rfl⟩
      rw [← eI2]
      have i2 : ∀ a, a ≠ m → I2 a = I a := fun a ha => by rw [eI2, x_u2_a _ _ ha]
      have hn1 : I2 m 0 = nI n := by rw [eI2, x_u2_j _ _ (by omega)]; exact hn
      have h6 : ∀ i, i < n → I2 (ar 6) i = xb (al i) := fun i hi => by rw [i2 _ hm6]; exact hk6 i hi
      refine x_if_ne C 26 D_X9_keyAt_0.2.2.2.2.2.2.2.2.2.2.2 (by decide) (fun c_21 => ?_) (fun c_21 => ?_)
      · skip
        first
        | have d_21 := cz_ne c_21 (by omega)
        | have d_21 := cb_ne c_21
        | skip
        refine x_iload_n C D_X9_keyAt_1.2.2.1 rfl rfl ?_
        refine x_istore_n C (lv' := [_, _, _, _]) D_X9_keyAt_1.2.2.2.1 rfl (Nat.le_of_ble_eq_true rfl) (by first | rfl | exact x_ok_q rfl) rfl ?_
        refine x_iconst C (v := nI 0) D_X9_keyAt_1.2.2.2.2.1 (by decide +kernel) ?_
        refine x_istore_n C (lv' := [_, _, _, _]) D_X9_keyAt_1.2.2.2.2.2.1 rfl (Nat.le_of_ble_eq_true rfl) (by first | rfl | exact x_ok_q rfl) rfl ?_
        have L_30 : ∀ (w_30 : Nat) (k0 : Nat), n - k0 < w_30 → (k0 ≤ n) → (cn al k0 ≤ j) → XW pP l eE rm_X9_keyAtI sS mM aA bB hH cC G Z 0 0 (K, N, I2, Q, J) 30 [some (.ref m), some (.int (nI j)), some (.int (nI (j - cn al k0))), some (.int (nI k0))] [] := by
          intro w_30
          induction w_30 with
          | zero =>
            intro k0 hw_30
            exact absurd hw_30 (Nat.not_lt_zero _)
          | succ w_30 ih_30 =>
            intro k0 hw_30 hk0 hle
            have hkn : k0 < n := by
              rcases Nat.lt_or_ge k0 n with h | h
              · exact h
              · obtain rfl : k0 = n := by omega
                omega
            refine x_iload_n C D_X9_keyAt_1.2.2.2.2.2.2.1 rfl rfl ?_
            refine x_if_gt C 43 D_X9_keyAt_1.2.2.2.2.2.2.2.1 (by decide) (fun c_31 => ?_) (fun c_31 => ?_)
            · skip
              first
              | have d_31 := cz_gt c_31 (by omega)
              | skip
              refine x_iload_n C D_X9_keyAt_2.2.1 rfl rfl ?_
              refine x_aload_n C D_X9_keyAt_2.2.2.1 rfl rfl (by first | exact Or.inr ⟨_, rfl⟩ | exact va_rf_or _ | exact Or.inl rfl) ?_
              refine x_getQ C (ci := 8) (k0 := 6) (by assumption) (by decide) rfl (by decide) in_X9 k_908 rfl rfl D_X9_keyAt_2.2.2.2.1 ?_
              refine x_eqr (hM.2.1 6 (by decide)).1 ?_
              refine x_iload_n C D_X9_keyAt_2.2.2.2.2.1 rfl rfl ?_
              refine x_zald C _ (by first | assumption | exact (hM.2.1 _ (by decide)).2.1) rfl (by first | omega | (rw [hM.nk _ (by decide)]; omega) | (rw [hM.np _ (by decide)]; omega)) (by first | omega | (rw [hM.nk _ (by decide)]; omega) | (rw [hM.np _ (by decide)]; omega)) D_X9_keyAt_2.2.2.2.2.2.1 ?_
              refine x_eqi _ (h6 k0 (by omega)) ?_
              refine x_if_eq C 57 D_X9_keyAt_2.2.2.2.2.2.2.1 (by decide) (fun c_50 => ?_) (fun c_50 => ?_)
              · skip
                first
                | have d_50 := cz_eq c_50 (by omega)
                | have d_50 := cb_eq c_50
                | skip
                have hs : cn al (k0 + 1) = cn al k0 := by simp [cn, d_50]
                refine x_iconst C (v := nI 0) D_X9_keyAt_2.2.2.2.2.2.2.2.2.2.1 (by decide +kernel) ?_
                refine x_isub C D_X9_keyAt_2.2.2.2.2.2.2.2.2.2.2.1 ?_
                first
                | refine x_eqi _ (pk_sub (by omega)) ?_
                | skip
                refine x_istore_n C (lv' := [_, _, _, _]) D_X9_keyAt_2.2.2.2.2.2.2.2.2.2.2.2 rfl (Nat.le_of_ble_eq_true rfl) (by first | rfl | exact x_ok_q rfl) rfl ?_
                first
                | refine x_iinc C (lv' := [_, _, _, _]) D_X9_keyAt_3.1 rfl (x_incN_1 _) (by first | rfl | exact x_ok_q rfl) rfl ?_
                | refine x_iinc C (lv' := [_, _, _, _]) D_X9_keyAt_3.1 rfl (x_inc_1 _) (by first | rfl | exact x_ok_q rfl) rfl ?_
                refine x_goto C 30 D_X9_keyAt_3.2.1 (by decide) ?_
                refine x_lv (lv := [_, _, some (.int (nI (j - cn al (k0 + 1)))), _]) (by rw [hs]; rfl) ?_
                exact ih_30 (k0 + 1) (by omega) (by omega) (by omega)
              · skip
                first
                | have d_50 := cz_ne c_50 (by omega)
                | have d_50 := cb_ne c_50
                | skip
                have hs : cn al (k0 + 1) = cn al k0 + 1 := by simp [cn, d_50]
                refine x_iconst C (v := nI 1) D_X9_keyAt_2.2.2.2.2.2.2.2.1 (by decide +kernel) ?_
                refine x_goto C 58 D_X9_keyAt_2.2.2.2.2.2.2.2.2.1 (by decide) ?_
                refine x_isub C D_X9_keyAt_2.2.2.2.2.2.2.2.2.2.2.1 ?_
                first
                | refine x_eqi _ (pk_sub (by omega)) ?_
                | skip
                refine x_istore_n C (lv' := [_, _, _, _]) D_X9_keyAt_2.2.2.2.2.2.2.2.2.2.2.2 rfl (Nat.le_of_ble_eq_true rfl) (by first | rfl | exact x_ok_q rfl) rfl ?_
                first
                | refine x_iinc C (lv' := [_, _, _, _]) D_X9_keyAt_3.1 rfl (x_incN_1 _) (by first | rfl | exact x_ok_q rfl) rfl ?_
                | refine x_iinc C (lv' := [_, _, _, _]) D_X9_keyAt_3.1 rfl (x_inc_1 _) (by first | rfl | exact x_ok_q rfl) rfl ?_
                refine x_goto C 30 D_X9_keyAt_3.2.1 (by decide) ?_
                refine x_lv (lv := [_, _, some (.int (nI (j - cn al (k0 + 1)))), _]) (by rw [hs, Nat.sub_sub]) ?_
                exact ih_30 (k0 + 1) (by omega) (by omega) (by omega)
            · skip
              first
              | have d_31 := cz_ngt c_31 (by omega)
              | skip
              refine x_aload_n C D_X9_keyAt_1.2.2.2.2.2.2.2.2.1 rfl rfl (by first | exact Or.inr ⟨_, rfl⟩ | exact va_rf_or _ | exact Or.inl rfl) ?_
              refine x_getQ C (ci := 8) (k0 := 6) (by assumption) (by decide) rfl (by decide) in_X9 k_908 rfl rfl D_X9_keyAt_1.2.2.2.2.2.2.2.2.2.1 ?_
              refine x_eqr (hM.2.1 6 (by decide)).1 ?_
              refine x_iload_n C D_X9_keyAt_1.2.2.2.2.2.2.2.2.2.2.1 rfl rfl ?_
              refine x_zald C _ (by first | assumption | exact (hM.2.1 _ (by decide)).2.1) rfl (by first | omega | (rw [hM.nk _ (by decide)]; omega) | (rw [hM.np _ (by decide)]; omega)) (by first | omega | (rw [hM.nk _ (by decide)]; omega) | (rw [hM.np _ (by decide)]; omega)) D_X9_keyAt_1.2.2.2.2.2.2.2.2.2.2.2 ?_
              refine x_eqi _ (h6 k0 (by omega)) ?_
              refine x_if_ne C 66 D_X9_keyAt_2.1 (by decide) (fun c_40 => ?_) (fun c_40 => ?_)
              · skip
                first
                | have d_40 := cz_ne c_40 (by omega)
                | have d_40 := cb_ne c_40
                | skip
                have hsel : selF al n j = k0 := selF_uniq (by omega) d_40 (by omega)
                refine x_aload_n C D_X9_keyAt_3.2.2.1 rfl rfl (by first | exact Or.inr ⟨_, rfl⟩ | exact va_rf_or _ | exact Or.inl rfl) ?_
                refine x_getQ C (ci := 8) (k0 := 5) (by assumption) (by decide) rfl (by decide) in_X9 k_907 rfl rfl D_X9_keyAt_3.2.2.2.1 ?_
                refine x_eqr (hM.2.1 5 (by decide)).1 ?_
                refine x_iload_n C D_X9_keyAt_3.2.2.2.2.1 rfl rfl ?_
                refine x_iald C _ (by first | assumption | exact (hM.2.1 _ (by decide)).2.1) rfl (by first | omega | (rw [hM.nk _ (by decide)]; omega) | (rw [hM.np _ (by decide)]; omega)) (by first | omega | (rw [hM.nk _ (by decide)]; omega) | (rw [hM.np _ (by decide)]; omega)) D_X9_keyAt_3.2.2.2.2.2.1 ?_
                refine x_eqi _ (show I2 (ar 5) k0 = cv1 (kc (selF al n j)) by rw [hsel, i2 _ hm5]; exact hk5 k0 (by omega)) ?_
                refine ret _ _ _ _ _ _ rfl D_X9_keyAt_3.2.2.2.2.2.2 (Nat.le_of_ble_eq_true rfl) (Nat.le_of_ble_eq_true rfl) ?_
                exact ⟨rfl, by rw [eI2]⟩
              · skip
                first
                | have d_40 := cz_eq c_40 (by omega)
                | have d_40 := cb_eq c_40
                | skip
                refine x_iload_n C D_X9_keyAt_2.2.1 rfl rfl ?_
                refine x_aload_n C D_X9_keyAt_2.2.2.1 rfl rfl (by first | exact Or.inr ⟨_, rfl⟩ | exact va_rf_or _ | exact Or.inl rfl) ?_
                refine x_getQ C (ci := 8) (k0 := 6) (by assumption) (by decide) rfl (by decide) in_X9 k_908 rfl rfl D_X9_keyAt_2.2.2.2.1 ?_
                refine x_eqr (hM.2.1 6 (by decide)).1 ?_
                refine x_iload_n C D_X9_keyAt_2.2.2.2.2.1 rfl rfl ?_
                refine x_zald C _ (by first | assumption | exact (hM.2.1 _ (by decide)).2.1) rfl (by first | omega | (rw [hM.nk _ (by decide)]; omega) | (rw [hM.np _ (by decide)]; omega)) (by first | omega | (rw [hM.nk _ (by decide)]; omega) | (rw [hM.np _ (by decide)]; omega)) D_X9_keyAt_2.2.2.2.2.2.1 ?_
                refine x_eqi _ (h6 k0 (by omega)) ?_
                refine x_if_eq C 57 D_X9_keyAt_2.2.2.2.2.2.2.1 (by decide) (fun c_50 => ?_) (fun c_50 => ?_)
                · skip
                  first
                  | have d_50 := cz_eq c_50 (by omega)
                  | have d_50 := cb_eq c_50
                  | skip
                  have hs : cn al (k0 + 1) = cn al k0 := by simp [cn, d_50]
                  refine x_iconst C (v := nI 0) D_X9_keyAt_2.2.2.2.2.2.2.2.2.2.1 (by decide +kernel) ?_
                  refine x_isub C D_X9_keyAt_2.2.2.2.2.2.2.2.2.2.2.1 ?_
                  first
                  | refine x_eqi _ (pk_sub (by omega)) ?_
                  | skip
                  refine x_istore_n C (lv' := [_, _, _, _]) D_X9_keyAt_2.2.2.2.2.2.2.2.2.2.2.2 rfl (Nat.le_of_ble_eq_true rfl) (by first | rfl | exact x_ok_q rfl) rfl ?_
                  first
                  | refine x_iinc C (lv' := [_, _, _, _]) D_X9_keyAt_3.1 rfl (x_incN_1 _) (by first | rfl | exact x_ok_q rfl) rfl ?_
                  | refine x_iinc C (lv' := [_, _, _, _]) D_X9_keyAt_3.1 rfl (x_inc_1 _) (by first | rfl | exact x_ok_q rfl) rfl ?_
                  refine x_goto C 30 D_X9_keyAt_3.2.1 (by decide) ?_
                  refine x_lv (lv := [_, _, some (.int (nI (j - cn al (k0 + 1)))), _]) (by rw [hs]; rfl) ?_
                  exact ih_30 (k0 + 1) (by omega) (by omega) (by omega)
                · skip
                  first
                  | have d_50 := cz_ne c_50 (by omega)
                  | have d_50 := cb_ne c_50
                  | skip
                  rw [d_40] at d_50; cases d_50
                  --end
        exact L_30 _ 0 (Nat.lt_succ_self _) (Nat.zero_le _) (Nat.zero_le _)
      · skip
        exact absurd c_21 (by decide)
    · skip
      first
      | have d_10 := cv_nlt c_10 (by omega) (by omega)
      | skip
      exfalso; omega
      --end
abbrev rm_X9_nodes : Room := { frames := 0, cells := 0, slots := 0, locals := 0 }
set_option maxHeartbeats 4000000 in
set_option maxRecDepth 100000 in
theorem c_X9_nodes (l : Launch) (G : xG) {K N : Nat → Nat} {I : Nat → Nat → Int32} {Q : Nat → Nat → Option Nat} {J : Nat → Nat → Int64} (m : Nat) (h : K m = 9) : XM l yX9_nodes cX9_nodes 1 (some .int) rm_X9_nodes G Ri [.ref m] (K, N, I, Q, J) (fun r S1 => r = I m 0 ∧ S1 = (K, N, x_u2 I m 18 (nI 0), Q, J)) := by
  refine x_meti (lv := [_]) (by decide +kernel) (x_cc (by first | rfl | exact x_crf _) x_cn) (Nat.le_of_ble_eq_true rfl) rfl ?_
  intro pP eE sS mM aA bB hH cC Z C hini ret
  refine x_aload_n C D_X9_nodes_0.1 rfl rfl (by first | exact Or.inr ⟨_, rfl⟩ | exact va_rf_or _ | exact Or.inl rfl) ?_
  refine x_iconst C (v := nI 0) D_X9_nodes_0.2.1 (by decide +kernel) ?_
  refine x_putI C (ci := 8) (k0 := 18) (by assumption) (by decide) rfl (by decide) in_X9 k_920 rfl tyX9 tyX9_ok nmX9 rfl (by rfl) rfl rfl rfl D_X9_nodes_0.2.2.1 (fun I2 eI2 => ?_)
  refine x_aload_n C D_X9_nodes_0.2.2.2.1 rfl rfl (by first | exact Or.inr ⟨_, rfl⟩ | exact va_rf_or _ | exact Or.inl rfl) ?_
  refine x_getI C (ci := 8) (k0 := 0) (by assumption) (by decide) rfl (by decide) in_X9 k_902 rfl rfl D_X9_nodes_0.2.2.2.2.1 ?_
  refine x_eqi _ (show I2 m 0 = I m 0 by rw [eI2, x_u2_j _ _ (by omega)]) ?_
  refine ret _ _ _ _ _ _ rfl D_X9_nodes_0.2.2.2.2.2 (Nat.le_of_ble_eq_true rfl) (Nat.le_of_ble_eq_true rfl) ?_
  exact ⟨rfl, by rw [eI2]⟩
abbrev rm_X9_drops : Room := { frames := 0, cells := 0, slots := 0, locals := 0 }
set_option maxHeartbeats 4000000 in
set_option maxRecDepth 100000 in
theorem c_X9_drops (l : Launch) (G : xG) {K N : Nat → Nat} {I : Nat → Nat → Int32} {Q : Nat → Nat → Option Nat} {J : Nat → Nat → Int64} (m : Nat) (h : K m = 9) : XM l yX9_drops cX9_drops 1 (some .int) rm_X9_drops G Ri [.ref m] (K, N, I, Q, J) (fun r S1 => r = I m 1 ∧ S1 = (K, N, x_u2 I m 18 (nI 0), Q, J)) := by
  refine x_meti (lv := [_]) (by decide +kernel) (x_cc (by first | rfl | exact x_crf _) x_cn) (Nat.le_of_ble_eq_true rfl) rfl ?_
  intro pP eE sS mM aA bB hH cC Z C hini ret
  refine x_aload_n C D_X9_drops_0.1 rfl rfl (by first | exact Or.inr ⟨_, rfl⟩ | exact va_rf_or _ | exact Or.inl rfl) ?_
  refine x_iconst C (v := nI 0) D_X9_drops_0.2.1 (by decide +kernel) ?_
  refine x_putI C (ci := 8) (k0 := 18) (by assumption) (by decide) rfl (by decide) in_X9 k_920 rfl tyX9 tyX9_ok nmX9 rfl (by rfl) rfl rfl rfl D_X9_drops_0.2.2.1 (fun I2 eI2 => ?_)
  refine x_aload_n C D_X9_drops_0.2.2.2.1 rfl rfl (by first | exact Or.inr ⟨_, rfl⟩ | exact va_rf_or _ | exact Or.inl rfl) ?_
  refine x_getI C (ci := 8) (k0 := 1) (by assumption) (by decide) rfl (by decide) in_X9 k_903 rfl rfl D_X9_drops_0.2.2.2.2.1 ?_
  refine x_eqi _ (show I2 m 1 = I m 1 by rw [eI2, x_u2_j _ _ (by omega)]) ?_
  refine ret _ _ _ _ _ _ rfl D_X9_drops_0.2.2.2.2.2 (Nat.le_of_ble_eq_true rfl) (Nat.le_of_ble_eq_true rfl) ?_
  exact ⟨rfl, by rw [eI2]⟩
abbrev rm_X9_rebuilt : Room := { frames := 0, cells := 0, slots := 0, locals := 0 }
set_option maxHeartbeats 4000000 in
set_option maxRecDepth 100000 in
theorem c_X9_rebuilt (l : Launch) (G : xG) {K N : Nat → Nat} {I : Nat → Nat → Int32} {Q : Nat → Nat → Option Nat} {J : Nat → Nat → Int64} (m : Nat) (h : K m = 9) : XM l yX9_rebuilt cX9_rebuilt 1 (some .int) rm_X9_rebuilt G Ri [.ref m] (K, N, I, Q, J) (fun r S1 => r = I m 2 ∧ S1 = (K, N, x_u2 I m 18 (nI 0), Q, J)) := by
  refine x_meti (lv := [_]) (by decide +kernel) (x_cc (by first | rfl | exact x_crf _) x_cn) (Nat.le_of_ble_eq_true rfl) rfl ?_
  intro pP eE sS mM aA bB hH cC Z C hini ret
  refine x_aload_n C D_X9_rebuilt_0.1 rfl rfl (by first | exact Or.inr ⟨_, rfl⟩ | exact va_rf_or _ | exact Or.inl rfl) ?_
  refine x_iconst C (v := nI 0) D_X9_rebuilt_0.2.1 (by decide +kernel) ?_
  refine x_putI C (ci := 8) (k0 := 18) (by assumption) (by decide) rfl (by decide) in_X9 k_920 rfl tyX9 tyX9_ok nmX9 rfl (by rfl) rfl rfl rfl D_X9_rebuilt_0.2.2.1 (fun I2 eI2 => ?_)
  refine x_aload_n C D_X9_rebuilt_0.2.2.2.1 rfl rfl (by first | exact Or.inr ⟨_, rfl⟩ | exact va_rf_or _ | exact Or.inl rfl) ?_
  refine x_getI C (ci := 8) (k0 := 2) (by assumption) (by decide) rfl (by decide) in_X9 k_904 rfl rfl D_X9_rebuilt_0.2.2.2.2.1 ?_
  refine x_eqi _ (show I2 m 2 = I m 2 by rw [eI2, x_u2_j _ _ (by omega)]) ?_
  refine ret _ _ _ _ _ _ rfl D_X9_rebuilt_0.2.2.2.2.2 (Nat.le_of_ble_eq_true rfl) (Nat.le_of_ble_eq_true rfl) ?_
  exact ⟨rfl, by rw [eI2]⟩
abbrev rm_X9_turns : Room := { frames := 0, cells := 0, slots := 0, locals := 0 }
set_option maxHeartbeats 4000000 in
set_option maxRecDepth 100000 in
theorem c_X9_turns (l : Launch) (G : xG) {K N : Nat → Nat} {I : Nat → Nat → Int32} {Q : Nat → Nat → Option Nat} {J : Nat → Nat → Int64} (m : Nat) (h : K m = 9) : XM l yX9_turns cX9_turns 1 (some .int) rm_X9_turns G Ri [.ref m] (K, N, I, Q, J) (fun r S1 => r = I m 3 ∧ S1 = (K, N, x_u2 I m 18 (nI 0), Q, J)) := by
  refine x_meti (lv := [_]) (by decide +kernel) (x_cc (by first | rfl | exact x_crf _) x_cn) (Nat.le_of_ble_eq_true rfl) rfl ?_
  intro pP eE sS mM aA bB hH cC Z C hini ret
  refine x_aload_n C D_X9_turns_0.1 rfl rfl (by first | exact Or.inr ⟨_, rfl⟩ | exact va_rf_or _ | exact Or.inl rfl) ?_
  refine x_iconst C (v := nI 0) D_X9_turns_0.2.1 (by decide +kernel) ?_
  refine x_putI C (ci := 8) (k0 := 18) (by assumption) (by decide) rfl (by decide) in_X9 k_920 rfl tyX9 tyX9_ok nmX9 rfl (by rfl) rfl rfl rfl D_X9_turns_0.2.2.1 (fun I2 eI2 => ?_)
  refine x_aload_n C D_X9_turns_0.2.2.2.1 rfl rfl (by first | exact Or.inr ⟨_, rfl⟩ | exact va_rf_or _ | exact Or.inl rfl) ?_
  refine x_getI C (ci := 8) (k0 := 3) (by assumption) (by decide) rfl (by decide) in_X9 k_905 rfl rfl D_X9_turns_0.2.2.2.2.1 ?_
  refine x_eqi _ (show I2 m 3 = I m 3 by rw [eI2, x_u2_j _ _ (by omega)]) ?_
  refine ret _ _ _ _ _ _ rfl D_X9_turns_0.2.2.2.2.2 (Nat.le_of_ble_eq_true rfl) (Nat.le_of_ble_eq_true rfl) ?_
  exact ⟨rfl, by rw [eI2]⟩
abbrev rm_X9_merges : Room := { frames := 0, cells := 0, slots := 0, locals := 0 }
set_option maxHeartbeats 4000000 in
set_option maxRecDepth 100000 in
theorem c_X9_merges (l : Launch) (G : xG) {K N : Nat → Nat} {I : Nat → Nat → Int32} {Q : Nat → Nat → Option Nat} {J : Nat → Nat → Int64} (m : Nat) (h : K m = 9) : XM l yX9_merges cX9_merges 1 (some .int) rm_X9_merges G Ri [.ref m] (K, N, I, Q, J) (fun r S1 => r = I m 4 ∧ S1 = (K, N, x_u2 I m 18 (nI 0), Q, J)) := by
  refine x_meti (lv := [_]) (by decide +kernel) (x_cc (by first | rfl | exact x_crf _) x_cn) (Nat.le_of_ble_eq_true rfl) rfl ?_
  intro pP eE sS mM aA bB hH cC Z C hini ret
  refine x_aload_n C D_X9_merges_0.1 rfl rfl (by first | exact Or.inr ⟨_, rfl⟩ | exact va_rf_or _ | exact Or.inl rfl) ?_
  refine x_iconst C (v := nI 0) D_X9_merges_0.2.1 (by decide +kernel) ?_
  refine x_putI C (ci := 8) (k0 := 18) (by assumption) (by decide) rfl (by decide) in_X9 k_920 rfl tyX9 tyX9_ok nmX9 rfl (by rfl) rfl rfl rfl D_X9_merges_0.2.2.1 (fun I2 eI2 => ?_)
  refine x_aload_n C D_X9_merges_0.2.2.2.1 rfl rfl (by first | exact Or.inr ⟨_, rfl⟩ | exact va_rf_or _ | exact Or.inl rfl) ?_
  refine x_getI C (ci := 8) (k0 := 4) (by assumption) (by decide) rfl (by decide) in_X9 k_906 rfl rfl D_X9_merges_0.2.2.2.2.1 ?_
  refine x_eqi _ (show I2 m 4 = I m 4 by rw [eI2, x_u2_j _ _ (by omega)]) ?_
  refine ret _ _ _ _ _ _ rfl D_X9_merges_0.2.2.2.2.2 (Nat.le_of_ble_eq_true rfl) (Nat.le_of_ble_eq_true rfl) ?_
  exact ⟨rfl, by rw [eI2]⟩
abbrev rm_X9_entries : Room := { frames := 0, cells := 0, slots := 0, locals := 0 }
set_option maxHeartbeats 4000000 in
set_option maxRecDepth 100000 in
theorem c_X9_entries (l : Launch) (G : xG) {K N : Nat → Nat} {I : Nat → Nat → Int32} {Q : Nat → Nat → Option Nat} {J : Nat → Nat → Int64} (m : Nat) (h : K m = 9) : XM l yX9_entries cX9_entries 1 (some .int) rm_X9_entries G Ri [.ref m] (K, N, I, Q, J) (fun r S1 => r = I m 0 ∧ S1 = (K, N, x_u2 I m 18 (nI 0), Q, J)) := by
  refine x_meti (lv := [_]) (by decide +kernel) (x_cc (by first | rfl | exact x_crf _) x_cn) (Nat.le_of_ble_eq_true rfl) rfl ?_
  intro pP eE sS mM aA bB hH cC Z C hini ret
  refine x_aload_n C D_X9_entries_0.1 rfl rfl (by first | exact Or.inr ⟨_, rfl⟩ | exact va_rf_or _ | exact Or.inl rfl) ?_
  refine x_iconst C (v := nI 0) D_X9_entries_0.2.1 (by decide +kernel) ?_
  refine x_putI C (ci := 8) (k0 := 18) (by assumption) (by decide) rfl (by decide) in_X9 k_920 rfl tyX9 tyX9_ok nmX9 rfl (by rfl) rfl rfl rfl D_X9_entries_0.2.2.1 (fun I2 eI2 => ?_)
  refine x_aload_n C D_X9_entries_0.2.2.2.1 rfl rfl (by first | exact Or.inr ⟨_, rfl⟩ | exact va_rf_or _ | exact Or.inl rfl) ?_
  refine x_getI C (ci := 8) (k0 := 0) (by assumption) (by decide) rfl (by decide) in_X9 k_902 rfl rfl D_X9_entries_0.2.2.2.2.1 ?_
  refine x_eqi _ (show I2 m 0 = I m 0 by rw [eI2, x_u2_j _ _ (by omega)]) ?_
  refine ret _ _ _ _ _ _ rfl D_X9_entries_0.2.2.2.2.2 (Nat.le_of_ble_eq_true rfl) (Nat.le_of_ble_eq_true rfl) ?_
  exact ⟨rfl, by rw [eI2]⟩
abbrev rm_X9_bound : Room := { frames := 1, cells := 0, slots := 0, locals := 25 }
set_option maxHeartbeats 4000000 in
set_option maxRecDepth 100000 in
theorem c_X9_bound (l : Launch) (G : xG) {K N : Nat → Nat} {I : Nat → Nat → Int32} {Q : Nat → Nat → Option Nat} {J : Nat → Nat → Int64} (m n : Nat) (ar kc sp tu pt : Nat → Nat) (al : Nat → Bool) (hM : MZ K N Q m ar) (hK : KV I m ar n kc al sp tu pt)  : XM l yX9_bound cX9_bound 1 (some .int) rm_X9_bound G Ri [.ref m] (K, N, I, Q, J) (fun r S1 => r = nI (bnd n) ∧ S1 = (K, N, x_u2 I m 18 (nI 0), Q, J)) := by
  refine x_meti (lv := [_]) (by decide +kernel) (x_cc (by first | rfl | exact x_crf _) x_cn) (Nat.le_of_ble_eq_true rfl) rfl ?_
  intro pP eE sS mM aA bB hH cC Z C hini ret
  have hk9 := hM.1
  obtain ⟨hn, hn201, hk5, hk6, hk7, hk8, hk9_⟩ := hK
  have h202 := hM.nk 6 (by decide)
  have hm5 := hM.nm 5 (by decide)
  have hm6 := hM.nm 6 (by decide)
  have hm7 := hM.nm 7 (by decide)
  have hm8 := hM.nm 8 (by decide)
  have hm9 := hM.nm 9 (by decide)
  refine x_aload_n C D_X9_bound_0.1 rfl rfl (by first | exact Or.inr ⟨_, rfl⟩ | exact va_rf_or _ | exact Or.inl rfl) ?_
  refine x_iconst C (v := nI 0) D_X9_bound_0.2.1 (by decide +kernel) ?_
  refine x_putI C (ci := 8) (k0 := 18) (by assumption) (by decide) rfl (by decide) in_X9 k_920 rfl tyX9 tyX9_ok nmX9 rfl (by rfl) rfl rfl rfl D_X9_bound_0.2.2.1 (fun I2 eI2 => ?_)
  have i2 : ∀ a, a ≠ m → I2 a = I a := fun a ha => by rw [eI2, x_u2_a _ _ ha]
  have hn1 : I2 m 0 = nI n := by rw [eI2, x_u2_j _ _ (by omega)]; exact hn
  have h6 : ∀ i, i < n → I2 (ar 6) i = xb (al i) := fun i hi => by rw [i2 _ hm6]; exact hk6 i hi
  refine x_aload_n C D_X9_bound_0.2.2.2.1 rfl rfl (by first | exact Or.inr ⟨_, rfl⟩ | exact va_rf_or _ | exact Or.inl rfl) ?_
  refine x_getI C (ci := 8) (k0 := 0) (by assumption) (by decide) rfl (by decide) in_X9 k_902 rfl rfl D_X9_bound_0.2.2.2.2.1 ?_
  first
  | refine x_eqi _ (hn1) ?_
  | skip
  refine x_if_ne C 16 D_X9_bound_0.2.2.2.2.2.1 (by decide) (fun c_9 => ?_) (fun c_9 => ?_)
  · skip
    first
    | have d_9 := cz_ne c_9 (by omega)
    | have d_9 := cb_ne c_9
    | skip
    refine x_aload_n C D_X9_bound_0.2.2.2.2.2.2.2.2.1 rfl rfl (by first | exact Or.inr ⟨_, rfl⟩ | exact va_rf_or _ | exact Or.inl rfl) ?_
    refine x_getI C (ci := 8) (k0 := 0) (by assumption) (by decide) rfl (by decide) in_X9 k_902 rfl rfl D_X9_bound_0.2.2.2.2.2.2.2.2.2.1 ?_
    first
    | refine x_eqi _ (hn1) ?_
    | skip
    refine x_callSi C (y := yX9_boundOf) (c_X9_boundOf l G n (by omega)) k_1029 k_1030 k_67 k_1031 hd_X9_boundOf ⟨(Nat.le_of_ble_eq_true rfl), (Nat.le_of_ble_eq_true rfl)⟩ rfl (by first | exact Nat.le_of_ble_eq_true rfl | simp [x_crf, Value.category]) rfl rfl D_X9_bound_0.2.2.2.2.2.2.2.2.2.2.1 ⟨(Nat.le_of_ble_eq_true rfl), (Nat.le_of_ble_eq_true rfl)⟩ (fun r_20 S_20 h_20 => ?_)
    obtain ⟨rfl, rfl⟩ := h_20
    refine ret _ _ _ _ _ _ rfl D_X9_bound_0.2.2.2.2.2.2.2.2.2.2.2 (Nat.le_of_ble_eq_true rfl) (Nat.le_of_ble_eq_true rfl) ?_
    exact ⟨rfl, by rw [eI2]⟩
  · skip
    first
    | have d_9 := cz_eq c_9 (by omega)
    | have d_9 := cb_eq c_9
    | skip
    refine x_iconst C (v := nI 0) D_X9_bound_0.2.2.2.2.2.2.1 (by decide +kernel) ?_
    refine x_goto C 23 D_X9_bound_0.2.2.2.2.2.2.2.1 (by decide) ?_
    refine ret _ _ _ _ _ _ rfl D_X9_bound_0.2.2.2.2.2.2.2.2.2.2.2 (Nat.le_of_ble_eq_true rfl) (Nat.le_of_ble_eq_true rfl) ?_
    exact ⟨by rw [d_9]; rfl, by rw [eI2]⟩
abbrev rm_X9_height : Room := { frames := 2, cells := 0, slots := 0, locals := 45 }
theorem hd_X9_heightOf : yX9_heightOf.cls ≠ "java/lang/invoke/MethodHandle" ∧ yX9_heightOf.cls ≠ "java/lang/invoke/VarHandle" ∧ (parseMethodDescriptor yX9_heightOf.desc).map (fun d => d.parameters.length) = some 2 := by decide +kernel
set_option maxHeartbeats 4000000 in
set_option maxRecDepth 100000 in
theorem c_X9_height (l : Launch) (G : xG) {K N : Nat → Nat} {I : Nat → Nat → Int32} {Q : Nat → Nat → Option Nat} {J : Nat → Nat → Int64} (m n : Nat) (ar kc sp tu pt : Nat → Nat) (al : Nat → Bool) (hM : MZ K N Q m ar) (hK : KV I m ar n kc al sp tu pt) (hsb : ∀ i, i < n → sp i < 2 ^ 30)  : XM l yX9_height cX9_height 1 (some .int) rm_X9_height G Ri [.ref m] (K, N, I, Q, J) (fun r S1 => r = nI (hmx sp n) - nI 1 ∧ S1 = (K, N, x_u2 I m 18 (nI 0), Q, J)) := by
  refine x_meti (lv := [_]) (by decide +kernel) (x_cc (by first | rfl | exact x_crf _) x_cn) (Nat.le_of_ble_eq_true rfl) rfl ?_
  intro pP eE sS mM aA bB hH cC Z C hini ret
  have hk9 := hM.1
  obtain ⟨hn, hn201, hk5, hk6, hk7, hk8, hk9_⟩ := hK
  have h202 := hM.nk 6 (by decide)
  have hm5 := hM.nm 5 (by decide)
  have hm6 := hM.nm 6 (by decide)
  have hm7 := hM.nm 7 (by decide)
  have hm8 := hM.nm 8 (by decide)
  have hm9 := hM.nm 9 (by decide)
  have h727 := hM.nk 7 (by decide)
  refine x_aload_n C D_X9_height_0.1 rfl rfl (by first | exact Or.inr ⟨_, rfl⟩ | exact va_rf_or _ | exact Or.inl rfl) ?_
  refine x_iconst C (v := nI 0) D_X9_height_0.2.1 (by decide +kernel) ?_
  refine x_putI C (ci := 8) (k0 := 18) (by assumption) (by decide) rfl (by decide) in_X9 k_920 rfl tyX9 tyX9_ok nmX9 rfl (by rfl) rfl rfl rfl D_X9_height_0.2.2.1 (fun I2 eI2 => ?_)
  have i2 : ∀ a, a ≠ m → I2 a = I a := fun a ha => by rw [eI2, x_u2_a _ _ ha]
  have hn1 : I2 m 0 = nI n := by rw [eI2, x_u2_j _ _ (by omega)]; exact hn
  have h6 : ∀ i, i < n → I2 (ar 6) i = xb (al i) := fun i hi => by rw [i2 _ hm6]; exact hk6 i hi
  refine x_aload_n C D_X9_height_0.2.2.2.1 rfl rfl (by first | exact Or.inr ⟨_, rfl⟩ | exact va_rf_or _ | exact Or.inl rfl) ?_
  refine x_getQ C (ci := 8) (k0 := 7) (by assumption) (by decide) rfl (by decide) in_X9 k_909 rfl rfl D_X9_height_0.2.2.2.2.1 ?_
  refine x_eqr (hM.2.1 7 (by decide)).1 ?_
  refine x_aload_n C D_X9_height_0.2.2.2.2.2.1 rfl rfl (by first | exact Or.inr ⟨_, rfl⟩ | exact va_rf_or _ | exact Or.inl rfl) ?_
  refine x_getI C (ci := 8) (k0 := 0) (by assumption) (by decide) rfl (by decide) in_X9 k_902 rfl rfl D_X9_height_0.2.2.2.2.2.2.1 ?_
  first
  | refine x_eqi _ (hn1) ?_
  | skip
  refine x_callSi C (y := yX9_heightOf) (c_X9_heightOf l G (ar 7) n sp (hM.2.1 7 (by decide)).2.1 (by omega) (by omega) (by omega) (fun i hi => ⟨by rw [i2 _ hm7]; exact hk7 i hi, hsb i hi⟩)) k_1086 k_1087 k_67 k_1088 hd_X9_heightOf ⟨(Nat.le_of_ble_eq_true rfl), (Nat.le_of_ble_eq_true rfl)⟩ rfl (by first | exact Nat.le_of_ble_eq_true rfl | simp [x_crf, Value.category]) rfl rfl D_X9_height_0.2.2.2.2.2.2.2.1 ⟨(Nat.le_of_ble_eq_true rfl), (Nat.le_of_ble_eq_true rfl)⟩ (fun r_13 S_13 h_13 => ?_)
  obtain ⟨rfl, rfl⟩ := h_13
  refine ret _ _ _ _ _ _ rfl D_X9_height_0.2.2.2.2.2.2.2.2 (Nat.le_of_ble_eq_true rfl) (Nat.le_of_ble_eq_true rfl) ?_
  exact ⟨rfl, by rw [eI2]⟩
abbrev rm_X9_isNodeN : Room := { frames := 1, cells := 0, slots := 0, locals := 23 }
set_option maxHeartbeats 4000000 in
set_option maxRecDepth 100000 in
theorem c_X9_isNodeN (l : Launch) (G : xG) {K N : Nat → Nat} {I : Nat → Nat → Int32} {Q : Nat → Nat → Option Nat} {J : Nat → Nat → Int64} (m n : Nat) (ar kc sp tu pt : Nat → Nat) (al : Nat → Bool) (x : Int32) (hM : MZ K N Q m ar) (hK : KV I m ar n kc al sp tu pt) (hnd : (lastF (fun i => decide (I (ar 5) i = x)) n) = none)  : XM l yX9_isNode cX9_isNode 2 (some .boolean) rm_X9_isNodeN G Rz [.ref m, .int x] (K, N, I, Q, J) (fun r S1 => r = false ∧ S1 = (K, N, x_u2 I m 18 (nI 1), Q, J)) := by
  refine x_metz (lv := [_, _]) (by decide +kernel) (x_cc (by first | rfl | exact x_crf _) (x_cc (by first | rfl | exact x_crf _) x_cn)) (Nat.le_of_ble_eq_true rfl) rfl ?_
  intro pP eE sS mM aA bB hH cC Z C hini ret
  have hk9 := hM.1
  obtain ⟨hn, hn201, hk5, hk6, hk7, hk8, hk9_⟩ := hK
  have h202 := hM.nk 6 (by decide)
  have hm5 := hM.nm 5 (by decide)
  have hm6 := hM.nm 6 (by decide)
  have hm7 := hM.nm 7 (by decide)
  have hm8 := hM.nm 8 (by decide)
  have hm9 := hM.nm 9 (by decide)
  refine x_aload_n C D_X9_isNode_0.1 rfl rfl (by first | exact Or.inr ⟨_, rfl⟩ | exact va_rf_or _ | exact Or.inl rfl) ?_
  refine x_aload_n C D_X9_isNode_0.2.1 rfl rfl (by first | exact Or.inr ⟨_, rfl⟩ | exact va_rf_or _ | exact Or.inl rfl) ?_
  refine x_iload_n C D_X9_isNode_0.2.2.1 rfl rfl ?_
  refine x_callVi C (y := yX9_nodeOf) (c_X9_nodeOf l G m n ar x hM hn (by omega)) (ci := 8) hM.1 (by decide) rfl rfl k_970 k_972 k_35 k_67 k_973 hd_X9_nodeOf ⟨(Nat.le_of_ble_eq_true rfl), (Nat.le_of_ble_eq_true rfl)⟩ rfl (by first | exact Nat.le_of_ble_eq_true rfl | simp [x_crf, Value.category]) rfl rfl D_X9_isNode_0.2.2.2.1 ⟨(Nat.le_of_ble_eq_true rfl), (Nat.le_of_ble_eq_true rfl)⟩ (fun r_3 S_3 h_3 => ?_)
  obtain ⟨rfl, rfl⟩ := h_3
  refine x_eqi (oI none) (by rw [hnd]) ?_
  refine x_iconst C (v := (-1)) D_X9_isNode_0.2.2.2.2.1 (by decide +kernel) ?_
  refine x_icmp_ne C 14 D_X9_isNode_0.2.2.2.2.2.1 (by decide) (fun c_7 => ?_) (fun c_7 => ?_)
  · skip
    exact absurd c_7 (by decide)
  · skip
    first
    | have d_7 := cv_eq c_7 (by omega) (by omega)
    | skip
    refine x_iconst C (v := nI 1) D_X9_isNode_0.2.2.2.2.2.2.1 (by decide +kernel) ?_
    refine x_goto C 15 D_X9_isNode_0.2.2.2.2.2.2.2.1 (by decide) ?_
    refine x_callVz C (y := yX9_can) (c_X9_can l G m _ hM.1) (ci := 8) hM.1 (by decide) rfl rfl k_978 k_980 k_37 k_67 k_981 hd_X9_can ⟨(Nat.le_of_ble_eq_true rfl), (Nat.le_of_ble_eq_true rfl)⟩ rfl (by first | exact Nat.le_of_ble_eq_true rfl | simp [x_crf, Value.category]) rfl rfl D_X9_isNode_0.2.2.2.2.2.2.2.2.2.1 ⟨(Nat.le_of_ble_eq_true rfl), (Nat.le_of_ble_eq_true rfl)⟩ (fun r_15 S_15 h_15 => ?_)
    obtain ⟨rfl, rfl⟩ := h_15
    refine ret _ _ _ _ _ _ false rfl D_X9_isNode_0.2.2.2.2.2.2.2.2.2.2 (Nat.le_of_ble_eq_true rfl) (Nat.le_of_ble_eq_true rfl) rfl ?_
    exact ⟨rfl, rfl⟩
abbrev rm_X9_depthN : Room := { frames := 2, cells := 0, slots := 0, locals := 44 }
theorem hd_X9_isNode : yX9_isNode.cls ≠ "java/lang/invoke/MethodHandle" ∧ yX9_isNode.cls ≠ "java/lang/invoke/VarHandle" ∧ (parseMethodDescriptor yX9_isNode.desc).map (fun d => d.parameters.length) = some 1 := by decide +kernel
set_option maxHeartbeats 4000000 in
set_option maxRecDepth 100000 in
theorem c_X9_depthN (l : Launch) (G : xG) {K N : Nat → Nat} {I : Nat → Nat → Int32} {Q : Nat → Nat → Option Nat} {J : Nat → Nat → Int64} (m n : Nat) (ar kc sp tu pt : Nat → Nat) (al : Nat → Bool) (x : Int32) (hM : MZ K N Q m ar) (hK : KV I m ar n kc al sp tu pt) (hnd : (lastF (fun i => decide (I (ar 5) i = x)) n) = none) (hsb : ∀ i, i < n → sp i < 2 ^ 30)  : XM l yX9_depth cX9_depth 2 (some .int) rm_X9_depthN G Ri [.ref m, .int x] (K, N, I, Q, J) (fun r S1 => r = nI 0 ∧ S1 = (K, N, x_u2 I m 18 (nI 1), Q, J)) := by
  refine x_meti (lv := [_, _]) (by decide +kernel) (x_cc (by first | rfl | exact x_crf _) (x_cc (by first | rfl | exact x_crf _) x_cn)) (Nat.le_of_ble_eq_true rfl) rfl ?_
  intro pP eE sS mM aA bB hH cC Z C hini ret
  have hk9 := hM.1
  obtain ⟨hn, hn201, hk5, hk6, hk7, hk8, hk9_⟩ := hK
  have h202 := hM.nk 6 (by decide)
  have hm5 := hM.nm 5 (by decide)
  have hm6 := hM.nm 6 (by decide)
  have hm7 := hM.nm 7 (by decide)
  have hm8 := hM.nm 8 (by decide)
  have hm9 := hM.nm 9 (by decide)
  refine x_aload_n C D_X9_depth_0.1 rfl rfl (by first | exact Or.inr ⟨_, rfl⟩ | exact va_rf_or _ | exact Or.inl rfl) ?_
  refine x_iload_n C D_X9_depth_0.2.1 rfl rfl ?_
  refine x_callVz C (y := yX9_isNode) (c_X9_isNodeN l G m n ar kc sp tu pt al x hM ⟨hn, hn201, hk5, hk6, hk7, hk8, hk9_⟩ hnd) (ci := 8) hM.1 (by decide) rfl rfl k_1093 k_1095 k_51 k_67 k_1096 hd_X9_isNode ⟨(Nat.le_of_ble_eq_true rfl), (Nat.le_of_ble_eq_true rfl)⟩ rfl (by first | exact Nat.le_of_ble_eq_true rfl | simp [x_crf, Value.category]) rfl rfl D_X9_depth_0.2.2.1 ⟨(Nat.le_of_ble_eq_true rfl), (Nat.le_of_ble_eq_true rfl)⟩ (fun r_2 S_2 h_2 => ?_)
  obtain ⟨rfl, rfl⟩ := h_2
  obtain ⟨I2, eI2⟩ : ∃ I2, I2 = x_u2 I m 18 (nI 1) := ⟨_, rfl⟩
  rw [← eI2]
  have i2 : ∀ a, a ≠ m → I2 a = I a := fun a ha => by rw [eI2, x_u2_a _ _ ha]
  have hn1 : I2 m 0 = nI n := by rw [eI2, x_u2_j _ _ (by omega)]; exact hn
  have h6 : ∀ i, i < n → I2 (ar 6) i = xb (al i) := fun i hi => by rw [i2 _ hm6]; exact hk6 i hi
  refine x_if_eq C 24 D_X9_depth_0.2.2.2.1 (by decide) (fun c_5 => ?_) (fun c_5 => ?_)
  · skip
    first
    | have d_5 := cz_eq c_5 (by omega)
    | have d_5 := cb_eq c_5
    | skip
    refine x_iconst C (v := nI 0) D_X9_depth_1.1 (by decide +kernel) ?_
    refine ret _ _ _ _ _ _ rfl D_X9_depth_1.2 (Nat.le_of_ble_eq_true rfl) (Nat.le_of_ble_eq_true rfl) ?_
    exact ⟨rfl, by rw [eI2]⟩
  · skip
    exact absurd c_5 (by decide)
abbrev rm_X9_weightN : Room := { frames := 2, cells := 0, slots := 0, locals := 44 }
set_option maxHeartbeats 4000000 in
set_option maxRecDepth 100000 in
theorem c_X9_weightN (l : Launch) (G : xG) {K N : Nat → Nat} {I : Nat → Nat → Int32} {Q : Nat → Nat → Option Nat} {J : Nat → Nat → Int64} (m n : Nat) (ar kc sp tu pt : Nat → Nat) (al : Nat → Bool) (x : Int32) (hM : MZ K N Q m ar) (hK : KV I m ar n kc al sp tu pt) (hnd : (lastF (fun i => decide (I (ar 5) i = x)) n) = none) (hsb : ∀ i, i < n → sp i < 2 ^ 30)  : XM l yX9_weight cX9_weight 2 (some .int) rm_X9_weightN G Ri [.ref m, .int x] (K, N, I, Q, J) (fun r S1 => r = nI 0 ∧ S1 = (K, N, x_u2 I m 18 (nI 1), Q, J)) := by
  refine x_meti (lv := [_, _]) (by decide +kernel) (x_cc (by first | rfl | exact x_crf _) (x_cc (by first | rfl | exact x_crf _) x_cn)) (Nat.le_of_ble_eq_true rfl) rfl ?_
  intro pP eE sS mM aA bB hH cC Z C hini ret
  have hk9 := hM.1
  obtain ⟨hn, hn201, hk5, hk6, hk7, hk8, hk9_⟩ := hK
  have h202 := hM.nk 6 (by decide)
  have hm5 := hM.nm 5 (by decide)
  have hm6 := hM.nm 6 (by decide)
  have hm7 := hM.nm 7 (by decide)
  have hm8 := hM.nm 8 (by decide)
  have hm9 := hM.nm 9 (by decide)
  have h727 := hM.nk 7 (by decide)
  refine x_aload_n C D_X9_weight_0.1 rfl rfl (by first | exact Or.inr ⟨_, rfl⟩ | exact va_rf_or _ | exact Or.inl rfl) ?_
  refine x_iload_n C D_X9_weight_0.2.1 rfl rfl ?_
  refine x_callVz C (y := yX9_isNode) (c_X9_isNodeN l G m n ar kc sp tu pt al x hM ⟨hn, hn201, hk5, hk6, hk7, hk8, hk9_⟩ hnd) (ci := 8) hM.1 (by decide) rfl rfl k_1093 k_1095 k_51 k_67 k_1096 hd_X9_isNode ⟨(Nat.le_of_ble_eq_true rfl), (Nat.le_of_ble_eq_true rfl)⟩ rfl (by first | exact Nat.le_of_ble_eq_true rfl | simp [x_crf, Value.category]) rfl rfl D_X9_weight_0.2.2.1 ⟨(Nat.le_of_ble_eq_true rfl), (Nat.le_of_ble_eq_true rfl)⟩ (fun r_2 S_2 h_2 => ?_)
  obtain ⟨rfl, rfl⟩ := h_2
  obtain ⟨I2, eI2⟩ : ∃ I2, I2 = x_u2 I m 18 (nI 1) := ⟨_, rfl⟩
  rw [← eI2]
  have i2 : ∀ a, a ≠ m → I2 a = I a := fun a ha => by rw [eI2, x_u2_a _ _ ha]
  have hn1 : I2 m 0 = nI n := by rw [eI2, x_u2_j _ _ (by omega)]; exact hn
  have h6 : ∀ i, i < n → I2 (ar 6) i = xb (al i) := fun i hi => by rw [i2 _ hm6]; exact hk6 i hi
  refine x_if_eq C 32 D_X9_weight_0.2.2.2.1 (by decide) (fun c_5 => ?_) (fun c_5 => ?_)
  · skip
    first
    | have d_5 := cz_eq c_5 (by omega)
    | have d_5 := cb_eq c_5
    | skip
    refine x_iconst C (v := nI 0) D_X9_weight_1.2.2.2.2.1 (by decide +kernel) ?_
    refine ret _ _ _ _ _ _ rfl D_X9_weight_1.2.2.2.2.2 (Nat.le_of_ble_eq_true rfl) (Nat.le_of_ble_eq_true rfl) ?_
    exact ⟨rfl, by rw [eI2]⟩
  · skip
    exact absurd c_5 (by decide)
abbrev rm_X9_partOfN : Room := { frames := 2, cells := 0, slots := 0, locals := 44 }
set_option maxHeartbeats 4000000 in
set_option maxRecDepth 100000 in
theorem c_X9_partOfN (l : Launch) (G : xG) {K N : Nat → Nat} {I : Nat → Nat → Int32} {Q : Nat → Nat → Option Nat} {J : Nat → Nat → Int64} (m n : Nat) (ar kc sp tu pt : Nat → Nat) (al : Nat → Bool) (x : Int32) (hM : MZ K N Q m ar) (hK : KV I m ar n kc al sp tu pt) (hnd : (lastF (fun i => decide (I (ar 5) i = x)) n) = none)  : XM l yX9_partOf cX9_partOf 2 (some .int) rm_X9_partOfN G Ri [.ref m, .int x] (K, N, I, Q, J) (fun r S1 => r = nI 0 ∧ S1 = (K, N, x_u2 I m 18 (nI 1), Q, J)) := by
  refine x_meti (lv := [_, _]) (by decide +kernel) (x_cc (by first | rfl | exact x_crf _) (x_cc (by first | rfl | exact x_crf _) x_cn)) (Nat.le_of_ble_eq_true rfl) rfl ?_
  intro pP eE sS mM aA bB hH cC Z C hini ret
  have hk9 := hM.1
  obtain ⟨hn, hn201, hk5, hk6, hk7, hk8, hk9_⟩ := hK
  have h202 := hM.nk 6 (by decide)
  have hm5 := hM.nm 5 (by decide)
  have hm6 := hM.nm 6 (by decide)
  have hm7 := hM.nm 7 (by decide)
  have hm8 := hM.nm 8 (by decide)
  have hm9 := hM.nm 9 (by decide)
  refine x_aload_n C D_X9_partOf_0.1 rfl rfl (by first | exact Or.inr ⟨_, rfl⟩ | exact va_rf_or _ | exact Or.inl rfl) ?_
  refine x_iload_n C D_X9_partOf_0.2.1 rfl rfl ?_
  refine x_callVz C (y := yX9_isNode) (c_X9_isNodeN l G m n ar kc sp tu pt al x hM ⟨hn, hn201, hk5, hk6, hk7, hk8, hk9_⟩ hnd) (ci := 8) hM.1 (by decide) rfl rfl k_1093 k_1095 k_51 k_67 k_1096 hd_X9_isNode ⟨(Nat.le_of_ble_eq_true rfl), (Nat.le_of_ble_eq_true rfl)⟩ rfl (by first | exact Nat.le_of_ble_eq_true rfl | simp [x_crf, Value.category]) rfl rfl D_X9_partOf_0.2.2.1 ⟨(Nat.le_of_ble_eq_true rfl), (Nat.le_of_ble_eq_true rfl)⟩ (fun r_2 S_2 h_2 => ?_)
  obtain ⟨rfl, rfl⟩ := h_2
  obtain ⟨I2, eI2⟩ : ∃ I2, I2 = x_u2 I m 18 (nI 1) := ⟨_, rfl⟩
  rw [← eI2]
  have i2 : ∀ a, a ≠ m → I2 a = I a := fun a ha => by rw [eI2, x_u2_a _ _ ha]
  have hn1 : I2 m 0 = nI n := by rw [eI2, x_u2_j _ _ (by omega)]; exact hn
  have h6 : ∀ i, i < n → I2 (ar 6) i = xb (al i) := fun i hi => by rw [i2 _ hm6]; exact hk6 i hi
  refine x_if_eq C 21 D_X9_partOf_0.2.2.2.1 (by decide) (fun c_5 => ?_) (fun c_5 => ?_)
  · skip
    first
    | have d_5 := cz_eq c_5 (by omega)
    | have d_5 := cb_eq c_5
    | skip
    refine x_iconst C (v := nI 0) D_X9_partOf_0.2.2.2.2.2.2.2.2.2.2.2 (by decide +kernel) ?_
    refine ret _ _ _ _ _ _ rfl D_X9_partOf_1 (Nat.le_of_ble_eq_true rfl) (Nat.le_of_ble_eq_true rfl) ?_
    exact ⟨rfl, by rw [eI2]⟩
  · skip
    exact absurd c_5 (by decide)
abbrev rm_X9_isNodeY : Room := { frames := 1, cells := 0, slots := 0, locals := 23 }
set_option maxHeartbeats 4000000 in
set_option maxRecDepth 100000 in
theorem c_X9_isNodeY (l : Launch) (G : xG) {K N : Nat → Nat} {I : Nat → Nat → Int32} {Q : Nat → Nat → Option Nat} {J : Nat → Nat → Int64} (m n : Nat) (ar kc sp tu pt : Nat → Nat) (al : Nat → Bool) (x : Int32) (k : Nat) (hM : MZ K N Q m ar) (hK : KV I m ar n kc al sp tu pt) (hnd : (lastF (fun i => decide (I (ar 5) i = x)) n) = (some k))  : XM l yX9_isNode cX9_isNode 2 (some .boolean) rm_X9_isNodeY G Rz [.ref m, .int x] (K, N, I, Q, J) (fun r S1 => r = true ∧ S1 = (K, N, x_u2 I m 18 (nI 0), Q, J)) := by
  refine x_metz (lv := [_, _]) (by decide +kernel) (x_cc (by first | rfl | exact x_crf _) (x_cc (by first | rfl | exact x_crf _) x_cn)) (Nat.le_of_ble_eq_true rfl) rfl ?_
  intro pP eE sS mM aA bB hH cC Z C hini ret
  have hk9 := hM.1
  obtain ⟨hn, hn201, hk5, hk6, hk7, hk8, hk9_⟩ := hK
  have h202 := hM.nk 6 (by decide)
  have hm5 := hM.nm 5 (by decide)
  have hm6 := hM.nm 6 (by decide)
  have hm7 := hM.nm 7 (by decide)
  have hm8 := hM.nm 8 (by decide)
  have hm9 := hM.nm 9 (by decide)
  have hkn := (lastF_lt hnd).1
  refine x_aload_n C D_X9_isNode_0.1 rfl rfl (by first | exact Or.inr ⟨_, rfl⟩ | exact va_rf_or _ | exact Or.inl rfl) ?_
  refine x_aload_n C D_X9_isNode_0.2.1 rfl rfl (by first | exact Or.inr ⟨_, rfl⟩ | exact va_rf_or _ | exact Or.inl rfl) ?_
  refine x_iload_n C D_X9_isNode_0.2.2.1 rfl rfl ?_
  refine x_callVi C (y := yX9_nodeOf) (c_X9_nodeOf l G m n ar x hM hn (by omega)) (ci := 8) hM.1 (by decide) rfl rfl k_970 k_972 k_35 k_67 k_973 hd_X9_nodeOf ⟨(Nat.le_of_ble_eq_true rfl), (Nat.le_of_ble_eq_true rfl)⟩ rfl (by first | exact Nat.le_of_ble_eq_true rfl | simp [x_crf, Value.category]) rfl rfl D_X9_isNode_0.2.2.2.1 ⟨(Nat.le_of_ble_eq_true rfl), (Nat.le_of_ble_eq_true rfl)⟩ (fun r_3 S_3 h_3 => ?_)
  obtain ⟨rfl, rfl⟩ := h_3
  refine x_eqi (oI (some k)) (by rw [hnd]) ?_
  refine x_iconst C (v := (-1)) D_X9_isNode_0.2.2.2.2.1 (by decide +kernel) ?_
  refine x_icmp_ne C 14 D_X9_isNode_0.2.2.2.2.2.1 (by decide) (fun c_7 => ?_) (fun c_7 => ?_)
  · skip
    refine x_iconst C (v := nI 0) D_X9_isNode_0.2.2.2.2.2.2.2.2.1 (by decide +kernel) ?_
    refine x_callVz C (y := yX9_can) (c_X9_can l G m _ hM.1) (ci := 8) hM.1 (by decide) rfl rfl k_978 k_980 k_37 k_67 k_981 hd_X9_can ⟨(Nat.le_of_ble_eq_true rfl), (Nat.le_of_ble_eq_true rfl)⟩ rfl (by first | exact Nat.le_of_ble_eq_true rfl | simp [x_crf, Value.category]) rfl rfl D_X9_isNode_0.2.2.2.2.2.2.2.2.2.1 ⟨(Nat.le_of_ble_eq_true rfl), (Nat.le_of_ble_eq_true rfl)⟩ (fun r_15 S_15 h_15 => ?_)
    obtain ⟨rfl, rfl⟩ := h_15
    refine ret _ _ _ _ _ _ true rfl D_X9_isNode_0.2.2.2.2.2.2.2.2.2.2 (Nat.le_of_ble_eq_true rfl) (Nat.le_of_ble_eq_true rfl) rfl ?_
    exact ⟨rfl, rfl⟩
  · skip
    exact absurd c_7 (oI_nn k (by omega))
    --end
abbrev rm_X9_depthY : Room := { frames := 2, cells := 0, slots := 0, locals := 44 }
set_option maxHeartbeats 4000000 in
set_option maxRecDepth 100000 in
theorem c_X9_depthY (l : Launch) (G : xG) {K N : Nat → Nat} {I : Nat → Nat → Int32} {Q : Nat → Nat → Option Nat} {J : Nat → Nat → Int64} (m n : Nat) (ar kc sp tu pt : Nat → Nat) (al : Nat → Bool) (x : Int32) (k : Nat) (hM : MZ K N Q m ar) (hK : KV I m ar n kc al sp tu pt) (hnd : (lastF (fun i => decide (I (ar 5) i = x)) n) = (some k)) (hsb : ∀ i, i < n → sp i < 2 ^ 30)  : XM l yX9_depth cX9_depth 2 (some .int) rm_X9_depthY G Ri [.ref m, .int x] (K, N, I, Q, J) (fun r S1 => r = nI (dep (sp k)) ∧ S1 = (K, N, x_u2 I m 18 (nI 0), Q, J)) := by
  refine x_meti (lv := [_, _]) (by decide +kernel) (x_cc (by first | rfl | exact x_crf _) (x_cc (by first | rfl | exact x_crf _) x_cn)) (Nat.le_of_ble_eq_true rfl) rfl ?_
  intro pP eE sS mM aA bB hH cC Z C hini ret
  have hk9 := hM.1
  obtain ⟨hn, hn201, hk5, hk6, hk7, hk8, hk9_⟩ := hK
  have h202 := hM.nk 6 (by decide)
  have hm5 := hM.nm 5 (by decide)
  have hm6 := hM.nm 6 (by decide)
  have hm7 := hM.nm 7 (by decide)
  have hm8 := hM.nm 8 (by decide)
  have hm9 := hM.nm 9 (by decide)
  have hkn := (lastF_lt hnd).1
  refine x_aload_n C D_X9_depth_0.1 rfl rfl (by first | exact Or.inr ⟨_, rfl⟩ | exact va_rf_or _ | exact Or.inl rfl) ?_
  refine x_iload_n C D_X9_depth_0.2.1 rfl rfl ?_
  refine x_callVz C (y := yX9_isNode) (c_X9_isNodeY l G m n ar kc sp tu pt al x k hM ⟨hn, hn201, hk5, hk6, hk7, hk8, hk9_⟩ hnd) (ci := 8) hM.1 (by decide) rfl rfl k_1093 k_1095 k_51 k_67 k_1096 hd_X9_isNode ⟨(Nat.le_of_ble_eq_true rfl), (Nat.le_of_ble_eq_true rfl)⟩ rfl (by first | exact Nat.le_of_ble_eq_true rfl | simp [x_crf, Value.category]) rfl rfl D_X9_depth_0.2.2.1 ⟨(Nat.le_of_ble_eq_true rfl), (Nat.le_of_ble_eq_true rfl)⟩ (fun r_2 S_2 h_2 => ?_)
  obtain ⟨rfl, rfl⟩ := h_2
  obtain ⟨I2, eI2⟩ : ∃ I2, I2 = x_u2 I m 18 (nI 0) := ⟨_, rfl⟩
  rw [← eI2]
  have i2 : ∀ a, a ≠ m → I2 a = I a := fun a ha => by rw [eI2, x_u2_a _ _ ha]
  have hn1 : I2 m 0 = nI n := by rw [eI2, x_u2_j _ _ (by omega)]; exact hn
  have h6 : ∀ i, i < n → I2 (ar 6) i = xb (al i) := fun i hi => by rw [i2 _ hm6]; exact hk6 i hi
  refine x_if_eq C 24 D_X9_depth_0.2.2.2.1 (by decide) (fun c_5 => ?_) (fun c_5 => ?_)
  · skip
    exact absurd c_5 (by decide)
  · skip
    first
    | have d_5 := cz_ne c_5 (by omega)
    | have d_5 := cb_ne c_5
    | skip
    refine x_aload_n C D_X9_depth_0.2.2.2.2.1 rfl rfl (by first | exact Or.inr ⟨_, rfl⟩ | exact va_rf_or _ | exact Or.inl rfl) ?_
    refine x_getQ C (ci := 8) (k0 := 7) (by assumption) (by decide) rfl (by decide) in_X9 k_909 rfl rfl D_X9_depth_0.2.2.2.2.2.1 ?_
    refine x_eqr (hM.2.1 7 (by decide)).1 ?_
    refine x_aload_n C D_X9_depth_0.2.2.2.2.2.2.1 rfl rfl (by first | exact Or.inr ⟨_, rfl⟩ | exact va_rf_or _ | exact Or.inl rfl) ?_
    refine x_iload_n C D_X9_depth_0.2.2.2.2.2.2.2.1 rfl rfl ?_
    refine x_callVi C (y := yX9_nodeOf) (c_X9_nodeOf l G m n ar x hM hn1 (by omega)) (ci := 8) hM.1 (by decide) rfl rfl k_970 k_972 k_35 k_67 k_973 hd_X9_nodeOf ⟨(Nat.le_of_ble_eq_true rfl), (Nat.le_of_ble_eq_true rfl)⟩ rfl (by first | exact Nat.le_of_ble_eq_true rfl | simp [x_crf, Value.category]) rfl rfl D_X9_depth_0.2.2.2.2.2.2.2.2.1 ⟨(Nat.le_of_ble_eq_true rfl), (Nat.le_of_ble_eq_true rfl)⟩ (fun r_14 S_14 h_14 => ?_)
    obtain ⟨rfl, rfl⟩ := h_14
    refine x_eqi (oI (some k)) (by rw [show (fun i => decide (I2 (ar 5) i = x)) = (fun i => decide (I (ar 5) i = x)) by rw [i2 _ hm5], hnd]) ?_
    refine x_iald C _ (by first | assumption | exact (hM.2.1 _ (by decide)).2.1) rfl (by first | omega | (rw [hM.nk _ (by decide)]; omega) | (rw [hM.np _ (by decide)]; omega)) (by first | omega | (rw [hM.nk _ (by decide)]; omega) | (rw [hM.np _ (by decide)]; omega)) D_X9_depth_0.2.2.2.2.2.2.2.2.2.1 ?_
    refine x_eqi _ (show I2 (ar 7) k = nI (sp k) by rw [i2 _ hm7]; exact hk7 k hkn) ?_
    refine x_callSi C (y := yX9_depthOf) (c_X9_depthOf l G (sp k) (hsb k hkn)) k_1011 k_1012 k_67 k_1013 hd_X9_depthOf ⟨(Nat.le_of_ble_eq_true rfl), (Nat.le_of_ble_eq_true rfl)⟩ rfl (by first | exact Nat.le_of_ble_eq_true rfl | simp [x_crf, Value.category]) rfl rfl D_X9_depth_0.2.2.2.2.2.2.2.2.2.2.1 ⟨(Nat.le_of_ble_eq_true rfl), (Nat.le_of_ble_eq_true rfl)⟩ (fun r_18 S_18 h_18 => ?_)
    obtain ⟨rfl, rfl⟩ := h_18
    refine x_goto C 25 D_X9_depth_0.2.2.2.2.2.2.2.2.2.2.2 (by decide) ?_
    refine ret _ _ _ _ _ _ rfl D_X9_depth_1.2 (Nat.le_of_ble_eq_true rfl) (Nat.le_of_ble_eq_true rfl) ?_
    exact ⟨rfl, by rw [eI2]⟩
abbrev rm_X9_weightY : Room := { frames := 3, cells := 0, slots := 0, locals := 67 }
set_option maxHeartbeats 4000000 in
set_option maxRecDepth 100000 in
theorem c_X9_weightY (l : Launch) (G : xG) {K N : Nat → Nat} {I : Nat → Nat → Int32} {Q : Nat → Nat → Option Nat} {J : Nat → Nat → Int64} (m n : Nat) (ar kc sp tu pt : Nat → Nat) (al : Nat → Bool) (x : Int32) (k : Nat) (hM : MZ K N Q m ar) (hK : KV I m ar n kc al sp tu pt) (hnd : (lastF (fun i => decide (I (ar 5) i = x)) n) = (some k)) (hsb : ∀ i, i < n → sp i < 2 ^ 30)  : XM l yX9_weight cX9_weight 2 (some .int) rm_X9_weightY G Ri [.ref m, .int x] (K, N, I, Q, J) (fun r S1 => r = nI (cnW n sp (sp k)) ∧ S1 = (K, N, x_u2 I m 18 (nI 0), Q, J)) := by
  refine x_meti (lv := [_, _]) (by decide +kernel) (x_cc (by first | rfl | exact x_crf _) (x_cc (by first | rfl | exact x_crf _) x_cn)) (Nat.le_of_ble_eq_true rfl) rfl ?_
  intro pP eE sS mM aA bB hH cC Z C hini ret
  have hk9 := hM.1
  obtain ⟨hn, hn201, hk5, hk6, hk7, hk8, hk9_⟩ := hK
  have h202 := hM.nk 6 (by decide)
  have hm5 := hM.nm 5 (by decide)
  have hm6 := hM.nm 6 (by decide)
  have hm7 := hM.nm 7 (by decide)
  have hm8 := hM.nm 8 (by decide)
  have hm9 := hM.nm 9 (by decide)
  have hkn := (lastF_lt hnd).1
  have h727 := hM.nk 7 (by decide)
  refine x_aload_n C D_X9_weight_0.1 rfl rfl (by first | exact Or.inr ⟨_, rfl⟩ | exact va_rf_or _ | exact Or.inl rfl) ?_
  refine x_iload_n C D_X9_weight_0.2.1 rfl rfl ?_
  refine x_callVz C (y := yX9_isNode) (c_X9_isNodeY l G m n ar kc sp tu pt al x k hM ⟨hn, hn201, hk5, hk6, hk7, hk8, hk9_⟩ hnd) (ci := 8) hM.1 (by decide) rfl rfl k_1093 k_1095 k_51 k_67 k_1096 hd_X9_isNode ⟨(Nat.le_of_ble_eq_true rfl), (Nat.le_of_ble_eq_true rfl)⟩ rfl (by first | exact Nat.le_of_ble_eq_true rfl | simp [x_crf, Value.category]) rfl rfl D_X9_weight_0.2.2.1 ⟨(Nat.le_of_ble_eq_true rfl), (Nat.le_of_ble_eq_true rfl)⟩ (fun r_2 S_2 h_2 => ?_)
  obtain ⟨rfl, rfl⟩ := h_2
  obtain ⟨I2, eI2⟩ : ∃ I2, I2 = x_u2 I m 18 (nI 0) := ⟨_, rfl⟩
  rw [← eI2]
  have i2 : ∀ a, a ≠ m → I2 a = I a := fun a ha => by rw [eI2, x_u2_a _ _ ha]
  have hn1 : I2 m 0 = nI n := by rw [eI2, x_u2_j _ _ (by omega)]; exact hn
  have h6 : ∀ i, i < n → I2 (ar 6) i = xb (al i) := fun i hi => by rw [i2 _ hm6]; exact hk6 i hi
  refine x_if_eq C 32 D_X9_weight_0.2.2.2.1 (by decide) (fun c_5 => ?_) (fun c_5 => ?_)
  · skip
    exact absurd c_5 (by decide)
  · skip
    first
    | have d_5 := cz_ne c_5 (by omega)
    | have d_5 := cb_ne c_5
    | skip
    refine x_aload_n C D_X9_weight_0.2.2.2.2.1 rfl rfl (by first | exact Or.inr ⟨_, rfl⟩ | exact va_rf_or _ | exact Or.inl rfl) ?_
    refine x_getQ C (ci := 8) (k0 := 7) (by assumption) (by decide) rfl (by decide) in_X9 k_909 rfl rfl D_X9_weight_0.2.2.2.2.2.1 ?_
    refine x_eqr (hM.2.1 7 (by decide)).1 ?_
    refine x_aload_n C D_X9_weight_0.2.2.2.2.2.2.1 rfl rfl (by first | exact Or.inr ⟨_, rfl⟩ | exact va_rf_or _ | exact Or.inl rfl) ?_
    refine x_getI C (ci := 8) (k0 := 0) (by assumption) (by decide) rfl (by decide) in_X9 k_902 rfl rfl D_X9_weight_0.2.2.2.2.2.2.2.1 ?_
    first
    | refine x_eqi _ (hn1) ?_
    | skip
    refine x_aload_n C D_X9_weight_0.2.2.2.2.2.2.2.2.1 rfl rfl (by first | exact Or.inr ⟨_, rfl⟩ | exact va_rf_or _ | exact Or.inl rfl) ?_
    refine x_getQ C (ci := 8) (k0 := 7) (by assumption) (by decide) rfl (by decide) in_X9 k_909 rfl rfl D_X9_weight_0.2.2.2.2.2.2.2.2.2.1 ?_
    refine x_eqr (hM.2.1 7 (by decide)).1 ?_
    refine x_aload_n C D_X9_weight_0.2.2.2.2.2.2.2.2.2.2.1 rfl rfl (by first | exact Or.inr ⟨_, rfl⟩ | exact va_rf_or _ | exact Or.inl rfl) ?_
    refine x_iload_n C D_X9_weight_0.2.2.2.2.2.2.2.2.2.2.2 rfl rfl ?_
    refine x_callVi C (y := yX9_nodeOf) (c_X9_nodeOf l G m n ar x hM hn1 (by omega)) (ci := 8) hM.1 (by decide) rfl rfl k_970 k_972 k_35 k_67 k_973 hd_X9_nodeOf ⟨(Nat.le_of_ble_eq_true rfl), (Nat.le_of_ble_eq_true rfl)⟩ rfl (by first | exact Nat.le_of_ble_eq_true rfl | simp [x_crf, Value.category]) rfl rfl D_X9_weight_1.1 ⟨(Nat.le_of_ble_eq_true rfl), (Nat.le_of_ble_eq_true rfl)⟩ (fun r_22 S_22 h_22 => ?_)
    obtain ⟨rfl, rfl⟩ := h_22
    refine x_eqi (oI (some k)) (by rw [show (fun i => decide (I2 (ar 5) i = x)) = (fun i => decide (I (ar 5) i = x)) by rw [i2 _ hm5], hnd]) ?_
    refine x_iald C _ (by first | assumption | exact (hM.2.1 _ (by decide)).2.1) rfl (by first | omega | (rw [hM.nk _ (by decide)]; omega) | (rw [hM.np _ (by decide)]; omega)) (by first | omega | (rw [hM.nk _ (by decide)]; omega) | (rw [hM.np _ (by decide)]; omega)) D_X9_weight_1.2.1 ?_
    refine x_eqi _ (show I2 (ar 7) k = nI (sp k) by rw [i2 _ hm7]; exact hk7 k hkn) ?_
    refine x_callSi C (y := yX9_weightAt) (c_X9_weightAt l G (ar 7) n (sp k) sp (hM.2.1 7 (by decide)).2.1 (by omega) (by omega) (by omega) (hsb k hkn) (fun i hi => ⟨by rw [i2 _ hm7]; exact hk7 i hi, hsb i hi⟩)) k_1005 k_1006 k_67 k_1007 hd_X9_weightAt ⟨(Nat.le_of_ble_eq_true rfl), (Nat.le_of_ble_eq_true rfl)⟩ rfl (by first | exact Nat.le_of_ble_eq_true rfl | simp [x_crf, Value.category]) rfl rfl D_X9_weight_1.2.2.1 ⟨(Nat.le_of_ble_eq_true rfl), (Nat.le_of_ble_eq_true rfl)⟩ (fun r_26 S_26 h_26 => ?_)
    obtain ⟨rfl, rfl⟩ := h_26
    refine x_goto C 33 D_X9_weight_1.2.2.2.1 (by decide) ?_
    refine ret _ _ _ _ _ _ rfl D_X9_weight_1.2.2.2.2.2 (Nat.le_of_ble_eq_true rfl) (Nat.le_of_ble_eq_true rfl) ?_
    exact ⟨rfl, by rw [eI2]⟩
abbrev rm_X9_partOfY : Room := { frames := 2, cells := 0, slots := 0, locals := 44 }
set_option maxHeartbeats 4000000 in
set_option maxRecDepth 100000 in
theorem c_X9_partOfY (l : Launch) (G : xG) {K N : Nat → Nat} {I : Nat → Nat → Int32} {Q : Nat → Nat → Option Nat} {J : Nat → Nat → Int64} (m n : Nat) (ar kc sp tu pt : Nat → Nat) (al : Nat → Bool) (x : Int32) (k : Nat) (hM : MZ K N Q m ar) (hK : KV I m ar n kc al sp tu pt) (hnd : (lastF (fun i => decide (I (ar 5) i = x)) n) = (some k))  : XM l yX9_partOf cX9_partOf 2 (some .int) rm_X9_partOfY G Ri [.ref m, .int x] (K, N, I, Q, J) (fun r S1 => r = nI (pt k) ∧ S1 = (K, N, x_u2 I m 18 (nI 0), Q, J)) := by
  refine x_meti (lv := [_, _]) (by decide +kernel) (x_cc (by first | rfl | exact x_crf _) (x_cc (by first | rfl | exact x_crf _) x_cn)) (Nat.le_of_ble_eq_true rfl) rfl ?_
  intro pP eE sS mM aA bB hH cC Z C hini ret
  have hk9 := hM.1
  obtain ⟨hn, hn201, hk5, hk6, hk7, hk8, hk9_⟩ := hK
  have h202 := hM.nk 6 (by decide)
  have hm5 := hM.nm 5 (by decide)
  have hm6 := hM.nm 6 (by decide)
  have hm7 := hM.nm 7 (by decide)
  have hm8 := hM.nm 8 (by decide)
  have hm9 := hM.nm 9 (by decide)
  have hkn := (lastF_lt hnd).1
  refine x_aload_n C D_X9_partOf_0.1 rfl rfl (by first | exact Or.inr ⟨_, rfl⟩ | exact va_rf_or _ | exact Or.inl rfl) ?_
  refine x_iload_n C D_X9_partOf_0.2.1 rfl rfl ?_
  refine x_callVz C (y := yX9_isNode) (c_X9_isNodeY l G m n ar kc sp tu pt al x k hM ⟨hn, hn201, hk5, hk6, hk7, hk8, hk9_⟩ hnd) (ci := 8) hM.1 (by decide) rfl rfl k_1093 k_1095 k_51 k_67 k_1096 hd_X9_isNode ⟨(Nat.le_of_ble_eq_true rfl), (Nat.le_of_ble_eq_true rfl)⟩ rfl (by first | exact Nat.le_of_ble_eq_true rfl | simp [x_crf, Value.category]) rfl rfl D_X9_partOf_0.2.2.1 ⟨(Nat.le_of_ble_eq_true rfl), (Nat.le_of_ble_eq_true rfl)⟩ (fun r_2 S_2 h_2 => ?_)
  obtain ⟨rfl, rfl⟩ := h_2
  obtain ⟨I2, eI2⟩ : ∃ I2, I2 = x_u2 I m 18 (nI 0) := ⟨_, rfl⟩
  rw [← eI2]
  have i2 : ∀ a, a ≠ m → I2 a = I a := fun a ha => by rw [eI2, x_u2_a _ _ ha]
  have hn1 : I2 m 0 = nI n := by rw [eI2, x_u2_j _ _ (by omega)]; exact hn
  have h6 : ∀ i, i < n → I2 (ar 6) i = xb (al i) := fun i hi => by rw [i2 _ hm6]; exact hk6 i hi
  refine x_if_eq C 21 D_X9_partOf_0.2.2.2.1 (by decide) (fun c_5 => ?_) (fun c_5 => ?_)
  · skip
    exact absurd c_5 (by decide)
  · skip
    first
    | have d_5 := cz_ne c_5 (by omega)
    | have d_5 := cb_ne c_5
    | skip
    refine x_aload_n C D_X9_partOf_0.2.2.2.2.1 rfl rfl (by first | exact Or.inr ⟨_, rfl⟩ | exact va_rf_or _ | exact Or.inl rfl) ?_
    refine x_getQ C (ci := 8) (k0 := 9) (by assumption) (by decide) rfl (by decide) in_X9 k_911 rfl rfl D_X9_partOf_0.2.2.2.2.2.1 ?_
    refine x_eqr (hM.2.1 9 (by decide)).1 ?_
    refine x_aload_n C D_X9_partOf_0.2.2.2.2.2.2.1 rfl rfl (by first | exact Or.inr ⟨_, rfl⟩ | exact va_rf_or _ | exact Or.inl rfl) ?_
    refine x_iload_n C D_X9_partOf_0.2.2.2.2.2.2.2.1 rfl rfl ?_
    refine x_callVi C (y := yX9_nodeOf) (c_X9_nodeOf l G m n ar x hM hn1 (by omega)) (ci := 8) hM.1 (by decide) rfl rfl k_970 k_972 k_35 k_67 k_973 hd_X9_nodeOf ⟨(Nat.le_of_ble_eq_true rfl), (Nat.le_of_ble_eq_true rfl)⟩ rfl (by first | exact Nat.le_of_ble_eq_true rfl | simp [x_crf, Value.category]) rfl rfl D_X9_partOf_0.2.2.2.2.2.2.2.2.1 ⟨(Nat.le_of_ble_eq_true rfl), (Nat.le_of_ble_eq_true rfl)⟩ (fun r_14 S_14 h_14 => ?_)
    obtain ⟨rfl, rfl⟩ := h_14
    refine x_eqi (oI (some k)) (by rw [show (fun i => decide (I2 (ar 5) i = x)) = (fun i => decide (I (ar 5) i = x)) by rw [i2 _ hm5], hnd]) ?_
    refine x_iald C _ (by first | assumption | exact (hM.2.1 _ (by decide)).2.1) rfl (by first | omega | (rw [hM.nk _ (by decide)]; omega) | (rw [hM.np _ (by decide)]; omega)) (by first | omega | (rw [hM.nk _ (by decide)]; omega) | (rw [hM.np _ (by decide)]; omega)) D_X9_partOf_0.2.2.2.2.2.2.2.2.2.1 ?_
    refine x_eqi _ (show I2 (ar 9) k = nI (pt k) by rw [i2 _ hm9]; exact hk9_ k hkn) ?_
    refine x_goto C 22 D_X9_partOf_0.2.2.2.2.2.2.2.2.2.2.1 (by decide) ?_
    refine ret _ _ _ _ _ _ rfl D_X9_partOf_1 (Nat.le_of_ble_eq_true rfl) (Nat.le_of_ble_eq_true rfl) ?_
    exact ⟨rfl, by rw [eI2]⟩
abbrev rm_X9_depthInTurningN : Room := { frames := 1, cells := 0, slots := 0, locals := 23 }
set_option maxHeartbeats 4000000 in
set_option maxRecDepth 100000 in
theorem c_X9_depthInTurningN (l : Launch) (G : xG) {K N : Nat → Nat} {I : Nat → Nat → Int32} {Q : Nat → Nat → Option Nat} {J : Nat → Nat → Int64} (m n : Nat) (ar kc sp tu pt : Nat → Nat) (al : Nat → Bool) (x : Int32) (hM : MZ K N Q m ar) (hK : KV I m ar n kc al sp tu pt) (hnd : (lastF (fun i => decide (I (ar 5) i = x)) n) = none) (htb : ∀ i, i < n → tu i < 2 ^ 30)  : XM l yX9_depthInTurning cX9_depthInTurning 3 (some .int) rm_X9_depthInTurningN G Ri [.ref m, .int x] (K, N, I, Q, J) (fun r S1 => r = nI 0 ∧ S1 = (K, N, x_u2 I m 18 (nI 1), Q, J)) := by
  refine x_meti (lv := [_, _, _]) (by decide +kernel) (x_cc (by first | rfl | exact x_crf _) (x_cc (by first | rfl | exact x_crf _) x_cn)) (Nat.le_of_ble_eq_true rfl) rfl ?_
  intro pP eE sS mM aA bB hH cC Z C hini ret
  have hk9 := hM.1
  obtain ⟨hn, hn201, hk5, hk6, hk7, hk8, hk9_⟩ := hK
  have h202 := hM.nk 6 (by decide)
  have hm5 := hM.nm 5 (by decide)
  have hm6 := hM.nm 6 (by decide)
  have hm7 := hM.nm 7 (by decide)
  have hm8 := hM.nm 8 (by decide)
  have hm9 := hM.nm 9 (by decide)
  refine x_aload_n C D_X9_depthInTurning_0.1 rfl rfl (by first | exact Or.inr ⟨_, rfl⟩ | exact va_rf_or _ | exact Or.inl rfl) ?_
  refine x_iload_n C D_X9_depthInTurning_0.2.1 rfl rfl ?_
  refine x_callVi C (y := yX9_nodeOf) (c_X9_nodeOf l G m n ar x hM hn (by omega)) (ci := 8) hM.1 (by decide) rfl rfl k_970 k_972 k_35 k_67 k_973 hd_X9_nodeOf ⟨(Nat.le_of_ble_eq_true rfl), (Nat.le_of_ble_eq_true rfl)⟩ rfl (by first | exact Nat.le_of_ble_eq_true rfl | simp [x_crf, Value.category]) rfl rfl D_X9_depthInTurning_0.2.2.1 ⟨(Nat.le_of_ble_eq_true rfl), (Nat.le_of_ble_eq_true rfl)⟩ (fun r_2 S_2 h_2 => ?_)
  obtain ⟨rfl, rfl⟩ := h_2
  refine x_eqi (oI none) (by rw [hnd]) ?_
  refine x_istore_n C (lv' := [_, _, _]) D_X9_depthInTurning_0.2.2.2.1 rfl (Nat.le_of_ble_eq_true rfl) (by first | rfl | exact x_ok_q rfl) rfl ?_
  refine x_aload_n C D_X9_depthInTurning_0.2.2.2.2.1 rfl rfl (by first | exact Or.inr ⟨_, rfl⟩ | exact va_rf_or _ | exact Or.inl rfl) ?_
  refine x_iload_n C D_X9_depthInTurning_0.2.2.2.2.2.1 rfl rfl ?_
  refine x_iconst C (v := (-1)) D_X9_depthInTurning_0.2.2.2.2.2.2.1 (by decide +kernel) ?_
  refine x_icmp_eq C 21 D_X9_depthInTurning_0.2.2.2.2.2.2.2.1 (by decide) (fun c_9 => ?_) (fun c_9 => ?_)
  · skip
    first
    | have d_9 := cv_eq c_9 (by omega) (by omega)
    | skip
    refine x_iconst C (v := nI 1) D_X9_depthInTurning_1.2.1 (by decide +kernel) ?_
    refine x_goto C 26 D_X9_depthInTurning_1.2.2.1 (by decide) ?_
    refine x_callVz C (y := yX9_can) (c_X9_can l G m _ hM.1) (ci := 8) hM.1 (by decide) rfl rfl k_978 k_980 k_37 k_67 k_981 hd_X9_can ⟨(Nat.le_of_ble_eq_true rfl), (Nat.le_of_ble_eq_true rfl)⟩ rfl (by first | exact Nat.le_of_ble_eq_true rfl | simp [x_crf, Value.category]) rfl rfl D_X9_depthInTurning_1.2.2.2.2.1 ⟨(Nat.le_of_ble_eq_true rfl), (Nat.le_of_ble_eq_true rfl)⟩ (fun r_26 S_26 h_26 => ?_)
    obtain ⟨rfl, rfl⟩ := h_26
    obtain ⟨I2, eI2⟩ : ∃ I2, I2 = x_u2 I m 18 (nI 1) := ⟨_, rfl⟩
    rw [← eI2]
    have i2 : ∀ a, a ≠ m → I2 a = I a := fun a ha => by rw [eI2, x_u2_a _ _ ha]
    have hn1 : I2 m 0 = nI n := by rw [eI2, x_u2_j _ _ (by omega)]; exact hn
    have h6 : ∀ i, i < n → I2 (ar 6) i = xb (al i) := fun i hi => by rw [i2 _ hm6]; exact hk6 i hi
    refine x_if_eq C 44 D_X9_depthInTurning_1.2.2.2.2.2.1 (by decide) (fun c_29 => ?_) (fun c_29 => ?_)
    · skip
      first
      | have d_29 := cz_eq c_29 (by omega)
      | have d_29 := cb_eq c_29
      | skip
      refine x_iconst C (v := nI 0) D_X9_depthInTurning_2.1 (by decide +kernel) ?_
      refine ret _ _ _ _ _ _ rfl D_X9_depthInTurning_2.2 (Nat.le_of_ble_eq_true rfl) (Nat.le_of_ble_eq_true rfl) ?_
      exact ⟨rfl, by rw [eI2]⟩
    · skip
      exact absurd c_29 (by decide)
  · skip
    exact absurd c_9 (by decide)
abbrev rm_X9_depthInTurningG : Room := { frames := 1, cells := 0, slots := 0, locals := 23 }
set_option maxHeartbeats 4000000 in
set_option maxRecDepth 100000 in
theorem c_X9_depthInTurningG (l : Launch) (G : xG) {K N : Nat → Nat} {I : Nat → Nat → Int32} {Q : Nat → Nat → Option Nat} {J : Nat → Nat → Int64} (m n : Nat) (ar kc sp tu pt : Nat → Nat) (al : Nat → Bool) (x : Int32) (k : Nat) (hM : MZ K N Q m ar) (hK : KV I m ar n kc al sp tu pt) (hnd : (lastF (fun i => decide (I (ar 5) i = x)) n) = (some k)) (hal : al k = false) (htb : ∀ i, i < n → tu i < 2 ^ 30)  : XM l yX9_depthInTurning cX9_depthInTurning 3 (some .int) rm_X9_depthInTurningG G Ri [.ref m, .int x] (K, N, I, Q, J) (fun r S1 => r = nI 0 ∧ S1 = (K, N, x_u2 I m 18 (nI 1), Q, J)) := by
  refine x_meti (lv := [_, _, _]) (by decide +kernel) (x_cc (by first | rfl | exact x_crf _) (x_cc (by first | rfl | exact x_crf _) x_cn)) (Nat.le_of_ble_eq_true rfl) rfl ?_
  intro pP eE sS mM aA bB hH cC Z C hini ret
  have hk9 := hM.1
  obtain ⟨hn, hn201, hk5, hk6, hk7, hk8, hk9_⟩ := hK
  have h202 := hM.nk 6 (by decide)
  have hm5 := hM.nm 5 (by decide)
  have hm6 := hM.nm 6 (by decide)
  have hm7 := hM.nm 7 (by decide)
  have hm8 := hM.nm 8 (by decide)
  have hm9 := hM.nm 9 (by decide)
  have hkn := (lastF_lt hnd).1
  refine x_aload_n C D_X9_depthInTurning_0.1 rfl rfl (by first | exact Or.inr ⟨_, rfl⟩ | exact va_rf_or _ | exact Or.inl rfl) ?_
  refine x_iload_n C D_X9_depthInTurning_0.2.1 rfl rfl ?_
  refine x_callVi C (y := yX9_nodeOf) (c_X9_nodeOf l G m n ar x hM hn (by omega)) (ci := 8) hM.1 (by decide) rfl rfl k_970 k_972 k_35 k_67 k_973 hd_X9_nodeOf ⟨(Nat.le_of_ble_eq_true rfl), (Nat.le_of_ble_eq_true rfl)⟩ rfl (by first | exact Nat.le_of_ble_eq_true rfl | simp [x_crf, Value.category]) rfl rfl D_X9_depthInTurning_0.2.2.1 ⟨(Nat.le_of_ble_eq_true rfl), (Nat.le_of_ble_eq_true rfl)⟩ (fun r_2 S_2 h_2 => ?_)
  obtain ⟨rfl, rfl⟩ := h_2
  refine x_eqi (oI (some k)) (by rw [hnd]) ?_
  refine x_istore_n C (lv' := [_, _, _]) D_X9_depthInTurning_0.2.2.2.1 rfl (Nat.le_of_ble_eq_true rfl) (by first | rfl | exact x_ok_q rfl) rfl ?_
  refine x_aload_n C D_X9_depthInTurning_0.2.2.2.2.1 rfl rfl (by first | exact Or.inr ⟨_, rfl⟩ | exact va_rf_or _ | exact Or.inl rfl) ?_
  refine x_iload_n C D_X9_depthInTurning_0.2.2.2.2.2.1 rfl rfl ?_
  refine x_iconst C (v := (-1)) D_X9_depthInTurning_0.2.2.2.2.2.2.1 (by decide +kernel) ?_
  refine x_icmp_eq C 21 D_X9_depthInTurning_0.2.2.2.2.2.2.2.1 (by decide) (fun c_9 => ?_) (fun c_9 => ?_)
  · skip
    exact absurd c_9 (oI_nn k (by omega))
    --end
  · skip
    refine x_aload_n C D_X9_depthInTurning_0.2.2.2.2.2.2.2.2.1 rfl rfl (by first | exact Or.inr ⟨_, rfl⟩ | exact va_rf_or _ | exact Or.inl rfl) ?_
    refine x_getQ C (ci := 8) (k0 := 6) (by assumption) (by decide) rfl (by decide) in_X9 k_908 rfl rfl D_X9_depthInTurning_0.2.2.2.2.2.2.2.2.2.1 ?_
    refine x_eqr (hM.2.1 6 (by decide)).1 ?_
    refine x_iload_n C D_X9_depthInTurning_0.2.2.2.2.2.2.2.2.2.2.1 rfl rfl ?_
    refine x_zald C _ (by first | assumption | exact (hM.2.1 _ (by decide)).2.1) rfl (by first | omega | (rw [hM.nk _ (by decide)]; omega) | (rw [hM.np _ (by decide)]; omega)) (by first | omega | (rw [hM.nk _ (by decide)]; omega) | (rw [hM.np _ (by decide)]; omega)) D_X9_depthInTurning_0.2.2.2.2.2.2.2.2.2.2.2 ?_
    refine x_eqi _ (show I (ar 6) k = xb false by rw [hk6 k hkn, hal]) ?_
    refine x_if_ne C 25 D_X9_depthInTurning_1.1 (by decide) (fun c_18 => ?_) (fun c_18 => ?_)
    · skip
      exact absurd c_18 (by decide)
    · skip
      first
      | have d_18 := cz_eq c_18 (by omega)
      | have d_18 := cb_eq c_18
      | skip
      refine x_iconst C (v := nI 1) D_X9_depthInTurning_1.2.1 (by decide +kernel) ?_
      refine x_goto C 26 D_X9_depthInTurning_1.2.2.1 (by decide) ?_
      refine x_callVz C (y := yX9_can) (c_X9_can l G m _ hM.1) (ci := 8) hM.1 (by decide) rfl rfl k_978 k_980 k_37 k_67 k_981 hd_X9_can ⟨(Nat.le_of_ble_eq_true rfl), (Nat.le_of_ble_eq_true rfl)⟩ rfl (by first | exact Nat.le_of_ble_eq_true rfl | simp [x_crf, Value.category]) rfl rfl D_X9_depthInTurning_1.2.2.2.2.1 ⟨(Nat.le_of_ble_eq_true rfl), (Nat.le_of_ble_eq_true rfl)⟩ (fun r_26 S_26 h_26 => ?_)
      obtain ⟨rfl, rfl⟩ := h_26
      obtain ⟨I2, eI2⟩ : ∃ I2, I2 = x_u2 I m 18 (nI 1) := ⟨_, rfl⟩
      rw [← eI2]
      have i2 : ∀ a, a ≠ m → I2 a = I a := fun a ha => by rw [eI2, x_u2_a _ _ ha]
      have hn1 : I2 m 0 = nI n := by rw [eI2, x_u2_j _ _ (by omega)]; exact hn
      have h6 : ∀ i, i < n → I2 (ar 6) i = xb (al i) := fun i hi => by rw [i2 _ hm6]; exact hk6 i hi
      refine x_if_eq C 44 D_X9_depthInTurning_1.2.2.2.2.2.1 (by decide) (fun c_29 => ?_) (fun c_29 => ?_)
      · skip
        first
        | have d_29 := cz_eq c_29 (by omega)
        | have d_29 := cb_eq c_29
        | skip
        refine x_iconst C (v := nI 0) D_X9_depthInTurning_2.1 (by decide +kernel) ?_
        refine ret _ _ _ _ _ _ rfl D_X9_depthInTurning_2.2 (Nat.le_of_ble_eq_true rfl) (Nat.le_of_ble_eq_true rfl) ?_
        exact ⟨rfl, by rw [eI2]⟩
      · skip
        exact absurd c_29 (by decide)
abbrev rm_X9_depthInTurningY : Room := { frames := 1, cells := 0, slots := 0, locals := 23 }
set_option maxHeartbeats 4000000 in
set_option maxRecDepth 100000 in
theorem c_X9_depthInTurningY (l : Launch) (G : xG) {K N : Nat → Nat} {I : Nat → Nat → Int32} {Q : Nat → Nat → Option Nat} {J : Nat → Nat → Int64} (m n : Nat) (ar kc sp tu pt : Nat → Nat) (al : Nat → Bool) (x : Int32) (k : Nat) (hM : MZ K N Q m ar) (hK : KV I m ar n kc al sp tu pt) (hnd : (lastF (fun i => decide (I (ar 5) i = x)) n) = (some k)) (hal : al k = true) (htb : ∀ i, i < n → tu i < 2 ^ 30)  : XM l yX9_depthInTurning cX9_depthInTurning 3 (some .int) rm_X9_depthInTurningY G Ri [.ref m, .int x] (K, N, I, Q, J) (fun r S1 => r = nI (dep (tu k)) ∧ S1 = (K, N, x_u2 I m 18 (nI 0), Q, J)) := by
  refine x_meti (lv := [_, _, _]) (by decide +kernel) (x_cc (by first | rfl | exact x_crf _) (x_cc (by first | rfl | exact x_crf _) x_cn)) (Nat.le_of_ble_eq_true rfl) rfl ?_
  intro pP eE sS mM aA bB hH cC Z C hini ret
  have hk9 := hM.1
  obtain ⟨hn, hn201, hk5, hk6, hk7, hk8, hk9_⟩ := hK
  have h202 := hM.nk 6 (by decide)
  have hm5 := hM.nm 5 (by decide)
  have hm6 := hM.nm 6 (by decide)
  have hm7 := hM.nm 7 (by decide)
  have hm8 := hM.nm 8 (by decide)
  have hm9 := hM.nm 9 (by decide)
  have hkn := (lastF_lt hnd).1
  refine x_aload_n C D_X9_depthInTurning_0.1 rfl rfl (by first | exact Or.inr ⟨_, rfl⟩ | exact va_rf_or _ | exact Or.inl rfl) ?_
  refine x_iload_n C D_X9_depthInTurning_0.2.1 rfl rfl ?_
  refine x_callVi C (y := yX9_nodeOf) (c_X9_nodeOf l G m n ar x hM hn (by omega)) (ci := 8) hM.1 (by decide) rfl rfl k_970 k_972 k_35 k_67 k_973 hd_X9_nodeOf ⟨(Nat.le_of_ble_eq_true rfl), (Nat.le_of_ble_eq_true rfl)⟩ rfl (by first | exact Nat.le_of_ble_eq_true rfl | simp [x_crf, Value.category]) rfl rfl D_X9_depthInTurning_0.2.2.1 ⟨(Nat.le_of_ble_eq_true rfl), (Nat.le_of_ble_eq_true rfl)⟩ (fun r_2 S_2 h_2 => ?_)
  obtain ⟨rfl, rfl⟩ := h_2
  refine x_eqi (oI (some k)) (by rw [hnd]) ?_
  refine x_istore_n C (lv' := [_, _, _]) D_X9_depthInTurning_0.2.2.2.1 rfl (Nat.le_of_ble_eq_true rfl) (by first | rfl | exact x_ok_q rfl) rfl ?_
  refine x_aload_n C D_X9_depthInTurning_0.2.2.2.2.1 rfl rfl (by first | exact Or.inr ⟨_, rfl⟩ | exact va_rf_or _ | exact Or.inl rfl) ?_
  refine x_iload_n C D_X9_depthInTurning_0.2.2.2.2.2.1 rfl rfl ?_
  refine x_iconst C (v := (-1)) D_X9_depthInTurning_0.2.2.2.2.2.2.1 (by decide +kernel) ?_
  refine x_icmp_eq C 21 D_X9_depthInTurning_0.2.2.2.2.2.2.2.1 (by decide) (fun c_9 => ?_) (fun c_9 => ?_)
  · skip
    exact absurd c_9 (oI_nn k (by omega))
    --end
  · skip
    refine x_aload_n C D_X9_depthInTurning_0.2.2.2.2.2.2.2.2.1 rfl rfl (by first | exact Or.inr ⟨_, rfl⟩ | exact va_rf_or _ | exact Or.inl rfl) ?_
    refine x_getQ C (ci := 8) (k0 := 6) (by assumption) (by decide) rfl (by decide) in_X9 k_908 rfl rfl D_X9_depthInTurning_0.2.2.2.2.2.2.2.2.2.1 ?_
    refine x_eqr (hM.2.1 6 (by decide)).1 ?_
    refine x_iload_n C D_X9_depthInTurning_0.2.2.2.2.2.2.2.2.2.2.1 rfl rfl ?_
    refine x_zald C _ (by first | assumption | exact (hM.2.1 _ (by decide)).2.1) rfl (by first | omega | (rw [hM.nk _ (by decide)]; omega) | (rw [hM.np _ (by decide)]; omega)) (by first | omega | (rw [hM.nk _ (by decide)]; omega) | (rw [hM.np _ (by decide)]; omega)) D_X9_depthInTurning_0.2.2.2.2.2.2.2.2.2.2.2 ?_
    refine x_eqi _ (show I (ar 6) k = xb true by rw [hk6 k hkn, hal]) ?_
    refine x_if_ne C 25 D_X9_depthInTurning_1.1 (by decide) (fun c_18 => ?_) (fun c_18 => ?_)
    · skip
      first
      | have d_18 := cz_ne c_18 (by omega)
      | have d_18 := cb_ne c_18
      | skip
      refine x_iconst C (v := nI 0) D_X9_depthInTurning_1.2.2.2.1 (by decide +kernel) ?_
      refine x_callVz C (y := yX9_can) (c_X9_can l G m _ hM.1) (ci := 8) hM.1 (by decide) rfl rfl k_978 k_980 k_37 k_67 k_981 hd_X9_can ⟨(Nat.le_of_ble_eq_true rfl), (Nat.le_of_ble_eq_true rfl)⟩ rfl (by first | exact Nat.le_of_ble_eq_true rfl | simp [x_crf, Value.category]) rfl rfl D_X9_depthInTurning_1.2.2.2.2.1 ⟨(Nat.le_of_ble_eq_true rfl), (Nat.le_of_ble_eq_true rfl)⟩ (fun r_26 S_26 h_26 => ?_)
      obtain ⟨rfl, rfl⟩ := h_26
      obtain ⟨I2, eI2⟩ : ∃ I2, I2 = x_u2 I m 18 (nI 0) := ⟨_, rfl⟩
      rw [← eI2]
      have i2 : ∀ a, a ≠ m → I2 a = I a := fun a ha => by rw [eI2, x_u2_a _ _ ha]
      have hn1 : I2 m 0 = nI n := by rw [eI2, x_u2_j _ _ (by omega)]; exact hn
      have h6 : ∀ i, i < n → I2 (ar 6) i = xb (al i) := fun i hi => by rw [i2 _ hm6]; exact hk6 i hi
      refine x_if_eq C 44 D_X9_depthInTurning_1.2.2.2.2.2.1 (by decide) (fun c_29 => ?_) (fun c_29 => ?_)
      · skip
        exact absurd c_29 (by decide)
      · skip
        first
        | have d_29 := cz_ne c_29 (by omega)
        | have d_29 := cb_ne c_29
        | skip
        refine x_aload_n C D_X9_depthInTurning_1.2.2.2.2.2.2.1 rfl rfl (by first | exact Or.inr ⟨_, rfl⟩ | exact va_rf_or _ | exact Or.inl rfl) ?_
        refine x_getQ C (ci := 8) (k0 := 8) (by assumption) (by decide) rfl (by decide) in_X9 k_910 rfl rfl D_X9_depthInTurning_1.2.2.2.2.2.2.2.1 ?_
        refine x_eqr (hM.2.1 8 (by decide)).1 ?_
        refine x_iload_n C D_X9_depthInTurning_1.2.2.2.2.2.2.2.2.1 rfl rfl ?_
        refine x_iald C _ (by first | assumption | exact (hM.2.1 _ (by decide)).2.1) rfl (by first | omega | (rw [hM.nk _ (by decide)]; omega) | (rw [hM.np _ (by decide)]; omega)) (by first | omega | (rw [hM.nk _ (by decide)]; omega) | (rw [hM.np _ (by decide)]; omega)) D_X9_depthInTurning_1.2.2.2.2.2.2.2.2.2.1 ?_
        refine x_eqi _ (show I2 (ar 8) k = nI (tu k) by rw [i2 _ hm8]; exact hk8 k hkn) ?_
        refine x_callSi C (y := yX9_depthOf) (c_X9_depthOf l G (tu k) (htb k hkn)) k_1011 k_1012 k_67 k_1013 hd_X9_depthOf ⟨(Nat.le_of_ble_eq_true rfl), (Nat.le_of_ble_eq_true rfl)⟩ rfl (by first | exact Nat.le_of_ble_eq_true rfl | simp [x_crf, Value.category]) rfl rfl D_X9_depthInTurning_1.2.2.2.2.2.2.2.2.2.2.1 ⟨(Nat.le_of_ble_eq_true rfl), (Nat.le_of_ble_eq_true rfl)⟩ (fun r_38 S_38 h_38 => ?_)
        obtain ⟨rfl, rfl⟩ := h_38
        refine x_goto C 45 D_X9_depthInTurning_1.2.2.2.2.2.2.2.2.2.2.2 (by decide) ?_
        refine ret _ _ _ _ _ _ rfl D_X9_depthInTurning_2.2 (Nat.le_of_ble_eq_true rfl) (Nat.le_of_ble_eq_true rfl) ?_
        exact ⟨rfl, by rw [eI2]⟩
    · skip
      exact absurd c_18 (by decide)
abbrev rm_X9_turningRootN : Room := { frames := 1, cells := 0, slots := 0, locals := 24 }
set_option maxHeartbeats 4000000 in
set_option maxRecDepth 100000 in
theorem c_X9_turningRootN (l : Launch) (G : xG) {K N : Nat → Nat} {I : Nat → Nat → Int32} {Q : Nat → Nat → Option Nat} {J : Nat → Nat → Int64} (m n : Nat) (ar kc sp tu pt : Nat → Nat) (al : Nat → Bool) (hM : MZ K N Q m ar) (hK : KV I m ar n kc al sp tu pt) (hnd : (lastF (fun i => decide (tu i = 1)) n) = none) (htb : ∀ i, i < n → tu i < 2 ^ 30)  : XM l yX9_turningRoot cX9_turningRoot 2 (some .int) rm_X9_turningRootN G Ri [.ref m] (K, N, I, Q, J) (fun r S1 => r = nI 0 ∧ S1 = (K, N, x_u2 I m 18 (nI 1), Q, J)) := by
  refine x_meti (lv := [_, _]) (by decide +kernel) (x_cc (by first | rfl | exact x_crf _) x_cn) (Nat.le_of_ble_eq_true rfl) rfl ?_
  intro pP eE sS mM aA bB hH cC Z C hini ret
  have hk9 := hM.1
  obtain ⟨hn, hn201, hk5, hk6, hk7, hk8, hk9_⟩ := hK
  have h202 := hM.nk 6 (by decide)
  have hm5 := hM.nm 5 (by decide)
  have hm6 := hM.nm 6 (by decide)
  have hm7 := hM.nm 7 (by decide)
  have hm8 := hM.nm 8 (by decide)
  have hm9 := hM.nm 9 (by decide)
  have h828 := hM.nk 8 (by decide)
  refine x_aload_n C D_X9_turningRoot_0.1 rfl rfl (by first | exact Or.inr ⟨_, rfl⟩ | exact va_rf_or _ | exact Or.inl rfl) ?_
  refine x_getQ C (ci := 8) (k0 := 8) (by assumption) (by decide) rfl (by decide) in_X9 k_910 rfl rfl D_X9_turningRoot_0.2.1 ?_
  refine x_eqr (hM.2.1 8 (by decide)).1 ?_
  refine x_aload_n C D_X9_turningRoot_0.2.2.1 rfl rfl (by first | exact Or.inr ⟨_, rfl⟩ | exact va_rf_or _ | exact Or.inl rfl) ?_
  refine x_getI C (ci := 8) (k0 := 0) (by assumption) (by decide) rfl (by decide) in_X9 k_902 rfl rfl D_X9_turningRoot_0.2.2.2.1 ?_
  first
  | refine x_eqi _ (hn) ?_
  | skip
  refine x_iconst C (v := nI 1) D_X9_turningRoot_0.2.2.2.2.1 (by decide +kernel) ?_
  refine x_callSi C (y := yX9_nodeAt) (c_X9_nodeAt l G (ar 8) n 1 tu (hM.2.1 8 (by decide)).2.1 (by omega) (by omega) (by omega) (by omega) (fun i hi => ⟨hk8 i hi, by have := htb i hi; omega⟩)) k_990 k_991 k_67 k_992 hd_X9_nodeAt ⟨(Nat.le_of_ble_eq_true rfl), (Nat.le_of_ble_eq_true rfl)⟩ rfl (by first | exact Nat.le_of_ble_eq_true rfl | simp [x_crf, Value.category]) rfl rfl D_X9_turningRoot_0.2.2.2.2.2.1 ⟨(Nat.le_of_ble_eq_true rfl), (Nat.le_of_ble_eq_true rfl)⟩ (fun r_9 S_9 h_9 => ?_)
  obtain ⟨rfl, rfl⟩ := h_9
  refine x_eqi (oI none) (by rw [hnd]) ?_
  refine x_istore_n C (lv' := [_, _]) D_X9_turningRoot_0.2.2.2.2.2.2.1 rfl (Nat.le_of_ble_eq_true rfl) (by first | rfl | exact x_ok_q rfl) rfl ?_
  refine x_aload_n C D_X9_turningRoot_0.2.2.2.2.2.2.2.1 rfl rfl (by first | exact Or.inr ⟨_, rfl⟩ | exact va_rf_or _ | exact Or.inl rfl) ?_
  refine x_iload_n C D_X9_turningRoot_0.2.2.2.2.2.2.2.2.1 rfl rfl ?_
  refine x_iconst C (v := (-1)) D_X9_turningRoot_0.2.2.2.2.2.2.2.2.2.1 (by decide +kernel) ?_
  refine x_icmp_ne C 23 D_X9_turningRoot_0.2.2.2.2.2.2.2.2.2.2.1 (by decide) (fun c_16 => ?_) (fun c_16 => ?_)
  · skip
    exact absurd c_16 (by decide)
  · skip
    first
    | have d_16 := cv_eq c_16 (by omega) (by omega)
    | skip
    refine x_iconst C (v := nI 1) D_X9_turningRoot_0.2.2.2.2.2.2.2.2.2.2.2 (by decide +kernel) ?_
    refine x_goto C 24 D_X9_turningRoot_1.1 (by decide) ?_
    refine x_callVz C (y := yX9_can) (c_X9_can l G m _ hM.1) (ci := 8) hM.1 (by decide) rfl rfl k_978 k_980 k_37 k_67 k_981 hd_X9_can ⟨(Nat.le_of_ble_eq_true rfl), (Nat.le_of_ble_eq_true rfl)⟩ rfl (by first | exact Nat.le_of_ble_eq_true rfl | simp [x_crf, Value.category]) rfl rfl D_X9_turningRoot_1.2.2.1 ⟨(Nat.le_of_ble_eq_true rfl), (Nat.le_of_ble_eq_true rfl)⟩ (fun r_24 S_24 h_24 => ?_)
    obtain ⟨rfl, rfl⟩ := h_24
    obtain ⟨I2, eI2⟩ : ∃ I2, I2 = x_u2 I m 18 (nI 1) := ⟨_, rfl⟩
    rw [← eI2]
    have i2 : ∀ a, a ≠ m → I2 a = I a := fun a ha => by rw [eI2, x_u2_a _ _ ha]
    have hn1 : I2 m 0 = nI n := by rw [eI2, x_u2_j _ _ (by omega)]; exact hn
    have h6 : ∀ i, i < n → I2 (ar 6) i = xb (al i) := fun i hi => by rw [i2 _ hm6]; exact hk6 i hi
    refine x_if_eq C 39 D_X9_turningRoot_1.2.2.2.1 (by decide) (fun c_27 => ?_) (fun c_27 => ?_)
    · skip
      first
      | have d_27 := cz_eq c_27 (by omega)
      | have d_27 := cb_eq c_27
      | skip
      refine x_iconst C (v := nI 0) D_X9_turningRoot_1.2.2.2.2.2.2.2.2.2.1 (by decide +kernel) ?_
      refine ret _ _ _ _ _ _ rfl D_X9_turningRoot_1.2.2.2.2.2.2.2.2.2.2 (Nat.le_of_ble_eq_true rfl) (Nat.le_of_ble_eq_true rfl) ?_
      exact ⟨rfl, by rw [eI2]⟩
    · skip
      exact absurd c_27 (by decide)
abbrev rm_X9_turningRootY : Room := { frames := 1, cells := 0, slots := 0, locals := 24 }
set_option maxHeartbeats 4000000 in
set_option maxRecDepth 100000 in
theorem c_X9_turningRootY (l : Launch) (G : xG) {K N : Nat → Nat} {I : Nat → Nat → Int32} {Q : Nat → Nat → Option Nat} {J : Nat → Nat → Int64} (m n : Nat) (ar kc sp tu pt : Nat → Nat) (al : Nat → Bool) (k : Nat) (hM : MZ K N Q m ar) (hK : KV I m ar n kc al sp tu pt) (hnd : (lastF (fun i => decide (tu i = 1)) n) = (some k)) (htb : ∀ i, i < n → tu i < 2 ^ 30)  : XM l yX9_turningRoot cX9_turningRoot 2 (some .int) rm_X9_turningRootY G Ri [.ref m] (K, N, I, Q, J) (fun r S1 => r = cv1 (kc k) ∧ S1 = (K, N, x_u2 I m 18 (nI 0), Q, J)) := by
  refine x_meti (lv := [_, _]) (by decide +kernel) (x_cc (by first | rfl | exact x_crf _) x_cn) (Nat.le_of_ble_eq_true rfl) rfl ?_
  intro pP eE sS mM aA bB hH cC Z C hini ret
  have hk9 := hM.1
  obtain ⟨hn, hn201, hk5, hk6, hk7, hk8, hk9_⟩ := hK
  have h202 := hM.nk 6 (by decide)
  have hm5 := hM.nm 5 (by decide)
  have hm6 := hM.nm 6 (by decide)
  have hm7 := hM.nm 7 (by decide)
  have hm8 := hM.nm 8 (by decide)
  have hm9 := hM.nm 9 (by decide)
  have h828 := hM.nk 8 (by decide)
  have hkn := (lastF_lt hnd).1
  refine x_aload_n C D_X9_turningRoot_0.1 rfl rfl (by first | exact Or.inr ⟨_, rfl⟩ | exact va_rf_or _ | exact Or.inl rfl) ?_
  refine x_getQ C (ci := 8) (k0 := 8) (by assumption) (by decide) rfl (by decide) in_X9 k_910 rfl rfl D_X9_turningRoot_0.2.1 ?_
  refine x_eqr (hM.2.1 8 (by decide)).1 ?_
  refine x_aload_n C D_X9_turningRoot_0.2.2.1 rfl rfl (by first | exact Or.inr ⟨_, rfl⟩ | exact va_rf_or _ | exact Or.inl rfl) ?_
  refine x_getI C (ci := 8) (k0 := 0) (by assumption) (by decide) rfl (by decide) in_X9 k_902 rfl rfl D_X9_turningRoot_0.2.2.2.1 ?_
  first
  | refine x_eqi _ (hn) ?_
  | skip
  refine x_iconst C (v := nI 1) D_X9_turningRoot_0.2.2.2.2.1 (by decide +kernel) ?_
  refine x_callSi C (y := yX9_nodeAt) (c_X9_nodeAt l G (ar 8) n 1 tu (hM.2.1 8 (by decide)).2.1 (by omega) (by omega) (by omega) (by omega) (fun i hi => ⟨hk8 i hi, by have := htb i hi; omega⟩)) k_990 k_991 k_67 k_992 hd_X9_nodeAt ⟨(Nat.le_of_ble_eq_true rfl), (Nat.le_of_ble_eq_true rfl)⟩ rfl (by first | exact Nat.le_of_ble_eq_true rfl | simp [x_crf, Value.category]) rfl rfl D_X9_turningRoot_0.2.2.2.2.2.1 ⟨(Nat.le_of_ble_eq_true rfl), (Nat.le_of_ble_eq_true rfl)⟩ (fun r_9 S_9 h_9 => ?_)
  obtain ⟨rfl, rfl⟩ := h_9
  refine x_eqi (oI (some k)) (by rw [hnd]) ?_
  refine x_istore_n C (lv' := [_, _]) D_X9_turningRoot_0.2.2.2.2.2.2.1 rfl (Nat.le_of_ble_eq_true rfl) (by first | rfl | exact x_ok_q rfl) rfl ?_
  refine x_aload_n C D_X9_turningRoot_0.2.2.2.2.2.2.2.1 rfl rfl (by first | exact Or.inr ⟨_, rfl⟩ | exact va_rf_or _ | exact Or.inl rfl) ?_
  refine x_iload_n C D_X9_turningRoot_0.2.2.2.2.2.2.2.2.1 rfl rfl ?_
  refine x_iconst C (v := (-1)) D_X9_turningRoot_0.2.2.2.2.2.2.2.2.2.1 (by decide +kernel) ?_
  refine x_icmp_ne C 23 D_X9_turningRoot_0.2.2.2.2.2.2.2.2.2.2.1 (by decide) (fun c_16 => ?_) (fun c_16 => ?_)
  · skip
    refine x_iconst C (v := nI 0) D_X9_turningRoot_1.2.1 (by decide +kernel) ?_
    refine x_callVz C (y := yX9_can) (c_X9_can l G m _ hM.1) (ci := 8) hM.1 (by decide) rfl rfl k_978 k_980 k_37 k_67 k_981 hd_X9_can ⟨(Nat.le_of_ble_eq_true rfl), (Nat.le_of_ble_eq_true rfl)⟩ rfl (by first | exact Nat.le_of_ble_eq_true rfl | simp [x_crf, Value.category]) rfl rfl D_X9_turningRoot_1.2.2.1 ⟨(Nat.le_of_ble_eq_true rfl), (Nat.le_of_ble_eq_true rfl)⟩ (fun r_24 S_24 h_24 => ?_)
    obtain ⟨rfl, rfl⟩ := h_24
    obtain ⟨I2, eI2⟩ : ∃ I2, I2 = x_u2 I m 18 (nI 0) := ⟨_, rfl⟩
    rw [← eI2]
    have i2 : ∀ a, a ≠ m → I2 a = I a := fun a ha => by rw [eI2, x_u2_a _ _ ha]
    have hn1 : I2 m 0 = nI n := by rw [eI2, x_u2_j _ _ (by omega)]; exact hn
    have h6 : ∀ i, i < n → I2 (ar 6) i = xb (al i) := fun i hi => by rw [i2 _ hm6]; exact hk6 i hi
    refine x_if_eq C 39 D_X9_turningRoot_1.2.2.2.1 (by decide) (fun c_27 => ?_) (fun c_27 => ?_)
    · skip
      exact absurd c_27 (by decide)
    · skip
      first
      | have d_27 := cz_ne c_27 (by omega)
      | have d_27 := cb_ne c_27
      | skip
      refine x_aload_n C D_X9_turningRoot_1.2.2.2.2.1 rfl rfl (by first | exact Or.inr ⟨_, rfl⟩ | exact va_rf_or _ | exact Or.inl rfl) ?_
      refine x_getQ C (ci := 8) (k0 := 5) (by assumption) (by decide) rfl (by decide) in_X9 k_907 rfl rfl D_X9_turningRoot_1.2.2.2.2.2.1 ?_
      refine x_eqr (hM.2.1 5 (by decide)).1 ?_
      refine x_iload_n C D_X9_turningRoot_1.2.2.2.2.2.2.1 rfl rfl ?_
      refine x_iald C _ (by first | assumption | exact (hM.2.1 _ (by decide)).2.1) rfl (by first | omega | (rw [hM.nk _ (by decide)]; omega) | (rw [hM.np _ (by decide)]; omega)) (by first | omega | (rw [hM.nk _ (by decide)]; omega) | (rw [hM.np _ (by decide)]; omega)) D_X9_turningRoot_1.2.2.2.2.2.2.2.1 ?_
      refine x_eqi _ (show I2 (ar 5) k = cv1 (kc k) by rw [i2 _ hm5]; exact hk5 k hkn) ?_
      refine x_goto C 40 D_X9_turningRoot_1.2.2.2.2.2.2.2.2.1 (by decide) ?_
      refine ret _ _ _ _ _ _ rfl D_X9_turningRoot_1.2.2.2.2.2.2.2.2.2.2 (Nat.le_of_ble_eq_true rfl) (Nat.le_of_ble_eq_true rfl) ?_
      exact ⟨rfl, by rw [eI2]⟩
  · skip
    exact absurd c_16 (oI_nn k (by omega))
    --end
abbrev rm_X9_entryN : Room := { frames := 1, cells := 0, slots := 0, locals := 23 }
set_option maxHeartbeats 4000000 in
set_option maxRecDepth 100000 in
theorem c_X9_entryN (l : Launch) (G : xG) {K N : Nat → Nat} {I : Nat → Nat → Int32} {Q : Nat → Nat → Option Nat} {J : Nat → Nat → Int64} (m n : Nat) (ar kc sp tu pt : Nat → Nat) (al : Nat → Bool) (x y : Int32) (hM : MZ K N Q m ar) (hK : KV I m ar n kc al sp tu pt) (hM0 : cn (fun i => decide (I (ar 9) i = x)) n = 0)  : XM l yX9_entry cX9_entry 6 (some .int) rm_X9_entryN G Ri [.ref m, .int x, .int y] (K, N, I, Q, J) (fun r S1 => r = nI 0 ∧ S1 = (K, N, x_u2 I m 18 (nI 1), Q, J)) := by
  refine x_meti (lv := [_, _, _, _, _, _]) (by decide +kernel) (x_cc (by first | rfl | exact x_crf _) (x_cc (by first | rfl | exact x_crf _) (x_cc (by first | rfl | exact x_crf _) x_cn))) (Nat.le_of_ble_eq_true rfl) rfl ?_
  intro pP eE sS mM aA bB hH cC Z C hini ret
  have hk9 := hM.1
  obtain ⟨hn, hn201, hk5, hk6, hk7, hk8, hk9_⟩ := hK
  have h202 := hM.nk 6 (by decide)
  have hm5 := hM.nm 5 (by decide)
  have hm6 := hM.nm 6 (by decide)
  have hm7 := hM.nm 7 (by decide)
  have hm8 := hM.nm 8 (by decide)
  have hm9 := hM.nm 9 (by decide)
  refine x_aload_n C D_X9_entry_0.1 rfl rfl (by first | exact Or.inr ⟨_, rfl⟩ | exact va_rf_or _ | exact Or.inl rfl) ?_
  refine x_iload_n C D_X9_entry_0.2.1 rfl rfl ?_
  refine x_callVi C (y := yX9_inPart) (c_X9_inPart l G m n ar x hM hn (by omega)) (ci := 8) hM.1 (by decide) rfl rfl k_1042 k_1044 k_48 k_67 k_1045 hd_X9_inPart ⟨(Nat.le_of_ble_eq_true rfl), (Nat.le_of_ble_eq_true rfl)⟩ rfl (by first | exact Nat.le_of_ble_eq_true rfl | simp [x_crf, Value.category]) rfl rfl D_X9_entry_0.2.2.1 ⟨(Nat.le_of_ble_eq_true rfl), (Nat.le_of_ble_eq_true rfl)⟩ (fun r_2 S_2 h_2 => ?_)
  obtain ⟨rfl, rfl⟩ := h_2
  refine x_istore_n C (lv' := [_, _, _, _, _, _]) D_X9_entry_0.2.2.2.1 rfl (Nat.le_of_ble_eq_true rfl) (by first | rfl | exact x_ok_q rfl) rfl ?_
  refine x_aload_n C D_X9_entry_0.2.2.2.2.1 rfl rfl (by first | exact Or.inr ⟨_, rfl⟩ | exact va_rf_or _ | exact Or.inl rfl) ?_
  refine x_iload_n C D_X9_entry_0.2.2.2.2.2.1 rfl rfl ?_
  refine x_if_ne C 15 D_X9_entry_0.2.2.2.2.2.2.1 (by decide) (fun c_8 => ?_) (fun c_8 => ?_)
  · skip
    first
    | have d_8 := cz_ne c_8 (by omega)
    | have d_8 := cb_ne c_8
    | skip
    exfalso; omega
    --end
  · skip
    first
    | have d_8 := cz_eq c_8 (by omega)
    | have d_8 := cb_eq c_8
    | skip
    refine x_iconst C (v := nI 1) D_X9_entry_0.2.2.2.2.2.2.2.1 (by decide +kernel) ?_
    refine x_goto C 29 D_X9_entry_0.2.2.2.2.2.2.2.2.1 (by decide) ?_
    refine x_callVz C (y := yX9_can) (c_X9_can l G m _ hM.1) (ci := 8) hM.1 (by decide) rfl rfl k_978 k_980 k_37 k_67 k_981 hd_X9_can ⟨(Nat.le_of_ble_eq_true rfl), (Nat.le_of_ble_eq_true rfl)⟩ rfl (by first | exact Nat.le_of_ble_eq_true rfl | simp [x_crf, Value.category]) rfl rfl D_X9_entry_1.2.2.2.2.2.1 ⟨(Nat.le_of_ble_eq_true rfl), (Nat.le_of_ble_eq_true rfl)⟩ (fun r_29 S_29 h_29 => ?_)
    obtain ⟨rfl, rfl⟩ := h_29
    refine x_if_ne C 37 D_X9_entry_1.2.2.2.2.2.2.1 (by decide) (fun c_32 => ?_) (fun c_32 => ?_)
    · skip
      exact absurd c_32 (by decide)
    · skip
      first
      | have d_32 := cz_eq c_32 (by omega)
      | have d_32 := cb_eq c_32
      | skip
      refine x_iconst C (v := nI 0) D_X9_entry_1.2.2.2.2.2.2.2.1 (by decide +kernel) ?_
      refine ret _ _ _ _ _ _ rfl D_X9_entry_1.2.2.2.2.2.2.2.2.1 (Nat.le_of_ble_eq_true rfl) (Nat.le_of_ble_eq_true rfl) ?_
      exact ⟨rfl, rfl⟩
abbrev rm_X9_entryX : Room := { frames := 1, cells := 0, slots := 0, locals := 23 }
set_option maxHeartbeats 4000000 in
set_option maxRecDepth 100000 in
theorem c_X9_entryX (l : Launch) (G : xG) {K N : Nat → Nat} {I : Nat → Nat → Int32} {Q : Nat → Nat → Option Nat} {J : Nat → Nat → Int64} (m n : Nat) (ar kc sp tu pt : Nat → Nat) (al : Nat → Bool) (x y : Int32) (hM : MZ K N Q m ar) (hK : KV I m ar n kc al sp tu pt) (hM0 : 0 < cn (fun i => decide (I (ar 9) i = x)) n) (hy : y < 0 ∨ nI (cn (fun i => decide (I (ar 9) i = x)) n) ≤ y)  : XM l yX9_entry cX9_entry 6 (some .int) rm_X9_entryX G Ri [.ref m, .int x, .int y] (K, N, I, Q, J) (fun r S1 => r = nI 0 ∧ S1 = (K, N, x_u2 I m 18 (nI 2), Q, J)) := by
  refine x_meti (lv := [_, _, _, _, _, _]) (by decide +kernel) (x_cc (by first | rfl | exact x_crf _) (x_cc (by first | rfl | exact x_crf _) (x_cc (by first | rfl | exact x_crf _) x_cn))) (Nat.le_of_ble_eq_true rfl) rfl ?_
  intro pP eE sS mM aA bB hH cC Z C hini ret
  have hk9 := hM.1
  obtain ⟨hn, hn201, hk5, hk6, hk7, hk8, hk9_⟩ := hK
  have h202 := hM.nk 6 (by decide)
  have hm5 := hM.nm 5 (by decide)
  have hm6 := hM.nm 6 (by decide)
  have hm7 := hM.nm 7 (by decide)
  have hm8 := hM.nm 8 (by decide)
  have hm9 := hM.nm 9 (by decide)
  have hcn := cn_le (fun i => decide (I (ar 9) i = x)) n
  refine x_aload_n C D_X9_entry_0.1 rfl rfl (by first | exact Or.inr ⟨_, rfl⟩ | exact va_rf_or _ | exact Or.inl rfl) ?_
  refine x_iload_n C D_X9_entry_0.2.1 rfl rfl ?_
  refine x_callVi C (y := yX9_inPart) (c_X9_inPart l G m n ar x hM hn (by omega)) (ci := 8) hM.1 (by decide) rfl rfl k_1042 k_1044 k_48 k_67 k_1045 hd_X9_inPart ⟨(Nat.le_of_ble_eq_true rfl), (Nat.le_of_ble_eq_true rfl)⟩ rfl (by first | exact Nat.le_of_ble_eq_true rfl | simp [x_crf, Value.category]) rfl rfl D_X9_entry_0.2.2.1 ⟨(Nat.le_of_ble_eq_true rfl), (Nat.le_of_ble_eq_true rfl)⟩ (fun r_2 S_2 h_2 => ?_)
  obtain ⟨rfl, rfl⟩ := h_2
  refine x_istore_n C (lv' := [_, _, _, _, _, _]) D_X9_entry_0.2.2.2.1 rfl (Nat.le_of_ble_eq_true rfl) (by first | rfl | exact x_ok_q rfl) rfl ?_
  refine x_aload_n C D_X9_entry_0.2.2.2.2.1 rfl rfl (by first | exact Or.inr ⟨_, rfl⟩ | exact va_rf_or _ | exact Or.inl rfl) ?_
  refine x_iload_n C D_X9_entry_0.2.2.2.2.2.1 rfl rfl ?_
  refine x_if_ne C 15 D_X9_entry_0.2.2.2.2.2.2.1 (by decide) (fun c_8 => ?_) (fun c_8 => ?_)
  · skip
    first
    | have d_8 := cz_ne c_8 (by omega)
    | have d_8 := cb_ne c_8
    | skip
    refine x_iload_n C D_X9_entry_0.2.2.2.2.2.2.2.2.2.1 rfl rfl ?_
    refine x_if_lt C 24 D_X9_entry_0.2.2.2.2.2.2.2.2.2.2.1 (by decide) (fun c_16 => ?_) (fun c_16 => ?_)
    · skip
      refine x_iconst C (v := nI 2) D_X9_entry_1.2.2.1 (by decide +kernel) ?_
      refine x_goto C 29 D_X9_entry_1.2.2.2.1 (by decide) ?_
      refine x_callVz C (y := yX9_can) (c_X9_can l G m _ hM.1) (ci := 8) hM.1 (by decide) rfl rfl k_978 k_980 k_37 k_67 k_981 hd_X9_can ⟨(Nat.le_of_ble_eq_true rfl), (Nat.le_of_ble_eq_true rfl)⟩ rfl (by first | exact Nat.le_of_ble_eq_true rfl | simp [x_crf, Value.category]) rfl rfl D_X9_entry_1.2.2.2.2.2.1 ⟨(Nat.le_of_ble_eq_true rfl), (Nat.le_of_ble_eq_true rfl)⟩ (fun r_29 S_29 h_29 => ?_)
      obtain ⟨rfl, rfl⟩ := h_29
      refine x_if_ne C 37 D_X9_entry_1.2.2.2.2.2.2.1 (by decide) (fun c_32 => ?_) (fun c_32 => ?_)
      · skip
        exact absurd c_32 (by decide)
      · skip
        first
        | have d_32 := cz_eq c_32 (by omega)
        | have d_32 := cb_eq c_32
        | skip
        refine x_iconst C (v := nI 0) D_X9_entry_1.2.2.2.2.2.2.2.1 (by decide +kernel) ?_
        refine ret _ _ _ _ _ _ rfl D_X9_entry_1.2.2.2.2.2.2.2.2.1 (Nat.le_of_ble_eq_true rfl) (Nat.le_of_ble_eq_true rfl) ?_
        exact ⟨rfl, rfl⟩
    · skip
      refine x_iload_n C D_X9_entry_0.2.2.2.2.2.2.2.2.2.2.2 rfl rfl ?_
      refine x_iload_n C D_X9_entry_1.1 rfl rfl ?_
      refine x_icmp_lt C 28 D_X9_entry_1.2.1 (by decide) (fun c_21 => ?_) (fun c_21 => ?_)
      · skip
        exfalso
        rcases hy with h | h
        · exact c_16 h
        · rw [i32_lt] at c_21; rw [i32_le] at h; omega
        --end
      · skip
        refine x_iconst C (v := nI 2) D_X9_entry_1.2.2.1 (by decide +kernel) ?_
        refine x_goto C 29 D_X9_entry_1.2.2.2.1 (by decide) ?_
        refine x_callVz C (y := yX9_can) (c_X9_can l G m _ hM.1) (ci := 8) hM.1 (by decide) rfl rfl k_978 k_980 k_37 k_67 k_981 hd_X9_can ⟨(Nat.le_of_ble_eq_true rfl), (Nat.le_of_ble_eq_true rfl)⟩ rfl (by first | exact Nat.le_of_ble_eq_true rfl | simp [x_crf, Value.category]) rfl rfl D_X9_entry_1.2.2.2.2.2.1 ⟨(Nat.le_of_ble_eq_true rfl), (Nat.le_of_ble_eq_true rfl)⟩ (fun r_29 S_29 h_29 => ?_)
        obtain ⟨rfl, rfl⟩ := h_29
        refine x_if_ne C 37 D_X9_entry_1.2.2.2.2.2.2.1 (by decide) (fun c_32 => ?_) (fun c_32 => ?_)
        · skip
          exact absurd c_32 (by decide)
        · skip
          first
          | have d_32 := cz_eq c_32 (by omega)
          | have d_32 := cb_eq c_32
          | skip
          refine x_iconst C (v := nI 0) D_X9_entry_1.2.2.2.2.2.2.2.1 (by decide +kernel) ?_
          refine ret _ _ _ _ _ _ rfl D_X9_entry_1.2.2.2.2.2.2.2.2.1 (Nat.le_of_ble_eq_true rfl) (Nat.le_of_ble_eq_true rfl) ?_
          exact ⟨rfl, rfl⟩
  · skip
    first
    | have d_8 := cz_eq c_8 (by omega)
    | have d_8 := cb_eq c_8
    | skip
    exfalso; omega
    --end
abbrev rm_X9_entryY : Room := { frames := 1, cells := 0, slots := 0, locals := 23 }
set_option maxHeartbeats 4000000 in
set_option maxRecDepth 100000 in
theorem c_X9_entryY (l : Launch) (G : xG) {K N : Nat → Nat} {I : Nat → Nat → Int32} {Q : Nat → Nat → Option Nat} {J : Nat → Nat → Int64} (m n : Nat) (ar kc sp tu pt : Nat → Nat) (al : Nat → Bool) (x : Int32) (j : Nat) (hM : MZ K N Q m ar) (hK : KV I m ar n kc al sp tu pt) (hj : j < cn (fun i => decide (I (ar 9) i = x)) n)  : XM l yX9_entry cX9_entry 6 (some .int) rm_X9_entryY G Ri [.ref m, .int x, .int (nI j)] (K, N, I, Q, J) (fun r S1 => r = cv1 (kc (selF (fun i => decide (I (ar 9) i = x)) n j)) ∧ S1 = (K, N, x_u2 I m 18 (nI 0), Q, J)) := by
  refine x_meti (lv := [_, _, _, _, _, _]) (by decide +kernel) (x_cc (by first | rfl | exact x_crf _) (x_cc (by first | rfl | exact x_crf _) (x_cc (by first | rfl | exact x_crf _) x_cn))) (Nat.le_of_ble_eq_true rfl) rfl ?_
  intro pP eE sS mM aA bB hH cC Z C hini ret
  have hk9 := hM.1
  obtain ⟨hn, hn201, hk5, hk6, hk7, hk8, hk9_⟩ := hK
  have h202 := hM.nk 6 (by decide)
  have hm5 := hM.nm 5 (by decide)
  have hm6 := hM.nm 6 (by decide)
  have hm7 := hM.nm 7 (by decide)
  have hm8 := hM.nm 8 (by decide)
  have hm9 := hM.nm 9 (by decide)
  have hcn := cn_le (fun i => decide (I (ar 9) i = x)) n
  have h929 := hM.nk 9 (by decide)
  refine x_aload_n C D_X9_entry_0.1 rfl rfl (by first | exact Or.inr ⟨_, rfl⟩ | exact va_rf_or _ | exact Or.inl rfl) ?_
  refine x_iload_n C D_X9_entry_0.2.1 rfl rfl ?_
  refine x_callVi C (y := yX9_inPart) (c_X9_inPart l G m n ar x hM hn (by omega)) (ci := 8) hM.1 (by decide) rfl rfl k_1042 k_1044 k_48 k_67 k_1045 hd_X9_inPart ⟨(Nat.le_of_ble_eq_true rfl), (Nat.le_of_ble_eq_true rfl)⟩ rfl (by first | exact Nat.le_of_ble_eq_true rfl | simp [x_crf, Value.category]) rfl rfl D_X9_entry_0.2.2.1 ⟨(Nat.le_of_ble_eq_true rfl), (Nat.le_of_ble_eq_true rfl)⟩ (fun r_2 S_2 h_2 => ?_)
  obtain ⟨rfl, rfl⟩ := h_2
  refine x_istore_n C (lv' := [_, _, _, _, _, _]) D_X9_entry_0.2.2.2.1 rfl (Nat.le_of_ble_eq_true rfl) (by first | rfl | exact x_ok_q rfl) rfl ?_
  refine x_aload_n C D_X9_entry_0.2.2.2.2.1 rfl rfl (by first | exact Or.inr ⟨_, rfl⟩ | exact va_rf_or _ | exact Or.inl rfl) ?_
  refine x_iload_n C D_X9_entry_0.2.2.2.2.2.1 rfl rfl ?_
  refine x_if_ne C 15 D_X9_entry_0.2.2.2.2.2.2.1 (by decide) (fun c_8 => ?_) (fun c_8 => ?_)
  · skip
    first
    | have d_8 := cz_ne c_8 (by omega)
    | have d_8 := cb_ne c_8
    | skip
    refine x_iload_n C D_X9_entry_0.2.2.2.2.2.2.2.2.2.1 rfl rfl ?_
    refine x_if_lt C 24 D_X9_entry_0.2.2.2.2.2.2.2.2.2.2.1 (by decide) (fun c_16 => ?_) (fun c_16 => ?_)
    · skip
      exact absurd c_16 (nI_pos (by omega))
      --end
    · skip
      refine x_iload_n C D_X9_entry_0.2.2.2.2.2.2.2.2.2.2.2 rfl rfl ?_
      refine x_iload_n C D_X9_entry_1.1 rfl rfl ?_
      refine x_icmp_lt C 28 D_X9_entry_1.2.1 (by decide) (fun c_21 => ?_) (fun c_21 => ?_)
      · skip
        first
        | have d_21 := cv_lt c_21 (by omega) (by omega)
        | skip
        refine x_iconst C (v := nI 0) D_X9_entry_1.2.2.2.2.1 (by decide +kernel) ?_
        refine x_callVz C (y := yX9_can) (c_X9_can l G m _ hM.1) (ci := 8) hM.1 (by decide) rfl rfl k_978 k_980 k_37 k_67 k_981 hd_X9_can ⟨(Nat.le_of_ble_eq_true rfl), (Nat.le_of_ble_eq_true rfl)⟩ rfl (by first | exact Nat.le_of_ble_eq_true rfl | simp [x_crf, Value.category]) rfl rfl D_X9_entry_1.2.2.2.2.2.1 ⟨(Nat.le_of_ble_eq_true rfl), (Nat.le_of_ble_eq_true rfl)⟩ (fun r_29 S_29 h_29 => ?_)
        obtain ⟨rfl, rfl⟩ := h_29
        obtain ⟨I2, eI2⟩ : ∃ I2, I2 = x_u2 I m 18 (nI 0) := ⟨_, rfl⟩
        rw [← eI2]
        have i2 : ∀ a, a ≠ m → I2 a = I a := fun a ha => by rw [eI2, x_u2_a _ _ ha]
        have hn1 : I2 m 0 = nI n := by rw [eI2, x_u2_j _ _ (by omega)]; exact hn
        have h6 : ∀ i, i < n → I2 (ar 6) i = xb (al i) := fun i hi => by rw [i2 _ hm6]; exact hk6 i hi
        refine x_if_ne C 37 D_X9_entry_1.2.2.2.2.2.2.1 (by decide) (fun c_32 => ?_) (fun c_32 => ?_)
        · skip
          first
          | have d_32 := cz_ne c_32 (by omega)
          | have d_32 := cb_ne c_32
          | skip
          refine x_iload_n C D_X9_entry_1.2.2.2.2.2.2.2.2.2.1 rfl rfl ?_
          refine x_istore C (lv' := [_, _, _, _, _, _]) D_X9_entry_1.2.2.2.2.2.2.2.2.2.2.1 (Nat.le_of_ble_eq_true rfl) (by first | rfl | exact x_ok_q rfl) rfl ?_
          refine x_iconst C (v := nI 0) D_X9_entry_1.2.2.2.2.2.2.2.2.2.2.2 (by decide +kernel) ?_
          refine x_istore C (lv' := [_, _, _, _, _, _]) D_X9_entry_2.1 (Nat.le_of_ble_eq_true rfl) (by first | rfl | exact x_ok_q rfl) rfl ?_
          have L_43 : ∀ (w_43 : Nat) (k0 : Nat), n - k0 < w_43 → (k0 ≤ n) → (cn (fun i => decide (I (ar 9) i = x)) k0 ≤ j) → XW pP l eE rm_X9_entryY sS mM aA bB hH cC G Z 0 0 (K, N, I2, Q, J) 43 [some (.ref m), some (.int x), some (.int (nI j)), some (.int (nI (cn (fun i => decide (I (ar 9) i = x)) n))), some (.int (nI (j - cn (fun i => decide (I (ar 9) i = x)) k0))), some (.int (nI k0))] [] := by
            intro w_43
            induction w_43 with
            | zero =>
              intro k0 hw_43
              exact absurd hw_43 (Nat.not_lt_zero _)
            | succ w_43 ih_43 =>
              intro k0 hw_43 hk0 hle
              have hkn : k0 < n := by
                rcases Nat.lt_or_ge k0 n with h | h
                · exact h
                · obtain rfl : k0 = n := by omega
                  omega
              refine x_iload C D_X9_entry_2.2.1 rfl ?_
              refine x_if_gt C 59 D_X9_entry_2.2.2.1 (by decide) (fun c_45 => ?_) (fun c_45 => ?_)
              · skip
                first
                | have d_45 := cz_gt c_45 (by omega)
                | skip
                refine x_iload C D_X9_entry_2.2.2.2.2.2.2.2.2.2.1 rfl ?_
                refine x_aload_n C D_X9_entry_2.2.2.2.2.2.2.2.2.2.2.1 rfl rfl (by first | exact Or.inr ⟨_, rfl⟩ | exact va_rf_or _ | exact Or.inl rfl) ?_
                refine x_getQ C (ci := 8) (k0 := 9) (by assumption) (by decide) rfl (by decide) in_X9 k_911 rfl rfl D_X9_entry_2.2.2.2.2.2.2.2.2.2.2.2 ?_
                refine x_eqr (hM.2.1 9 (by decide)).1 ?_
                refine x_iload C D_X9_entry_3.1 rfl ?_
                refine x_iald C _ (by first | assumption | exact (hM.2.1 _ (by decide)).2.1) rfl (by first | omega | (rw [hM.nk _ (by decide)]; omega) | (rw [hM.np _ (by decide)]; omega)) (by first | omega | (rw [hM.nk _ (by decide)]; omega) | (rw [hM.np _ (by decide)]; omega)) D_X9_entry_3.2.1 ?_
                refine x_eqi _ (show I2 (ar 9) k0 = I (ar 9) k0 by rw [i2 _ hm9]) ?_
                refine x_iload_n C D_X9_entry_3.2.2.1 rfl rfl ?_
                refine x_icmp_ne C 76 D_X9_entry_3.2.2.2.1 (by decide) (fun c_69 => ?_) (fun c_69 => ?_)
                · skip
                  have hs : cn (fun i => decide (I (ar 9) i = x)) (k0 + 1) = cn (fun i => decide (I (ar 9) i = x)) k0 := by simp [cn, c_69]
                  refine x_iconst C (v := nI 0) D_X9_entry_3.2.2.2.2.2.2.1 (by decide +kernel) ?_
                  refine x_isub C D_X9_entry_3.2.2.2.2.2.2.2.1 ?_
                  first
                  | refine x_eqi _ (pk_sub (by omega)) ?_
                  | skip
                  refine x_istore C (lv' := [_, _, _, _, _, _]) D_X9_entry_3.2.2.2.2.2.2.2.2.1 (Nat.le_of_ble_eq_true rfl) (by first | rfl | exact x_ok_q rfl) rfl ?_
                  first
                  | refine x_iinc C (lv' := [_, _, _, _, _, _]) D_X9_entry_3.2.2.2.2.2.2.2.2.2.1 rfl (x_incN_1 _) (by first | rfl | exact x_ok_q rfl) rfl ?_
                  | refine x_iinc C (lv' := [_, _, _, _, _, _]) D_X9_entry_3.2.2.2.2.2.2.2.2.2.1 rfl (x_inc_1 _) (by first | rfl | exact x_ok_q rfl) rfl ?_
                  refine x_goto C 43 D_X9_entry_3.2.2.2.2.2.2.2.2.2.2.1 (by decide) ?_
                  refine x_lv (lv := [_, _, _, _, some (.int (nI (j - cn (fun i => decide (I (ar 9) i = x)) (k0 + 1)))), _]) (by rw [hs]; rfl) ?_
                  exact ih_43 (k0 + 1) (by omega) (by omega) (by omega)
                · skip
                  have hs : cn (fun i => decide (I (ar 9) i = x)) (k0 + 1) = cn (fun i => decide (I (ar 9) i = x)) k0 + 1 := by simp [cn, c_69]
                  refine x_iconst C (v := nI 1) D_X9_entry_3.2.2.2.2.1 (by decide +kernel) ?_
                  refine x_goto C 77 D_X9_entry_3.2.2.2.2.2.1 (by decide) ?_
                  refine x_isub C D_X9_entry_3.2.2.2.2.2.2.2.1 ?_
                  first
                  | refine x_eqi _ (pk_sub (by omega)) ?_
                  | skip
                  refine x_istore C (lv' := [_, _, _, _, _, _]) D_X9_entry_3.2.2.2.2.2.2.2.2.1 (Nat.le_of_ble_eq_true rfl) (by first | rfl | exact x_ok_q rfl) rfl ?_
                  first
                  | refine x_iinc C (lv' := [_, _, _, _, _, _]) D_X9_entry_3.2.2.2.2.2.2.2.2.2.1 rfl (x_incN_1 _) (by first | rfl | exact x_ok_q rfl) rfl ?_
                  | refine x_iinc C (lv' := [_, _, _, _, _, _]) D_X9_entry_3.2.2.2.2.2.2.2.2.2.1 rfl (x_inc_1 _) (by first | rfl | exact x_ok_q rfl) rfl ?_
                  refine x_goto C 43 D_X9_entry_3.2.2.2.2.2.2.2.2.2.2.1 (by decide) ?_
                  refine x_lv (lv := [_, _, _, _, some (.int (nI (j - cn (fun i => decide (I (ar 9) i = x)) (k0 + 1)))), _]) (by rw [hs, Nat.sub_sub]) ?_
                  exact ih_43 (k0 + 1) (by omega) (by omega) (by omega)
              · skip
                first
                | have d_45 := cz_ngt c_45 (by omega)
                | skip
                refine x_aload_n C D_X9_entry_2.2.2.2.1 rfl rfl (by first | exact Or.inr ⟨_, rfl⟩ | exact va_rf_or _ | exact Or.inl rfl) ?_
                refine x_getQ C (ci := 8) (k0 := 9) (by assumption) (by decide) rfl (by decide) in_X9 k_911 rfl rfl D_X9_entry_2.2.2.2.2.1 ?_
                refine x_eqr (hM.2.1 9 (by decide)).1 ?_
                refine x_iload C D_X9_entry_2.2.2.2.2.2.1 rfl ?_
                refine x_iald C _ (by first | assumption | exact (hM.2.1 _ (by decide)).2.1) rfl (by first | omega | (rw [hM.nk _ (by decide)]; omega) | (rw [hM.np _ (by decide)]; omega)) (by first | omega | (rw [hM.nk _ (by decide)]; omega) | (rw [hM.np _ (by decide)]; omega)) D_X9_entry_2.2.2.2.2.2.2.1 ?_
                refine x_eqi _ (show I2 (ar 9) k0 = I (ar 9) k0 by rw [i2 _ hm9]) ?_
                refine x_iload_n C D_X9_entry_2.2.2.2.2.2.2.2.1 rfl rfl ?_
                refine x_icmp_eq C 86 D_X9_entry_2.2.2.2.2.2.2.2.2.1 (by decide) (fun c_56 => ?_) (fun c_56 => ?_)
                · skip
                  have hsel : selF (fun i => decide (I (ar 9) i = x)) n j = k0 := selF_uniq (by omega) (decide_eq_true c_56) (by omega)
                  refine x_aload_n C D_X9_entry_3.2.2.2.2.2.2.2.2.2.2.2 rfl rfl (by first | exact Or.inr ⟨_, rfl⟩ | exact va_rf_or _ | exact Or.inl rfl) ?_
                  refine x_getQ C (ci := 8) (k0 := 5) (by assumption) (by decide) rfl (by decide) in_X9 k_907 rfl rfl D_X9_entry_4.1 ?_
                  refine x_eqr (hM.2.1 5 (by decide)).1 ?_
                  refine x_iload C D_X9_entry_4.2.1 rfl ?_
                  refine x_iald C _ (by first | assumption | exact (hM.2.1 _ (by decide)).2.1) rfl (by first | omega | (rw [hM.nk _ (by decide)]; omega) | (rw [hM.np _ (by decide)]; omega)) (by first | omega | (rw [hM.nk _ (by decide)]; omega) | (rw [hM.np _ (by decide)]; omega)) D_X9_entry_4.2.2.1 ?_
                  refine x_eqi _ (show I2 (ar 5) k0 = cv1 (kc (selF (fun i => decide (I (ar 9) i = x)) n j)) by rw [hsel, i2 _ hm5]; exact hk5 k0 (by omega)) ?_
                  refine ret _ _ _ _ _ _ rfl D_X9_entry_4.2.2.2 (Nat.le_of_ble_eq_true rfl) (Nat.le_of_ble_eq_true rfl) ?_
                  exact ⟨rfl, by rw [eI2]⟩
                · skip
                  refine x_iload C D_X9_entry_2.2.2.2.2.2.2.2.2.2.1 rfl ?_
                  refine x_aload_n C D_X9_entry_2.2.2.2.2.2.2.2.2.2.2.1 rfl rfl (by first | exact Or.inr ⟨_, rfl⟩ | exact va_rf_or _ | exact Or.inl rfl) ?_
                  refine x_getQ C (ci := 8) (k0 := 9) (by assumption) (by decide) rfl (by decide) in_X9 k_911 rfl rfl D_X9_entry_2.2.2.2.2.2.2.2.2.2.2.2 ?_
                  refine x_eqr (hM.2.1 9 (by decide)).1 ?_
                  refine x_iload C D_X9_entry_3.1 rfl ?_
                  refine x_iald C _ (by first | assumption | exact (hM.2.1 _ (by decide)).2.1) rfl (by first | omega | (rw [hM.nk _ (by decide)]; omega) | (rw [hM.np _ (by decide)]; omega)) (by first | omega | (rw [hM.nk _ (by decide)]; omega) | (rw [hM.np _ (by decide)]; omega)) D_X9_entry_3.2.1 ?_
                  refine x_eqi _ (show I2 (ar 9) k0 = I (ar 9) k0 by rw [i2 _ hm9]) ?_
                  refine x_iload_n C D_X9_entry_3.2.2.1 rfl rfl ?_
                  refine x_icmp_ne C 76 D_X9_entry_3.2.2.2.1 (by decide) (fun c_69 => ?_) (fun c_69 => ?_)
                  · skip
                    have hs : cn (fun i => decide (I (ar 9) i = x)) (k0 + 1) = cn (fun i => decide (I (ar 9) i = x)) k0 := by simp [cn, c_69]
                    refine x_iconst C (v := nI 0) D_X9_entry_3.2.2.2.2.2.2.1 (by decide +kernel) ?_
                    refine x_isub C D_X9_entry_3.2.2.2.2.2.2.2.1 ?_
                    first
                    | refine x_eqi _ (pk_sub (by omega)) ?_
                    | skip
                    refine x_istore C (lv' := [_, _, _, _, _, _]) D_X9_entry_3.2.2.2.2.2.2.2.2.1 (Nat.le_of_ble_eq_true rfl) (by first | rfl | exact x_ok_q rfl) rfl ?_
                    first
                    | refine x_iinc C (lv' := [_, _, _, _, _, _]) D_X9_entry_3.2.2.2.2.2.2.2.2.2.1 rfl (x_incN_1 _) (by first | rfl | exact x_ok_q rfl) rfl ?_
                    | refine x_iinc C (lv' := [_, _, _, _, _, _]) D_X9_entry_3.2.2.2.2.2.2.2.2.2.1 rfl (x_inc_1 _) (by first | rfl | exact x_ok_q rfl) rfl ?_
                    refine x_goto C 43 D_X9_entry_3.2.2.2.2.2.2.2.2.2.2.1 (by decide) ?_
                    refine x_lv (lv := [_, _, _, _, some (.int (nI (j - cn (fun i => decide (I (ar 9) i = x)) (k0 + 1)))), _]) (by rw [hs]; rfl) ?_
                    exact ih_43 (k0 + 1) (by omega) (by omega) (by omega)
                  · skip
                    exact absurd c_69 c_56
                    --end
          exact L_43 _ 0 (Nat.lt_succ_self _) (Nat.zero_le _) (Nat.zero_le _)
        · skip
          exact absurd c_32 (by decide)
      · skip
        first
        | have d_21 := cv_nlt c_21 (by omega) (by omega)
        | skip
        exfalso; omega
        --end
  · skip
    first
    | have d_8 := cz_eq c_8 (by omega)
    | have d_8 := cb_eq c_8
    | skip
    exfalso; omega
    --end
