theorem D_X2_sinkInRow_0 : decode cX2_sinkInRow 0 = .ok (.aload_n 0, 1) ∧ decode cX2_sinkInRow 1 = .ok (.getfield 34, 3) ∧ decode cX2_sinkInRow 4 = .ok (.iload_n 2, 1) ∧ decode cX2_sinkInRow 5 = .ok (.invokevirtual 97, 3) ∧ decode cX2_sinkInRow 8 = .ok (.astore 4, 2) ∧ decode cX2_sinkInRow 10 = .ok (.aload 4, 2) ∧ decode cX2_sinkInRow 12 = .ok (.ifnonnull 4, 3) ∧ decode cX2_sinkInRow 15 = .ok (.return_, 1) ∧ decode cX2_sinkInRow 16 = .ok (.aload_n 0, 1) ∧ decode cX2_sinkInRow 17 = .ok (.aload 4, 2) ∧ decode cX2_sinkInRow 19 = .ok (.getfield 69, 3) ∧ decode cX2_sinkInRow 22 = .ok (.iload_n 3, 1) := by decide +kernel
theorem D_X2_sinkInRow_1 : decode cX2_sinkInRow 23 = .ok (.invokevirtual 82, 3) ∧ decode cX2_sinkInRow 26 = .ok (.istore 5, 2) ∧ decode cX2_sinkInRow 28 = .ok (.iload_n 2, 1) ∧ decode cX2_sinkInRow 29 = .ok (.istore 6, 2) ∧ decode cX2_sinkInRow 31 = .ok (.iload 6, 2) ∧ decode cX2_sinkInRow 33 = .ok (.iload_n 1, 1) ∧ decode cX2_sinkInRow 34 = .ok (.if_icmp .le 56, 3) ∧ decode cX2_sinkInRow 37 = .ok (.aload_n 0, 1) ∧ decode cX2_sinkInRow 38 = .ok (.getfield 34, 3) ∧ decode cX2_sinkInRow 41 = .ok (.iload 6, 2) ∧ decode cX2_sinkInRow 43 = .ok (.iconst 1, 1) ∧ decode cX2_sinkInRow 44 = .ok (.isub, 1) := by decide +kernel
theorem D_X2_sinkInRow_2 : decode cX2_sinkInRow 45 = .ok (.invokevirtual 97, 3) ∧ decode cX2_sinkInRow 48 = .ok (.astore 7, 2) ∧ decode cX2_sinkInRow 50 = .ok (.aload 7, 2) ∧ decode cX2_sinkInRow 52 = .ok (.ifnull 38, 3) ∧ decode cX2_sinkInRow 55 = .ok (.aload_n 0, 1) ∧ decode cX2_sinkInRow 56 = .ok (.aload 7, 2) ∧ decode cX2_sinkInRow 58 = .ok (.getfield 69, 3) ∧ decode cX2_sinkInRow 61 = .ok (.iload_n 3, 1) ∧ decode cX2_sinkInRow 62 = .ok (.invokevirtual 82, 3) ∧ decode cX2_sinkInRow 65 = .ok (.iload 5, 2) ∧ decode cX2_sinkInRow 67 = .ok (.if_icmp .gt 6, 3) ∧ decode cX2_sinkInRow 70 = .ok (.goto 20, 3) := by decide +kernel
theorem D_X2_sinkInRow_3 : decode cX2_sinkInRow 73 = .ok (.aload_n 0, 1) ∧ decode cX2_sinkInRow 74 = .ok (.getfield 34, 3) ∧ decode cX2_sinkInRow 77 = .ok (.iload 6, 2) ∧ decode cX2_sinkInRow 79 = .ok (.aload 7, 2) ∧ decode cX2_sinkInRow 81 = .ok (.invokevirtual 128, 3) ∧ decode cX2_sinkInRow 84 = .ok (.iinc 6 (-1), 3) ∧ decode cX2_sinkInRow 87 = .ok (.goto (-56), 3) ∧ decode cX2_sinkInRow 90 = .ok (.aload_n 0, 1) ∧ decode cX2_sinkInRow 91 = .ok (.getfield 34, 3) ∧ decode cX2_sinkInRow 94 = .ok (.iload 6, 2) ∧ decode cX2_sinkInRow 96 = .ok (.aload 4, 2) ∧ decode cX2_sinkInRow 98 = .ok (.invokevirtual 128, 3) := by decide +kernel
theorem D_X2_sinkInRow_4 : decode cX2_sinkInRow 101 = .ok (.return_, 1) := by decide +kernel
theorem D_X2_sortRow_0 : decode cX2_sortRow 0 = .ok (.iload_n 1, 1) ∧ decode cX2_sortRow 1 = .ok (.iconst 1, 1) ∧ decode cX2_sortRow 2 = .ok (.iadd, 1) ∧ decode cX2_sortRow 3 = .ok (.istore 4, 2) ∧ decode cX2_sortRow 5 = .ok (.iload 4, 2) ∧ decode cX2_sortRow 7 = .ok (.iload_n 2, 1) ∧ decode cX2_sortRow 8 = .ok (.if_icmp .ge 17, 3) ∧ decode cX2_sortRow 11 = .ok (.aload_n 0, 1) ∧ decode cX2_sortRow 12 = .ok (.iload_n 1, 1) ∧ decode cX2_sortRow 13 = .ok (.iload 4, 2) ∧ decode cX2_sortRow 15 = .ok (.iload_n 3, 1) ∧ decode cX2_sortRow 16 = .ok (.invokevirtual 125, 3) := by decide +kernel
theorem D_X2_sortRow_1 : decode cX2_sortRow 19 = .ok (.iinc 4 1, 3) ∧ decode cX2_sortRow 22 = .ok (.goto (-17), 3) ∧ decode cX2_sortRow 25 = .ok (.return_, 1) := by decide +kernel
theorem D_X2_layOut_0 : decode cX2_layOut 0 = .ok (.iload_n 1, 1) ∧ decode cX2_layOut 1 = .ok (.iload_n 2, 1) ∧ decode cX2_layOut 2 = .ok (.if_icmp .ge 9, 3) ∧ decode cX2_layOut 5 = .ok (.iload_n 3, 1) ∧ decode cX2_layOut 6 = .ok (.bipush 40, 2) ∧ decode cX2_layOut 8 = .ok (.if_icmp .lt 5, 3) ∧ decode cX2_layOut 11 = .ok (.aconst_null, 1) ∧ decode cX2_layOut 12 = .ok (.areturn, 1) ∧ decode cX2_layOut 13 = .ok (.aload_n 0, 1) ∧ decode cX2_layOut 14 = .ok (.iload_n 1, 1) ∧ decode cX2_layOut 15 = .ok (.iload_n 2, 1) ∧ decode cX2_layOut 16 = .ok (.iload_n 3, 1) := by decide +kernel
theorem D_X2_layOut_1 : decode cX2_layOut 17 = .ok (.invokevirtual 121, 3) ∧ decode cX2_layOut 20 = .ok (.iload_n 1, 1) ∧ decode cX2_layOut 21 = .ok (.iload_n 2, 1) ∧ decode cX2_layOut 22 = .ok (.iload_n 1, 1) ∧ decode cX2_layOut 23 = .ok (.isub, 1) ∧ decode cX2_layOut 24 = .ok (.iconst 2, 1) ∧ decode cX2_layOut 25 = .ok (.idiv, 1) ∧ decode cX2_layOut 26 = .ok (.iadd, 1) ∧ decode cX2_layOut 27 = .ok (.istore 4, 2) ∧ decode cX2_layOut 29 = .ok (.aload_n 0, 1) ∧ decode cX2_layOut 30 = .ok (.getfield 34, 3) ∧ decode cX2_layOut 33 = .ok (.iload 4, 2) := by decide +kernel
theorem D_X2_layOut_2 : decode cX2_layOut 35 = .ok (.invokevirtual 97, 3) ∧ decode cX2_layOut 38 = .ok (.astore 5, 2) ∧ decode cX2_layOut 40 = .ok (.aload 5, 2) ∧ decode cX2_layOut 42 = .ok (.ifnonnull 5, 3) ∧ decode cX2_layOut 45 = .ok (.aconst_null, 1) ∧ decode cX2_layOut 46 = .ok (.areturn, 1) ∧ decode cX2_layOut 47 = .ok (.aload 5, 2) ∧ decode cX2_layOut 49 = .ok (.aload_n 0, 1) ∧ decode cX2_layOut 50 = .ok (.iload_n 1, 1) ∧ decode cX2_layOut 51 = .ok (.iload 4, 2) ∧ decode cX2_layOut 53 = .ok (.iload_n 3, 1) ∧ decode cX2_layOut 54 = .ok (.iconst 1, 1) := by decide +kernel
theorem D_X2_layOut_3 : decode cX2_layOut 55 = .ok (.iadd, 1) ∧ decode cX2_layOut 56 = .ok (.invokestatic 107, 3) ∧ decode cX2_layOut 59 = .ok (.putfield 76, 3) ∧ decode cX2_layOut 62 = .ok (.aload 5, 2) ∧ decode cX2_layOut 64 = .ok (.aload_n 0, 1) ∧ decode cX2_layOut 65 = .ok (.iload 4, 2) ∧ decode cX2_layOut 67 = .ok (.iconst 1, 1) ∧ decode cX2_layOut 68 = .ok (.iadd, 1) ∧ decode cX2_layOut 69 = .ok (.iload_n 2, 1) ∧ decode cX2_layOut 70 = .ok (.iload_n 3, 1) ∧ decode cX2_layOut 71 = .ok (.iconst 1, 1) ∧ decode cX2_layOut 72 = .ok (.iadd, 1) := by decide +kernel
theorem D_X2_layOut_4 : decode cX2_layOut 73 = .ok (.invokestatic 107, 3) ∧ decode cX2_layOut 76 = .ok (.putfield 79, 3) ∧ decode cX2_layOut 79 = .ok (.aload 5, 2) ∧ decode cX2_layOut 81 = .ok (.iload_n 2, 1) ∧ decode cX2_layOut 82 = .ok (.iload_n 1, 1) ∧ decode cX2_layOut 83 = .ok (.isub, 1) ∧ decode cX2_layOut 84 = .ok (.putfield 100, 3) ∧ decode cX2_layOut 87 = .ok (.aload 5, 2) ∧ decode cX2_layOut 89 = .ok (.areturn, 1) := by decide +kernel
abbrev rm_X2_gather_1 : Room := { frames := 43, cells := 0, slots := 0, locals := 1006 }
set_option maxHeartbeats 4000000 in
set_option maxRecDepth 100000 in
theorem c_X2_gather_1 (l : Launch) (G : xG) {K N : Nat → Nat} {I : Nat → Nat → Int32} {Q : Nat → Nat → Option Nat} {J : Nat → Nat → Int64} (t pq pn rw rn cap : Nat) (A : Tr) (dd : Bool) (o : Option Nat) (hz : LZ K N Q t 2 pq pn rw rn cap) (hT : TP K Q A o) (hA : ht A ≤ 40) (hcap : (apd dd I A).length ≤ cap) : XM l yX2_gather cX2_gather 3 none rm_X2_gather_1 G Rv [.ref t, va_rf o, .int (xb dd)] (K, N, I, Q, J) (fun _ S1 => ∃ g, S1 = (K, N, x_u2 I rw 1 (nI (apd dd I A).length), x_up Q rn g, J) ∧ SEG g 0 (apd dd I A)) := by
  refine x_metv (lv := [_, _, _]) (by decide +kernel) (x_cc (by first | rfl | exact x_crf _) (x_cc (by first | rfl | exact x_crf _) (x_cc (by first | rfl | exact x_crf _) x_cn))) (Nat.le_of_ble_eq_true rfl) rfl ?_
  intro pP eE sS mM aA bB hH cC Z C hini ret
  obtain ⟨hk, hkd, h0, h1, hp, hrw, hpr, hpn⟩ := hz
  have hap : apd dd (x_u2 I rw 1 (nI 0)) A = apd dd I A := apd_congr (fun a ha => by rw [x_u2_a _ _ (nodes_ne (hT.kind a ha) hrw.1 (by omega))])
  refine x_aload_n C D_X2_gather_0.1 rfl rfl (by first | exact Or.inr ⟨_, rfl⟩ | exact va_rf_or _ | exact Or.inl rfl) ?_
  refine x_getQ C (ci := 1) (k0 := 1) (by assumption) (by decide) rfl (by decide) in_X1 k_111 rfl rfl D_X2_gather_0.2.1 ?_
  refine x_eqr h1 ?_
  refine x_callVv C (y := yX4_empty) (c_X4_empty l G rw hrw.1) (ci := 3) hrw.1 (by decide) rfl rfl k_216 k_217 k_218 k_63 k_219 hd_X4_empty ⟨(Nat.le_of_ble_eq_true rfl), (Nat.le_of_ble_eq_true rfl)⟩ rfl (by first | exact Nat.le_of_ble_eq_true rfl | simp [x_crf, Value.category]) rfl rfl D_X2_gather_0.2.2.1 ⟨(Nat.le_of_ble_eq_true rfl), (Nat.le_of_ble_eq_true rfl)⟩ (fun _ S_4 h_4 => ?_)
  obtain rfl := h_4
  refine x_aload_n C D_X2_gather_0.2.2.2.1 rfl rfl (by first | exact Or.inr ⟨_, rfl⟩ | exact va_rf_or _ | exact Or.inl rfl) ?_
  refine x_iload_n C D_X2_gather_0.2.2.2.2.1 rfl rfl ?_
  refine x_aload_n C D_X2_gather_0.2.2.2.2.2.1 rfl rfl (by first | exact Or.inr ⟨_, rfl⟩ | exact va_rf_or _ | exact Or.inl rfl) ?_
  refine x_getQ C (ci := 1) (k0 := 1) (by assumption) (by decide) rfl (by decide) in_X1 k_111 rfl rfl D_X2_gather_0.2.2.2.2.2.2.1 ?_
  refine x_eqr h1 ?_
  refine x_iconst C (v := nI 0) D_X2_gather_0.2.2.2.2.2.2.2.1 (by decide +kernel) ?_
  refine x_callSv C (y := yX2_appendAll) (c_X2_appendAll l G rw rn cap dd 41 A 0 0 _ (x_u2 I rw 1 (nI 0)) Q hT (by omega) (by omega) hrw (x_u2_s _ _ _ _) (by rw [hap]; omega)) k_258 k_259 k_61 k_260 hd_X2_appendAll ⟨(Nat.le_of_ble_eq_true rfl), (Nat.le_of_ble_eq_true rfl)⟩ rfl (by first | exact Nat.le_of_ble_eq_true rfl | simp [x_crf, Value.category]) rfl rfl D_X2_gather_0.2.2.2.2.2.2.2.2.1 ⟨(Nat.le_of_ble_eq_true rfl), (Nat.le_of_ble_eq_true rfl)⟩ (fun _ S_14 h_14 => ?_)
  obtain ⟨g, rfl, hg, hs⟩ := h_14
  rw [hap] at hs
  refine ret _ _ _ _ _ rfl D_X2_gather_0.2.2.2.2.2.2.2.2.2 (Nat.le_of_ble_eq_true rfl) (Nat.le_of_ble_eq_true rfl) ?_
  exact ⟨g, by rw [hap, x_u2_u2, Nat.zero_add], hs⟩
abbrev rm_X2_livingNodes_1 : Room := { frames := 44, cells := 0, slots := 0, locals := 1028 }
theorem hd_X2_gather : yX2_gather.cls ≠ "java/lang/invoke/MethodHandle" ∧ yX2_gather.cls ≠ "java/lang/invoke/VarHandle" ∧ (parseMethodDescriptor yX2_gather.desc).map (fun d => d.parameters.length) = some 2 := by decide +kernel
theorem hu_X2_gather : "ScapegoatSpur$LazyTree" ≠ "java/lang/invoke/MethodHandle" ∧ "ScapegoatSpur$LazyTree" ≠ "java/lang/invoke/VarHandle" ∧ (parseMethodDescriptor "(LScapegoatSpur$Node;Z)V").map (fun d => d.parameters.length) = some 2 := by decide +kernel
set_option maxHeartbeats 4000000 in
set_option maxRecDepth 100000 in
theorem c_X2_livingNodes_1 (l : Launch) (G : xG) {K N : Nat → Nat} {I : Nat → Nat → Int32} {Q : Nat → Nat → Option Nat} {J : Nat → Nat → Int64} (t pq pn rw rn cap : Nat) (A : Tr) (hz : LZ K N Q t 2 pq pn rw rn cap) (hT : TP K Q A (Q t 2)) (hA : ht A ≤ 40) (hcap : (apd false I A).length ≤ cap) : XM l yX2_livingNodes cX2_livingNodes 1 (some (.object "ScapegoatSpur$NodeRow")) rm_X2_livingNodes_1 G Rq [.ref t] (K, N, I, Q, J) (fun r S1 => r = some rw ∧ ∃ g, S1 = (K, N, x_u2 I rw 1 (nI (apd false I A).length), x_up Q rn g, J) ∧ SEG g 0 (apd false I A)) := by
  refine x_metq (lv := [_]) (by decide +kernel) (x_cc (by first | rfl | exact x_crf _) x_cn) (Nat.le_of_ble_eq_true rfl) rfl ?_
  intro pP eE sS mM aA bB hH cC Z C hini ret
  refine x_aload_n C D_X2_livingNodes_0.1 rfl rfl (by first | exact Or.inr ⟨_, rfl⟩ | exact va_rf_or _ | exact Or.inl rfl) ?_
  refine x_aload_n C D_X2_livingNodes_0.2.1 rfl rfl (by first | exact Or.inr ⟨_, rfl⟩ | exact va_rf_or _ | exact Or.inl rfl) ?_
  refine x_getQ C (ci := 1) (k0 := 2) hz.1 (by decide) rfl (by decide) in_X1 k_112 rfl rfl D_X2_livingNodes_0.2.2.1 ?_
  refine x_eqq _ (rfl : Q t 2 = Q t 2) ?_
  refine x_iconst C (v := nI 0) D_X2_livingNodes_0.2.2.2.1 (by decide +kernel) ?_
  have h65 := (rfl : nI 0 = xb false)
  rw [h65]
  refine x_callUv C (x := ⟨"ScapegoatSpur$LazyTree", "gather", "(LScapegoatSpur$Node;Z)V"⟩) (y := yX2_gather) (owner := "ScapegoatSpur$LazyTree") (c_X2_gather_1 l G t pq pn rw rn cap A false _ hz hT hA hcap) (ci := 1) hz.1 (by decide) rfl k_254 k_12 k_13 k_256 k_61 k_257 rfl hu_X2_gather ⟨(Nat.le_of_ble_eq_true rfl), (Nat.le_of_ble_eq_true rfl)⟩ rfl (by first | exact Nat.le_of_ble_eq_true rfl | simp [x_crf, Value.category]) rfl rfl D_X2_livingNodes_0.2.2.2.2.1 ⟨(Nat.le_of_ble_eq_true rfl), (Nat.le_of_ble_eq_true rfl)⟩ (fun _ S_6 h_6 => ?_)
  obtain ⟨g, rfl, hs⟩ := h_6
  refine x_aload_n C D_X2_livingNodes_0.2.2.2.2.2.1 rfl rfl (by first | exact Or.inr ⟨_, rfl⟩ | exact va_rf_or _ | exact Or.inl rfl) ?_
  refine x_getQ C (ci := 1) (k0 := 1) hz.1 (by decide) rfl (by decide) in_X1 k_111 rfl rfl D_X2_livingNodes_0.2.2.2.2.2.2.1 ?_
  refine x_eqr (show x_up Q rn g t 1 = some rw by rw [x_up_n _ _ (fun e => by have h1 := hz.1; have h2 := hz.2.2.2.2.2.1.2.2.1; rw [e, h2] at h1; omega)]; exact hz.2.2.2.1) ?_
  refine ret _ _ _ _ _ _ _ ⟨_, rfl⟩ D_X2_livingNodes_0.2.2.2.2.2.2.2 (Nat.le_of_ble_eq_true rfl) (Nat.le_of_ble_eq_true rfl) (by first | exact rfl | exact (rfl : _ = va_rf (some _)) | exact (rfl : _ = va_rf none)) ?_
  exact ⟨rfl, g, rfl, hs⟩
abbrev rm_X2_greatestDepth_1 : Room := { frames := 43, cells := 0, slots := 0, locals := 922 }
set_option maxHeartbeats 4000000 in
set_option maxRecDepth 100000 in
theorem c_X2_greatestDepth_1 (l : Launch) (G : xG) {K N : Nat → Nat} {I : Nat → Nat → Int32} {Q : Nat → Nat → Option Nat} {J : Nat → Nat → Int64} (t : Nat) (A : Tr) (hk : K t = 2) (hT : TP K Q A (Q t 2)) (hA : ht A ≤ 40) : XM l yX2_greatestDepth cX2_greatestDepth 1 (some .int) rm_X2_greatestDepth_1 G Ri [.ref t] (K, N, I, Q, J) (fun r S1 => r = nI (ht A) - nI 1 ∧ S1 = (K, N, I, Q, J)) := by
  refine x_meti (lv := [_]) (by decide +kernel) (x_cc (by first | rfl | exact x_crf _) x_cn) (Nat.le_of_ble_eq_true rfl) rfl ?_
  intro pP eE sS mM aA bB hH cC Z C hini ret
  refine x_aload_n C D_X2_greatestDepth_0.1 rfl rfl (by first | exact Or.inr ⟨_, rfl⟩ | exact va_rf_or _ | exact Or.inl rfl) ?_
  refine x_getQ C (ci := 1) (k0 := 2) (by assumption) (by decide) rfl (by decide) in_X1 k_112 rfl rfl D_X2_greatestDepth_0.2.1 ?_
  refine x_eqq _ (rfl : Q t 2 = Q t 2) ?_
  refine x_iconst C (v := nI 0) D_X2_greatestDepth_0.2.2.1 (by decide +kernel) ?_
  refine x_callSi C (y := yX2_greatestDepthIn) (c_X2_greatestDepthIn l G 41 A 0 _ hT (by omega) (by omega)) k_385 k_386 k_61 k_387 hd_X2_greatestDepthIn ⟨(Nat.le_of_ble_eq_true rfl), (Nat.le_of_ble_eq_true rfl)⟩ rfl (by first | exact Nat.le_of_ble_eq_true rfl | simp [x_crf, Value.category]) rfl rfl D_X2_greatestDepth_0.2.2.2.1 ⟨(Nat.le_of_ble_eq_true rfl), (Nat.le_of_ble_eq_true rfl)⟩ (fun r_5 S_5 h_5 => ?_)
  obtain ⟨rfl, rfl⟩ := h_5
  refine ret _ _ _ _ _ _ rfl D_X2_greatestDepth_0.2.2.2.2 (Nat.le_of_ble_eq_true rfl) (Nat.le_of_ble_eq_true rfl) ?_
  exact ⟨by rw [Nat.zero_add], rfl⟩
abbrev rm_X2_sumOfDepths_1 : Room := { frames := 43, cells := 0, slots := 0, locals := 922 }
set_option maxHeartbeats 4000000 in
set_option maxRecDepth 100000 in
theorem c_X2_sumOfDepths_1 (l : Launch) (G : xG) {K N : Nat → Nat} {I : Nat → Nat → Int32} {Q : Nat → Nat → Option Nat} {J : Nat → Nat → Int64} (t : Nat) (A : Tr) (hk : K t = 2) (hT : TP K Q A (Q t 2)) (hA : ht A ≤ 40) : XM l yX2_sumOfDepths cX2_sumOfDepths 1 (some .int) rm_X2_sumOfDepths_1 G Ri [.ref t] (K, N, I, Q, J) (fun r S1 => r = nI (sumd A 0) ∧ S1 = (K, N, I, Q, J)) := by
  refine x_meti (lv := [_]) (by decide +kernel) (x_cc (by first | rfl | exact x_crf _) x_cn) (Nat.le_of_ble_eq_true rfl) rfl ?_
  intro pP eE sS mM aA bB hH cC Z C hini ret
  refine x_aload_n C D_X2_sumOfDepths_0.1 rfl rfl (by first | exact Or.inr ⟨_, rfl⟩ | exact va_rf_or _ | exact Or.inl rfl) ?_
  refine x_getQ C (ci := 1) (k0 := 2) (by assumption) (by decide) rfl (by decide) in_X1 k_112 rfl rfl D_X2_sumOfDepths_0.2.1 ?_
  refine x_eqq _ (rfl : Q t 2 = Q t 2) ?_
  refine x_iconst C (v := nI 0) D_X2_sumOfDepths_0.2.2.1 (by decide +kernel) ?_
  refine x_callSi C (y := yX2_sumOfDepthsIn) (c_X2_sumOfDepthsIn l G 41 A 0 _ hT (by omega) (by omega)) k_421 k_422 k_61 k_423 hd_X2_sumOfDepthsIn ⟨(Nat.le_of_ble_eq_true rfl), (Nat.le_of_ble_eq_true rfl)⟩ rfl (by first | exact Nat.le_of_ble_eq_true rfl | simp [x_crf, Value.category]) rfl rfl D_X2_sumOfDepths_0.2.2.2.1 ⟨(Nat.le_of_ble_eq_true rfl), (Nat.le_of_ble_eq_true rfl)⟩ (fun r_5 S_5 h_5 => ?_)
  obtain ⟨rfl, rfl⟩ := h_5
  refine ret _ _ _ _ _ _ rfl D_X2_sumOfDepths_0.2.2.2.2 (Nat.le_of_ble_eq_true rfl) (Nat.le_of_ble_eq_true rfl) ?_
  exact ⟨rfl, rfl⟩
abbrev rm_X2_sinkInRow_1 : Room := { frames := 1, cells := 0, slots := 0, locals := 22 }
theorem hd_X4_at : yX4_at.cls ≠ "java/lang/invoke/MethodHandle" ∧ yX4_at.cls ≠ "java/lang/invoke/VarHandle" ∧ (parseMethodDescriptor yX4_at.desc).map (fun d => d.parameters.length) = some 1 := by decide +kernel
theorem hd_X4_put : yX4_put.cls ≠ "java/lang/invoke/MethodHandle" ∧ yX4_put.cls ≠ "java/lang/invoke/VarHandle" ∧ (parseMethodDescriptor yX4_put.desc).map (fun d => d.parameters.length) = some 2 := by decide +kernel
set_option maxHeartbeats 4000000 in
set_option maxRecDepth 100000 in
theorem c_X2_sinkInRow_1 (l : Launch) (G : xG) {K N : Nat → Nat} {I : Nat → Nat → Int32} {Q : Nat → Nat → Option Nat} {J : Nat → Nat → Int64} (t pq pn rw rn cap : Nat) (a d n x0 : Nat) (seg : List Nat) (cd : Nat → Nat) (hz : LZ K N Q t 2 pq pn rw rn cap) (hn : I rw 1 = nI n) (hnc : n ≤ cap) (hlen : a + seg.length < n) (hd : d < 1000) (hsg : SEG (Q rn) a (seg ++ [x0])) (hnd : ND cv1 1999 K I cd (seg ++ [x0])) : XM l yX2_sinkInRow cX2_sinkInRow 8 none rm_X2_sinkInRow_1 G Rv [.ref t, .int (nI a), .int (nI (a + seg.length)), .int (nI d)] (K, N, I, Q, J) (fun _ S1 => ∃ g s1 s2, S1 = (K, N, I, x_up Q rn g, J) ∧ seg = s1 ++ s2 ∧ (∀ y ∈ s2, od1 d (cd x0) < od1 d (cd y)) ∧ (∀ y, s1.getLast? = some y → od1 d (cd y) ≤ od1 d (cd x0)) ∧ SEG g a (s1 ++ x0 :: s2) ∧ ∀ i, (i < a ∨ a + seg.length < i) → g i = Q rn i) := by
  refine x_metv (lv := [_, _, _, _, _, _, _, _]) (by decide +kernel) (x_cc (by first | rfl | exact x_crf _) (x_cc (by first | rfl | exact x_crf _) (x_cc (by first | rfl | exact x_crf _) (x_cc (by first | rfl | exact x_crf _) x_cn)))) (Nat.le_of_ble_eq_true rfl) rfl ?_
  intro pP eE sS mM aA bB hH cC Z C hini ret
  obtain ⟨hk, hkd, h0, h1, hp, hrw, hpr, hpn⟩ := hz
  have htn : t ≠ rn := fun e => by
    have h2 := hrw.2.2.1
    rw [← e, hk] at h2
    omega
  have hc1 := hrw.2.2.2.2
  obtain ⟨hx3, hx0, hxc⟩ := hnd x0 (by simp)
  refine x_aload_n C D_X2_sinkInRow_0.1 rfl rfl (by first | exact Or.inr ⟨_, rfl⟩ | exact va_rf_or _ | exact Or.inl rfl) ?_
  refine x_getQ C (ci := 1) (k0 := 1) (by assumption) (by decide) rfl (by decide) in_X1 k_111 rfl rfl D_X2_sinkInRow_0.2.1 ?_
  refine x_eqr h1 ?_
  refine x_iload_n C D_X2_sinkInRow_0.2.2.1 rfl rfl ?_
  refine x_callVq C (y := yX4_at) (c_X4_at l G rw rn cap n (nI (a + seg.length)) (hrw.ok hn hnc)) (ci := 3) hrw.1 (by decide) rfl rfl k_272 k_273 k_274 k_63 k_275 hd_X4_at ⟨(Nat.le_of_ble_eq_true rfl), (Nat.le_of_ble_eq_true rfl)⟩ rfl (by first | exact Nat.le_of_ble_eq_true rfl | simp [x_crf, Value.category]) rfl rfl D_X2_sinkInRow_0.2.2.2.1 ⟨(Nat.le_of_ble_eq_true rfl), (Nat.le_of_ble_eq_true rfl)⟩ (fun r_5 S_5 h_5 => ?_)
  obtain ⟨hr5, rfl⟩ := h_5
  rw [atv_in _ hlen (by omega), hsg seg.length (by simp)] at hr5
  rw [List.getElem?_append_right (Nat.le_refl _), Nat.sub_self] at hr5
  obtain rfl : r_5 = some x0 := by simpa using hr5
  refine x_astore C (lv' := [_, _, _, _, _, _, _, _]) D_X2_sinkInRow_0.2.2.2.2.1 (Nat.le_of_ble_eq_true rfl) rfl (by first | exact Or.inr ⟨_, rfl⟩ | exact va_rf_or _ | exact Or.inl rfl) rfl ?_
  refine x_aload C D_X2_sinkInRow_0.2.2.2.2.2.1 rfl (by first | exact Or.inr ⟨_, rfl⟩ | exact va_rf_or _ | exact Or.inl rfl) ?_
  refine x_ifnonnull C 16 D_X2_sinkInRow_0.2.2.2.2.2.2.1 (by decide) (fun x9 e_12 => ?_) (fun e_12 => ?_)
  · skip
    obtain rfl : x0 = x9 := Option.some.inj e_12
    refine x_aload_n C D_X2_sinkInRow_0.2.2.2.2.2.2.2.2.1 rfl rfl (by first | exact Or.inr ⟨_, rfl⟩ | exact va_rf_or _ | exact Or.inl rfl) ?_
    refine x_aload C D_X2_sinkInRow_0.2.2.2.2.2.2.2.2.2.1 rfl (by first | exact Or.inr ⟨_, rfl⟩ | exact va_rf_or _ | exact Or.inl rfl) ?_
    refine x_getI C (ci := 2) (k0 := 0) hx3 (by decide) rfl (by decide) in_X3 k_611 rfl rfl D_X2_sinkInRow_0.2.2.2.2.2.2.2.2.2.2.1 ?_
    refine x_eqi _ hx0 ?_
    refine x_iload_n C D_X2_sinkInRow_0.2.2.2.2.2.2.2.2.2.2.2 rfl rfl ?_
    refine x_callAi C (x := ⟨"ScapegoatSpur$LazyTree", "orderOf", "(II)I"⟩) (y := yX1_orderOf) (owner := "ScapegoatSpur$LazyTree") (c_X1_orderOf l G t (cd x0) d) (ci := 1) hk (by decide) rfl k_232 k_234 k_235 k_236 k_62 k_237 C.2.2.2.2.2.1.2.1 hu_X1_orderOf ⟨(Nat.le_of_ble_eq_true rfl), (Nat.le_of_ble_eq_true rfl)⟩ rfl (by first | exact Nat.le_of_ble_eq_true rfl | simp [x_crf, Value.category]) rfl rfl D_X2_sinkInRow_1.1 ⟨(Nat.le_of_ble_eq_true rfl), (Nat.le_of_ble_eq_true rfl)⟩ (fun r_23 S_23 h_23 => ?_)
    obtain ⟨rfl, rfl⟩ := h_23
    refine x_istore C (lv' := [_, _, _, _, _, _, _, _]) D_X2_sinkInRow_1.2.1 (Nat.le_of_ble_eq_true rfl) rfl rfl ?_
    refine x_iload_n C D_X2_sinkInRow_1.2.2.1 rfl rfl ?_
    refine x_istore C (lv' := [_, _, _, _, _, _, _, _]) D_X2_sinkInRow_1.2.2.2.1 (Nat.le_of_ble_eq_true rfl) rfl rfl ?_
    have L_31 : ∀ (w_31 : Nat) (s1 s2 : List Nat) (g : Nat → Option Nat) (Q1 : Nat → Nat → Option Nat) (v7 : Option Value), s1.length < w_31 → (Q1 = x_up Q rn g) → (seg = s1 ++ s2) → (∀ y ∈ s2, od1 d (cd x0) < od1 d (cd y)) → (SEG g a s1) → (SEG g (a + s1.length + 1) s2) → (∀ i, (i < a ∨ a + seg.length < i) → g i = Q rn i) → XW pP l eE rm_X2_sinkInRow_1 sS mM aA bB hH cC G Z 0 0 (K, N, I, Q1, J) 31 [some (.ref t), some (.int (nI a)), some (.int (nI (a + seg.length))), some (.int (nI d)), some (.ref x0), some (.int (cv1 (od1 d (cd x0)))), some (.int (nI (a + s1.length))), v7] [] := by
      intro w_31
      induction w_31 with
      | zero =>
        intro s1 s2 g Q1 v7 hw_31
        exact absurd hw_31 (Nat.not_lt_zero _)
      | succ w_31 ih_31 =>
        intro s1 s2 g Q1 v7 hw_31 eQ1 hseg hs2 hg1 hg2 ho
        have hsl2 : s1.length ≤ seg.length := by rw [hseg]; simp
        refine x_iload C D_X2_sinkInRow_1.2.2.2.2.1 rfl ?_
        have L_90 : ∀ (w7 : Option Value), (∀ y, s1.getLast? = some y → od1 d (cd y) ≤ od1 d (cd x0)) → XW pP l eE rm_X2_sinkInRow_1 sS mM aA bB hH cC G Z 0 0 (K, N, I, Q1, J) 90 [some (.ref t), some (.int (nI a)), some (.int (nI (a + seg.length))), some (.int (nI d)), some (.ref x0), some (.int (cv1 (od1 d (cd x0)))), some (.int (nI (a + s1.length))), w7] [] := by
          intro w7 hlast
          refine x_aload_n C D_X2_sinkInRow_3.2.2.2.2.2.2.2.1 rfl rfl (by first | exact Or.inr ⟨_, rfl⟩ | exact va_rf_or _ | exact Or.inl rfl) ?_
          refine x_getQ C (ci := 1) (k0 := 1) (by assumption) (by decide) rfl (by decide) in_X1 k_111 rfl rfl D_X2_sinkInRow_3.2.2.2.2.2.2.2.2.1 ?_
          refine x_eqr (show Q1 t 1 = some rw by rw [eQ1, x_up_n _ _ htn]; exact h1) ?_
          refine x_iload C D_X2_sinkInRow_3.2.2.2.2.2.2.2.2.2.1 rfl ?_
          refine x_aload C D_X2_sinkInRow_3.2.2.2.2.2.2.2.2.2.2.1 rfl (by first | exact Or.inr ⟨_, rfl⟩ | exact va_rf_or _ | exact Or.inl rfl) ?_
          refine x_callVv C (y := yX4_put) (c_X4_put l G rw rn cap n (a + s1.length) x0 _ (by rw [eQ1]; exact (hrw.row g).ok hn hnc) hx3 rfl (by omega)) (ci := 3) hrw.1 (by decide) rfl rfl k_276 k_277 k_278 k_63 k_279 hd_X4_put ⟨(Nat.le_of_ble_eq_true rfl), (Nat.le_of_ble_eq_true rfl)⟩ rfl (by first | exact Nat.le_of_ble_eq_true rfl | simp [x_crf, Value.category]) rfl rfl D_X2_sinkInRow_3.2.2.2.2.2.2.2.2.2.2.2 ⟨(Nat.le_of_ble_eq_true rfl), (Nat.le_of_ble_eq_true rfl)⟩ (fun _ S_98 h_98 => ?_)
          obtain rfl := h_98
          refine ret _ _ _ _ _ rfl D_X2_sinkInRow_4 (Nat.le_of_ble_eq_true rfl) (Nat.le_of_ble_eq_true rfl) ?_
          refine ⟨x_up g (a + s1.length) (some x0), s1, s2, ?_, hseg, hs2, hlast, ?_, ?_⟩
          · rw [eQ1, x_u2_up]
          · refine SEG_app (SEG_congr hg1 (fun i h1 h2 => x_up_n _ _ (by omega))) ?_
            refine SEG_app (l1 := [x0]) (SEG_one (x_up_s _ _ _)) ?_
            exact SEG_congr hg2 (fun i h1 h2 => x_up_n _ _ (by simp at h1; omega))
          · intro i hi
            rw [x_up_n _ _ (by omega)]; exact ho i hi
        refine x_iload_n C D_X2_sinkInRow_1.2.2.2.2.2.1 rfl rfl ?_
        refine x_icmp_le C 90 D_X2_sinkInRow_1.2.2.2.2.2.2.1 (by decide) (fun c_34 => ?_) (fun c_34 => ?_)
        · skip
          have hs1 : s1 = [] := by
            have h9 := (nI_leI (by omega) (by omega)).mp c_34
            have h8 : s1.length = 0 := by omega
            exact List.eq_nil_of_length_eq_zero h8
          exact L_90 _ (fun y hy => by rw [hs1] at hy; cases hy)
        · skip
          obtain ⟨s0, y0, rfl⟩ : ∃ s0 y0, s1 = s0 ++ [y0] := by
            rcases List.eq_nil_or_concat s1 with rfl | ⟨s0, y0, rfl⟩
            · exact absurd ((nI_leI (by omega) (by omega)).mpr (by simp)) c_34
            · exact ⟨s0, y0, by simp⟩
          have hsl : (s0 ++ [y0]).length = s0.length + 1 := by simp
          obtain ⟨hy3, hy0, hyc⟩ := hnd y0 (by rw [hseg]; simp)
          refine x_aload_n C D_X2_sinkInRow_1.2.2.2.2.2.2.2.1 rfl rfl (by first | exact Or.inr ⟨_, rfl⟩ | exact va_rf_or _ | exact Or.inl rfl) ?_
          refine x_getQ C (ci := 1) (k0 := 1) (by assumption) (by decide) rfl (by decide) in_X1 k_111 rfl rfl D_X2_sinkInRow_1.2.2.2.2.2.2.2.2.1 ?_
          refine x_eqr (show Q1 t 1 = some rw by rw [eQ1, x_up_n _ _ htn]; exact h1) ?_
          refine x_iload C D_X2_sinkInRow_1.2.2.2.2.2.2.2.2.2.1 rfl ?_
          refine x_iconst C (v := nI 1) D_X2_sinkInRow_1.2.2.2.2.2.2.2.2.2.2.1 (by decide +kernel) ?_
          refine x_isub C D_X2_sinkInRow_1.2.2.2.2.2.2.2.2.2.2.2 ?_
          refine x_eqi _ (show nI (a + (s0 ++ [y0]).length) - nI 1 = nI (a + s0.length) by rw [pk_sub (by rw [hsl]; omega)]; congr 1; omega) ?_
          refine x_callVq C (y := yX4_at) (c_X4_at l G rw rn cap n (nI (a + s0.length)) (by rw [eQ1]; exact (hrw.row g).ok hn hnc)) (ci := 3) hrw.1 (by decide) rfl rfl k_272 k_273 k_274 k_63 k_275 hd_X4_at ⟨(Nat.le_of_ble_eq_true rfl), (Nat.le_of_ble_eq_true rfl)⟩ rfl (by first | exact Nat.le_of_ble_eq_true rfl | simp [x_crf, Value.category]) rfl rfl D_X2_sinkInRow_2.1 ⟨(Nat.le_of_ble_eq_true rfl), (Nat.le_of_ble_eq_true rfl)⟩ (fun r_45 S_45 h_45 => ?_)
          obtain ⟨hr45, rfl⟩ := h_45
          rw [atv_in _ (by rw [hsl] at hsl2; omega) (by omega), eQ1, x_up_s, hg1 s0.length (by rw [hsl]; omega)] at hr45
          obtain rfl : r_45 = some y0 := by simpa using hr45
          refine x_astore C (lv' := [_, _, _, _, _, _, _, _]) D_X2_sinkInRow_2.2.1 (Nat.le_of_ble_eq_true rfl) rfl (by first | exact Or.inr ⟨_, rfl⟩ | exact va_rf_or _ | exact Or.inl rfl) rfl ?_
          refine x_aload C D_X2_sinkInRow_2.2.2.1 rfl (by first | exact Or.inr ⟨_, rfl⟩ | exact va_rf_or _ | exact Or.inl rfl) ?_
          refine x_ifnull C 90 D_X2_sinkInRow_2.2.2.2.1 (by decide) (fun e_52 => ?_) (fun y9 e_52 => ?_)
          · skip
            exact absurd e_52 (by simp)
            --end
          · skip
            obtain rfl : y0 = y9 := Option.some.inj e_52
            refine x_aload_n C D_X2_sinkInRow_2.2.2.2.2.1 rfl rfl (by first | exact Or.inr ⟨_, rfl⟩ | exact va_rf_or _ | exact Or.inl rfl) ?_
            refine x_aload C D_X2_sinkInRow_2.2.2.2.2.2.1 rfl (by first | exact Or.inr ⟨_, rfl⟩ | exact va_rf_or _ | exact Or.inl rfl) ?_
            refine x_getI C (ci := 2) (k0 := 0) hy3 (by decide) rfl (by decide) in_X3 k_611 rfl rfl D_X2_sinkInRow_2.2.2.2.2.2.2.1 ?_
            refine x_eqi _ hy0 ?_
            refine x_iload_n C D_X2_sinkInRow_2.2.2.2.2.2.2.2.1 rfl rfl ?_
            refine x_callAi C (x := ⟨"ScapegoatSpur$LazyTree", "orderOf", "(II)I"⟩) (y := yX1_orderOf) (owner := "ScapegoatSpur$LazyTree") (c_X1_orderOf l G t (cd y0) d) (ci := 1) hk (by decide) rfl k_232 k_234 k_235 k_236 k_62 k_237 C.2.2.2.2.2.1.2.1 hu_X1_orderOf ⟨(Nat.le_of_ble_eq_true rfl), (Nat.le_of_ble_eq_true rfl)⟩ rfl (by first | exact Nat.le_of_ble_eq_true rfl | simp [x_crf, Value.category]) rfl rfl D_X2_sinkInRow_2.2.2.2.2.2.2.2.2.1 ⟨(Nat.le_of_ble_eq_true rfl), (Nat.le_of_ble_eq_true rfl)⟩ (fun r_62 S_62 h_62 => ?_)
            obtain ⟨rfl, rfl⟩ := h_62
            refine x_iload C D_X2_sinkInRow_2.2.2.2.2.2.2.2.2.2.1 rfl ?_
            refine x_icmp_gt C 73 D_X2_sinkInRow_2.2.2.2.2.2.2.2.2.2.2.1 (by decide) (fun c_67 => ?_) (fun c_67 => ?_)
            · skip
              have hgt : od1 d (cd x0) < od1 d (cd y0) := by
                rw [i32_lt, cv1_toInt (od1_lt hxc), cv1_toInt (od1_lt hyc)] at c_67
                omega
              refine x_aload_n C D_X2_sinkInRow_3.1 rfl rfl (by first | exact Or.inr ⟨_, rfl⟩ | exact va_rf_or _ | exact Or.inl rfl) ?_
              refine x_getQ C (ci := 1) (k0 := 1) (by assumption) (by decide) rfl (by decide) in_X1 k_111 rfl rfl D_X2_sinkInRow_3.2.1 ?_
              refine x_eqr (show Q1 t 1 = some rw by rw [eQ1, x_up_n _ _ htn]; exact h1) ?_
              refine x_iload C D_X2_sinkInRow_3.2.2.1 rfl ?_
              refine x_aload C D_X2_sinkInRow_3.2.2.2.1 rfl (by first | exact Or.inr ⟨_, rfl⟩ | exact va_rf_or _ | exact Or.inl rfl) ?_
              refine x_callVv C (y := yX4_put) (c_X4_put l G rw rn cap n (a + (s0 ++ [y0]).length) y0 _ (by rw [eQ1]; exact (hrw.row g).ok hn hnc) hy3 rfl (by rw [hsl] at hsl2 ⊢; omega)) (ci := 3) hrw.1 (by decide) rfl rfl k_276 k_277 k_278 k_63 k_279 hd_X4_put ⟨(Nat.le_of_ble_eq_true rfl), (Nat.le_of_ble_eq_true rfl)⟩ rfl (by first | exact Nat.le_of_ble_eq_true rfl | simp [x_crf, Value.category]) rfl rfl D_X2_sinkInRow_3.2.2.2.2.1 ⟨(Nat.le_of_ble_eq_true rfl), (Nat.le_of_ble_eq_true rfl)⟩ (fun _ S_81 h_81 => ?_)
              obtain rfl := h_81
              refine x_iinc C (lv' := [_, _, _, _, _, _, _, _]) D_X2_sinkInRow_3.2.2.2.2.2.1 rfl (x_inc_m1 _) rfl rfl ?_
              refine x_lv (lv := [_, _, _, _, _, _, some (.int (nI (a + s0.length))), _]) (by rw [hsl, ← Nat.add_assoc, pk_m1]) ?_
              refine x_goto C 31 D_X2_sinkInRow_3.2.2.2.2.2.2.1 (by decide) ?_
              exact ih_31 s0 (y0 :: s2) (x_up g (a + (s0 ++ [y0]).length) (some y0)) _ _ (by rw [hsl] at hw_31; omega) (by rw [eQ1, x_u2_up]) (by rw [hseg]; simp) (fun y hy => by
                rcases List.mem_cons.mp hy with rfl | hy
                · exact hgt
                · exact hs2 y hy) (SEG_congr (SEG_left hg1) (fun i h1 h2 => x_up_n _ _ (by rw [hsl]; omega))) (SEG_app (l1 := [y0]) (SEG_one (by rw [hsl]; exact x_up_s _ _ _)) (SEG_congr (by rw [hsl] at hg2; exact hg2) (fun i h1 h2 => x_up_n _ _ (by rw [hsl]; simp at h1; omega)))) (fun i hi => by rw [x_up_n _ _ (by rw [hsl] at hsl2 ⊢; omega)]; exact ho i hi)
            · skip
              have hle : od1 d (cd y0) ≤ od1 d (cd x0) := by
                rw [i32_lt, cv1_toInt (od1_lt hxc), cv1_toInt (od1_lt hyc)] at c_67
                omega
              refine x_goto C 90 D_X2_sinkInRow_2.2.2.2.2.2.2.2.2.2.2.2 (by decide) ?_
              exact L_90 _ (fun y hy => by
                simp at hy
                subst hy
                exact hle)
    exact L_31 _ seg [] (Q rn) _ none (Nat.lt_succ_self _) (x_up_id Q rn).symm (by simp) (fun y hy => absurd hy List.not_mem_nil) (SEG_left hsg) SEG_nil (fun i _ => rfl)
  · skip
    exact absurd e_12 (by simp)
    --end
abbrev rm_X2_sortRow_1 : Room := { frames := 2, cells := 0, slots := 0, locals := 49 }
theorem hd_X2_sinkInRow : yX2_sinkInRow.cls ≠ "java/lang/invoke/MethodHandle" ∧ yX2_sinkInRow.cls ≠ "java/lang/invoke/VarHandle" ∧ (parseMethodDescriptor yX2_sinkInRow.desc).map (fun d => d.parameters.length) = some 3 := by decide +kernel
theorem hu_X2_sinkInRow : "ScapegoatSpur$LazyTree" ≠ "java/lang/invoke/MethodHandle" ∧ "ScapegoatSpur$LazyTree" ≠ "java/lang/invoke/VarHandle" ∧ (parseMethodDescriptor "(III)V").map (fun d => d.parameters.length) = some 3 := by decide +kernel
set_option maxHeartbeats 4000000 in
set_option maxRecDepth 100000 in
theorem c_X2_sortRow_1 (l : Launch) (G : xG) {K N : Nat → Nat} {I : Nat → Nat → Int32} {Q : Nat → Nat → Option Nat} {J : Nat → Nat → Int64} (t pq pn rw rn cap : Nat) (a d n : Nat) (lst : List Nat) (cd : Nat → Nat) (hz : LZ K N Q t 2 pq pn rw rn cap) (hn : I rw 1 = nI n) (hnc : n ≤ cap) (hlen : a + lst.length ≤ n) (hl0 : 0 < lst.length) (hd : d < 1000) (hsg : SEG (Q rn) a lst) (hnd : ND cv1 1999 K I cd lst) : XM l yX2_sortRow cX2_sortRow 5 none rm_X2_sortRow_1 G Rv [.ref t, .int (nI a), .int (nI (a + lst.length)), .int (nI d)] (K, N, I, Q, J) (fun _ S1 => ∃ g l2, S1 = (K, N, I, x_up Q rn g, J) ∧ l2.Perm lst ∧ l2.Pairwise (fun u v => od1 d (cd u) ≤ od1 d (cd v)) ∧ SEG g a l2 ∧ ∀ i, (i < a ∨ a + lst.length ≤ i) → g i = Q rn i) := by
  refine x_metv (lv := [_, _, _, _, _]) (by decide +kernel) (x_cc (by first | rfl | exact x_crf _) (x_cc (by first | rfl | exact x_crf _) (x_cc (by first | rfl | exact x_crf _) (x_cc (by first | rfl | exact x_crf _) x_cn)))) (Nat.le_of_ble_eq_true rfl) rfl ?_
  intro pP eE sS mM aA bB hH cC Z C hini ret
  have hcap := hz.2.2.2.2.2.1.2.2.2.2
  obtain ⟨x9, l9, rfl⟩ : ∃ x9 l9, lst = x9 :: l9 := by
    cases lst with
    | nil => simp at hl0
    | cons x l => exact ⟨x, l, rfl⟩
  refine x_iload_n C D_X2_sortRow_0.1 rfl rfl ?_
  refine x_iconst C (v := nI 1) D_X2_sortRow_0.2.1 (by decide +kernel) ?_
  refine x_iadd C D_X2_sortRow_0.2.2.1 ?_
  refine x_eqi _ (nI_add _ _) ?_
  refine x_istore C (lv' := [_, _, _, _, _]) D_X2_sortRow_0.2.2.2.1 (Nat.le_of_ble_eq_true rfl) rfl rfl ?_
  have L_5 : ∀ (w_5 : Nat) (dn rs : List Nat) (g : Nat → Option Nat) (Q1 : Nat → Nat → Option Nat), rs.length < w_5 → (Q1 = x_up Q rn g) → ((dn ++ rs).Perm (x9 :: l9)) → (dn.Pairwise (fun u v => od1 d (cd u) ≤ od1 d (cd v))) → (SEG g a (dn ++ rs)) → (∀ i, (i < a ∨ a + (x9 :: l9).length ≤ i) → g i = Q rn i) → XW pP l eE rm_X2_sortRow_1 sS mM aA bB hH cC G Z 0 0 (K, N, I, Q1, J) 5 [some (.ref t), some (.int (nI a)), some (.int (nI (a + (x9 :: l9).length))), some (.int (nI d)), some (.int (nI (a + dn.length)))] [] := by
    intro w_5
    induction w_5 with
    | zero =>
      intro dn rs g Q1 hw_5
      exact absurd hw_5 (Nat.not_lt_zero _)
    | succ w_5 ih_5 =>
      intro dn rs g Q1 hw_5 eQ1 hpm hsr hsg1 ho
      have h8 := hpm.length_eq
      rw [List.length_append] at h8
      refine x_iload C D_X2_sortRow_0.2.2.2.2.1 rfl ?_
      refine x_iload_n C D_X2_sortRow_0.2.2.2.2.2.1 rfl rfl ?_
      refine x_icmp_ge C 25 D_X2_sortRow_0.2.2.2.2.2.2.1 (by decide) (fun c_8 => ?_) (fun c_8 => ?_)
      · skip
        have hrs : rs = [] := by
          have h9 := (nI_leI (by omega) (by omega)).mp c_8
          exact List.eq_nil_of_length_eq_zero (by omega)
        refine ret _ _ _ _ _ rfl D_X2_sortRow_1.2.2 (Nat.le_of_ble_eq_true rfl) (Nat.le_of_ble_eq_true rfl) ?_
        subst hrs
        rw [List.append_nil] at hpm hsg1
        exact ⟨g, dn, by rw [eQ1], hpm, hsr, hsg1, ho⟩
      · skip
        obtain ⟨y9, r9, rfl⟩ : ∃ y9 r9, rs = y9 :: r9 := by
          cases rs with
          | nil => exact absurd ((nI_leI (by omega) (by omega)).mpr (by rw [List.length_nil] at h8; omega)) c_8
          | cons y r => exact ⟨y, r, rfl⟩
        rw [List.length_cons (as := r9)] at h8
        refine x_aload_n C D_X2_sortRow_0.2.2.2.2.2.2.2.1 rfl rfl (by first | exact Or.inr ⟨_, rfl⟩ | exact va_rf_or _ | exact Or.inl rfl) ?_
        refine x_iload_n C D_X2_sortRow_0.2.2.2.2.2.2.2.2.1 rfl rfl ?_
        refine x_iload C D_X2_sortRow_0.2.2.2.2.2.2.2.2.2.1 rfl ?_
        refine x_iload_n C D_X2_sortRow_0.2.2.2.2.2.2.2.2.2.2.1 rfl rfl ?_
        refine x_callUv C (x := ⟨"ScapegoatSpur$LazyTree", "sinkInRow", "(III)V"⟩) (y := yX2_sinkInRow) (owner := "ScapegoatSpur$LazyTree") (c_X2_sinkInRow_1 l G t pq pn rw rn cap a d n y9 dn cd (by rw [eQ1]; exact hz.row g) hn hnc (by omega) hd (by rw [eQ1, x_up_s]; exact SEG_left (l2 := r9) (by simpa using hsg1)) (fun q hq => hnd q (hpm.mem_iff.mp (by simp at hq ⊢; rcases hq with hq | hq <;> simp [hq])))) (ci := 1) hz.1 (by decide) rfl k_268 k_18 k_19 k_270 k_61 k_271 rfl hu_X2_sinkInRow ⟨(Nat.le_of_ble_eq_true rfl), (Nat.le_of_ble_eq_true rfl)⟩ rfl (by first | exact Nat.le_of_ble_eq_true rfl | simp [x_crf, Value.category]) rfl rfl D_X2_sortRow_0.2.2.2.2.2.2.2.2.2.2.2 ⟨(Nat.le_of_ble_eq_true rfl), (Nat.le_of_ble_eq_true rfl)⟩ (fun _ S_16 h_16 => ?_)
        obtain ⟨g2, s1, s2, rfl, rfl, hs2, hs1, hsg2, ho2⟩ := h_16
        refine x_iinc C (lv' := [_, _, _, _, _]) D_X2_sortRow_1.1 rfl (x_inc_1 _) rfl rfl ?_
        refine x_lv (lv := [_, _, _, _, some (.int (nI (a + (s1 ++ y9 :: s2).length)))]) (by rw [nI_add, show a + (s1 ++ s2).length + 1 = a + (s1 ++ y9 :: s2).length by simp only [List.length_append, List.length_cons]; omega]) ?_
        refine x_goto C 5 D_X2_sortRow_1.2.1 (by decide) ?_
        refine ih_5 (s1 ++ y9 :: s2) r9 g2 (x_up Q1 rn g2) (by simp only [List.length_cons] at hw_5; omega) (by rw [eQ1, x_up_up]) ?_ (sorted_ins hsr hs2 hs1) ?_ ?_
        · refine List.Perm.trans ?_ hpm
          simp only [List.append_assoc, List.cons_append]
          exact List.Perm.append_left _ (List.perm_middle.symm)
        · rw [List.append_assoc] at hsg1
          refine SEG_app hsg2 ?_
          have h7 := SEG_right (l1 := s1 ++ (s2 ++ [y9])) (l2 := r9) (f := g) (a := a) (by simpa using hsg1)
          have h6 : (s1 ++ y9 :: s2).length = (s1 ++ (s2 ++ [y9])).length := by simp
          rw [h6]
          refine SEG_congr h7 (fun i h1 h2 => ?_)
          rw [ho2 i (Or.inr (by simp at h1 ⊢; omega)), eQ1, x_up_s]
        · intro i hi
          rw [ho2 i (by simp only [List.length_append, List.length_cons] at hi h8 ⊢; omega), eQ1, x_up_s]
          exact ho i hi
  exact L_5 _ [x9] l9 (Q rn) _ (Nat.lt_succ_self _) (x_up_id Q rn).symm (List.Perm.refl _) (List.pairwise_singleton _ _) hsg (fun i _ => rfl)
abbrev rm_X2_layOut_1 (b : Nat) : Room := { frames := b + 3, cells := 0, slots := 0, locals := 25 * b + 100 }
theorem hd_X2_layOut : yX2_layOut.cls ≠ "java/lang/invoke/MethodHandle" ∧ yX2_layOut.cls ≠ "java/lang/invoke/VarHandle" ∧ (parseMethodDescriptor yX2_layOut.desc).map (fun d => d.parameters.length) = some 4 := by decide +kernel
theorem hd_X2_sortRow : yX2_sortRow.cls ≠ "java/lang/invoke/MethodHandle" ∧ yX2_sortRow.cls ≠ "java/lang/invoke/VarHandle" ∧ (parseMethodDescriptor yX2_sortRow.desc).map (fun d => d.parameters.length) = some 3 := by decide +kernel
theorem hu_X2_sortRow : "ScapegoatSpur$LazyTree" ≠ "java/lang/invoke/MethodHandle" ∧ "ScapegoatSpur$LazyTree" ≠ "java/lang/invoke/VarHandle" ∧ (parseMethodDescriptor "(III)V").map (fun d => d.parameters.length) = some 3 := by decide +kernel
set_option maxHeartbeats 4000000 in
set_option maxRecDepth 100000 in
theorem c_X2_layOut_1 (l : Launch) (G : xG) {K N : Nat → Nat} {J : Nat → Nat → Int64} (t pq pn rw rn cap : Nat) (n : Nat) (cd : Nat → Nat) (hnc : n ≤ cap) : ∀ (b : Nat) (lst : List Nat) (d a e0 : Nat) (I : Nat → Nat → Int32) (Q : Nat → Nat → Option Nat), (LZ K N Q t 2 pq pn rw rn cap) → (I rw 1 = nI n) → (e0 = a + lst.length) → (e0 ≤ n) → (d + b ≤ 40) → (lst.length < 2 ^ b) → (lst.Nodup) → (ND cv1 1999 K I cd lst) → (∀ u ∈ lst, ∀ v ∈ lst, cd u = cd v → u = v) → (SEG (Q rn) a lst) → XM l yX2_layOut cX2_layOut 6 (some (.object "ScapegoatSpur$Node")) (rm_X2_layOut_1 b) G Rq [.ref t, .int (nI a), .int (nI e0), .int (nI d)] (K, N, I, Q, J) (fun r S1 => ∃ I1 Q1, S1 = (K, N, I1, Q1, J) ∧ LAYP K I I1 Q Q1 rn a lst (kdl od1 cd b d lst) r) := by
  intro b
  induction b using Nat.strongRecOn with
  | _ b ih =>
  intro lst d a e0 I Q hz hn he hlen hdb hf hnd hN hinj hsg
  refine x_metq (lv := [_, _, _, _, _, _]) (by decide +kernel) (x_cc (by first | rfl | exact x_crf _) (x_cc (by first | rfl | exact x_crf _) (x_cc (by first | rfl | exact x_crf _) (x_cc (by first | rfl | exact x_crf _) x_cn)))) (Nat.le_of_ble_eq_true rfl) rfl ?_
  intro pP eE sS mM aA bB hH cC Z C hini ret
  have hcap := hz.2.2.2.2.2.1.2.2.2.2
  have hkr := hz.2.2.2.2.2.1.1
  have hkn := hz.2.2.2.2.2.1.2.2.1
  subst he
  refine x_iload_n C D_X2_layOut_0.1 rfl rfl ?_
  refine x_iload_n C D_X2_layOut_0.2.1 rfl rfl ?_
  refine x_icmp_ge C 11 D_X2_layOut_0.2.2.1 (by decide) (fun c_2 => ?_) (fun c_2 => ?_)
  · skip
    have hl : lst = [] := by
      have h9 := (nI_leI (by omega) (by omega)).mp c_2
      exact List.eq_nil_of_length_eq_zero (by omega)
    subst hl
    refine x_null C D_X2_layOut_0.2.2.2.2.2.2.1 ?_
    refine ret _ _ _ _ _ _ _ ⟨_, rfl⟩ D_X2_layOut_0.2.2.2.2.2.2.2.1 (Nat.le_of_ble_eq_true rfl) (Nat.le_of_ble_eq_true rfl) (by first | exact rfl | exact (rfl : _ = va_rf (some _)) | exact (rfl : _ = va_rf none)) ?_
    exact ⟨I, Q, rfl, by cases b with | zero => exact LAYP.nil | succ b => (simp only [kdl, if_true]; exact LAYP.nil)⟩
  · skip
    have hl0 : 0 < lst.length := by
      rcases Nat.eq_zero_or_pos lst.length with h | h
      · exact absurd ((nI_leI (by omega) (by omega)).mpr (by omega)) c_2
      · exact h
    obtain ⟨b0, rfl⟩ : ∃ b0, b = b0 + 1 := by
      cases b with
      | zero => simp at hf; simp [hf] at hl0
      | succ b => exact ⟨b, rfl⟩
    refine x_iload_n C D_X2_layOut_0.2.2.2.1 rfl rfl ?_
    refine x_bipush C (v := nI 40) D_X2_layOut_0.2.2.2.2.1 (by decide +kernel) ?_
    refine x_icmp_lt C 13 D_X2_layOut_0.2.2.2.2.2.1 (by decide) (fun c_8 => ?_) (fun c_8 => ?_)
    · skip
      refine x_aload_n C D_X2_layOut_0.2.2.2.2.2.2.2.2.1 rfl rfl (by first | exact Or.inr ⟨_, rfl⟩ | exact va_rf_or _ | exact Or.inl rfl) ?_
      refine x_iload_n C D_X2_layOut_0.2.2.2.2.2.2.2.2.2.1 rfl rfl ?_
      refine x_iload_n C D_X2_layOut_0.2.2.2.2.2.2.2.2.2.2.1 rfl rfl ?_
      refine x_iload_n C D_X2_layOut_0.2.2.2.2.2.2.2.2.2.2.2 rfl rfl ?_
      refine x_callUv C (x := ⟨"ScapegoatSpur$LazyTree", "sortRow", "(III)V"⟩) (y := yX2_sortRow) (owner := "ScapegoatSpur$LazyTree") (c_X2_sortRow_1 l G t pq pn rw rn cap a d n lst cd hz hn hnc hlen hl0 (by omega) hsg hN) (ci := 1) hz.1 (by decide) rfl k_264 k_15 k_16 k_266 k_61 k_267 rfl hu_X2_sortRow ⟨show _ ≤ b0 + 1 + 3 by simp, show 8 + (5 + 11) + _ ≤ 25 * (b0 + 1) + 100 by simp⟩ rfl (by first | exact Nat.le_of_ble_eq_true rfl | simp [x_crf, Value.category]) rfl rfl D_X2_layOut_1.1 ⟨(Nat.le_of_ble_eq_true rfl), (Nat.le_of_ble_eq_true rfl)⟩ (fun _ S_17 h_17 => ?_)
      obtain ⟨g, l2, rfl, hpm, hsr, hsg2, ho⟩ := h_17
      obtain rfl : l2 = msr od1 cd d lst := msr_eq hpm hsr (fun u hu v hv h => hinj u hu v hv (od1_inj h (hN u hu).2.2 (hN v hv).2.2))
      obtain ⟨Qs, eQs⟩ : ∃ Qs, Qs = x_up Q rn g := ⟨_, rfl⟩
      rw [← eQs]
      obtain ⟨sl, esl⟩ : ∃ sl, sl = msr od1 cd d lst := ⟨_, rfl⟩
      rw [← esl] at hpm hsr hsg2
      have hsl := hpm.length_eq
      have hzs : LZ K N Qs t 2 pq pn rw rn cap := by rw [eQs]; exact hz.row g
      obtain ⟨hh, ehh⟩ : ∃ hh, hh = lst.length / 2 := ⟨_, rfl⟩
      have hhl : hh < lst.length := by omega
      have hsp := split_mid sl hh (by omega)
      obtain ⟨md, emd⟩ : ∃ md, md = sl.getD hh 0 := ⟨_, rfl⟩
      rw [← emd] at hsp
      have hmd : sl[hh]? = some md := by rw [emd, List.getD_eq_getElem?_getD, List.getElem?_eq_getElem (by omega)]; rfl
      have hml : md ∈ lst := hpm.mem_iff.mp (List.mem_of_getElem? hmd)
      have hmk := hN md hml
      have hmr : md ≠ rn := nodes_ne hmk.1 hkn (by omega)
      have hLl : (sl.take hh).length = hh := by rw [List.length_take]; omega
      have hsgL : SEG (Qs rn) a (sl.take hh) := by rw [eQs, x_up_s]; rw [hsp] at hsg2; exact SEG_left hsg2
      have hsub : ∀ q, q ∈ sl.take hh ∨ q ∈ sl.drop (hh + 1) → q ∈ lst := fun q hq => hpm.mem_iff.mp (hq.elim List.mem_of_mem_take List.mem_of_mem_drop)
      have hnds : sl.Nodup := hpm.nodup_iff.mpr hnd
      refine x_iload_n C D_X2_layOut_1.2.1 rfl rfl ?_
      refine x_iload_n C D_X2_layOut_1.2.2.1 rfl rfl ?_
      refine x_iload_n C D_X2_layOut_1.2.2.2.1 rfl rfl ?_
      refine x_isub C D_X2_layOut_1.2.2.2.2.1 ?_
      refine x_eqi _ (show nI (a + lst.length) - nI a = nI lst.length by rw [pk_sub (by omega)]; congr 1; omega) ?_
      refine x_iconst C (v := nI 2) D_X2_layOut_1.2.2.2.2.2.1 (by decide +kernel) ?_
      refine x_idiv C D_X2_layOut_1.2.2.2.2.2.2.1 (by decide) ?_
      refine x_eqi _ (pk_div (a := lst.length) (d := 2) (by omega) (by omega) (by omega)) ?_
      refine x_iadd C D_X2_layOut_1.2.2.2.2.2.2.2.1 ?_
      refine x_eqi _ (show nI a + nI (lst.length / 2) = nI (a + hh) by rw [nI_add, ehh]) ?_
      refine x_istore C (lv' := [_, _, _, _, _, _]) D_X2_layOut_1.2.2.2.2.2.2.2.2.1 (Nat.le_of_ble_eq_true rfl) rfl rfl ?_
      refine x_aload_n C D_X2_layOut_1.2.2.2.2.2.2.2.2.2.1 rfl rfl (by first | exact Or.inr ⟨_, rfl⟩ | exact va_rf_or _ | exact Or.inl rfl) ?_
      refine x_getQ C (ci := 1) (k0 := 1) hz.1 (by decide) rfl (by decide) in_X1 k_111 rfl rfl D_X2_layOut_1.2.2.2.2.2.2.2.2.2.2.1 ?_
      refine x_eqr hzs.2.2.2.1 ?_
      refine x_iload C D_X2_layOut_1.2.2.2.2.2.2.2.2.2.2.2 rfl ?_
      refine x_callVq C (y := yX4_at) (c_X4_at l G rw rn cap n (nI (a + hh)) (hzs.2.2.2.2.2.1.ok hn hnc)) (ci := 3) hkr (by decide) rfl rfl k_272 k_273 k_274 k_63 k_275 hd_X4_at ⟨(Nat.le_of_ble_eq_true rfl), (Nat.le_of_ble_eq_true rfl)⟩ rfl (by first | exact Nat.le_of_ble_eq_true rfl | simp [x_crf, Value.category]) rfl rfl D_X2_layOut_2.1 ⟨(Nat.le_of_ble_eq_true rfl), (Nat.le_of_ble_eq_true rfl)⟩ (fun r_35 S_35 h_35 => ?_)
      obtain ⟨hr35, rfl⟩ := h_35
      rw [atv_in _ (by omega) (by omega), eQs, x_up_s, hsg2 hh (by omega), hmd] at hr35
      subst hr35
      refine x_astore C (lv' := [_, _, _, _, _, _]) D_X2_layOut_2.2.1 (Nat.le_of_ble_eq_true rfl) rfl (by first | exact Or.inr ⟨_, rfl⟩ | exact va_rf_or _ | exact Or.inl rfl) rfl ?_
      refine x_aload C D_X2_layOut_2.2.2.1 rfl (by first | exact Or.inr ⟨_, rfl⟩ | exact va_rf_or _ | exact Or.inl rfl) ?_
      refine x_ifnonnull C 47 D_X2_layOut_2.2.2.2.1 (by decide) (fun x9 e_42 => ?_) (fun e_42 => ?_)
      · skip
        obtain rfl : md = x9 := Option.some.inj e_42
        refine x_aload C D_X2_layOut_2.2.2.2.2.2.2.1 rfl (by first | exact Or.inr ⟨_, rfl⟩ | exact va_rf_or _ | exact Or.inl rfl) ?_
        refine x_aload_n C D_X2_layOut_2.2.2.2.2.2.2.2.1 rfl rfl (by first | exact Or.inr ⟨_, rfl⟩ | exact va_rf_or _ | exact Or.inl rfl) ?_
        refine x_iload_n C D_X2_layOut_2.2.2.2.2.2.2.2.2.1 rfl rfl ?_
        refine x_iload C D_X2_layOut_2.2.2.2.2.2.2.2.2.2.1 rfl ?_
        refine x_iload_n C D_X2_layOut_2.2.2.2.2.2.2.2.2.2.2.1 rfl rfl ?_
        refine x_iconst C (v := nI 1) D_X2_layOut_2.2.2.2.2.2.2.2.2.2.2.2 (by decide +kernel) ?_
        refine x_iadd C D_X2_layOut_3.1 ?_
        refine x_eqi _ (nI_add _ _) ?_
        refine x_callSq C (y := yX2_layOut) (ih b0 (by omega) (sl.take hh) (d + 1) a (a + hh) I Qs hzs hn (by rw [hLl]) (by omega) (by omega) (by rw [hLl, ehh]; exact half_lt hf) (hnds.sublist (List.take_sublist _ _)) (fun q hq => hN q (hsub q (Or.inl hq))) (fun u hu v hv => hinj u (hsub u (Or.inl hu)) v (hsub v (Or.inl hv))) hsgL) k_261 k_262 k_61 k_263 hd_X2_layOut ⟨show b0 + 3 + 1 ≤ b0 + 1 + 3 by omega, show 8 + (6 + 11) + (25 * b0 + 100) ≤ 25 * (b0 + 1) + 100 by omega⟩ rfl (by first | exact Nat.le_of_ble_eq_true rfl | simp [x_crf, Value.category]) rfl rfl D_X2_layOut_3.2.1 ⟨(Nat.le_of_ble_eq_true rfl), (Nat.le_of_ble_eq_true rfl)⟩ (fun r_56 S_56 h_56 => ?_)
        obtain ⟨I1, Q1, rfl, hl1⟩ := h_56
        refine x_putQ C (ci := 2) (k0 := 3) hmk.1 (by decide) rfl (by decide) in_X3 k_622 rfl tyX3 tyX3_ok nmX3 rfl (by first | exact rfl | exact (rfl : _ = va_rf (some _)) | exact (rfl : _ = va_rf none)) (by rfl) (by first | rfl | exact x_narq _ _) (by first | rfl | exact x_fitq _ _) rfl D_X2_layOut_3.2.2.1 (fun Q2 eQ2 => ?_)
        have hzr : LZ K N Q2 t 2 pq pn rw rn cap := by
          refine hzs.congr (fun q h3 h23 => ?_)
          have hqm : q ≠ md := fun e => h3 (e ▸ hmk.1)
          have hqr : q ≠ rn := fun e => h23 (e ▸ hkn)
          rw [eQ2, x_u2_a _ _ hqm]
          exact ⟨hl1.2.2.2.1 q 0 hqr (by omega) (by omega), hl1.2.2.2.1 q 1 hqr (by omega) (by omega)⟩
        have hsgR : SEG (Q2 rn) (a + hh + 1) (sl.drop (hh + 1)) := by
          rw [eQ2, x_u2_a _ _ (fun e => hmr e.symm)]
          have h7 : SEG (Qs rn) (a + hh + 1) (sl.drop (hh + 1)) := by
            rw [eQs, x_up_s]
            rw [hsp] at hsg2
            have h6 := SEG_right (l1 := [md]) (SEG_right hsg2)
            rwa [hLl] at h6
          refine SEG_congr h7 (fun i h1 h2 => hl1.2.2.2.2.2.2 i (Or.inr (by rw [hLl]; omega)))
        have hRl : (sl.drop (hh + 1)).length = lst.length - (hh + 1) := by rw [List.length_drop, hsl]
        refine x_aload C D_X2_layOut_3.2.2.2.1 rfl (by first | exact Or.inr ⟨_, rfl⟩ | exact va_rf_or _ | exact Or.inl rfl) ?_
        refine x_aload_n C D_X2_layOut_3.2.2.2.2.1 rfl rfl (by first | exact Or.inr ⟨_, rfl⟩ | exact va_rf_or _ | exact Or.inl rfl) ?_
        refine x_iload C D_X2_layOut_3.2.2.2.2.2.1 rfl ?_
        refine x_iconst C (v := nI 1) D_X2_layOut_3.2.2.2.2.2.2.1 (by decide +kernel) ?_
        refine x_iadd C D_X2_layOut_3.2.2.2.2.2.2.2.1 ?_
        refine x_eqi _ (nI_add _ _) ?_
        refine x_iload_n C D_X2_layOut_3.2.2.2.2.2.2.2.2.1 rfl rfl ?_
        refine x_iload_n C D_X2_layOut_3.2.2.2.2.2.2.2.2.2.1 rfl rfl ?_
        refine x_iconst C (v := nI 1) D_X2_layOut_3.2.2.2.2.2.2.2.2.2.2.1 (by decide +kernel) ?_
        refine x_iadd C D_X2_layOut_3.2.2.2.2.2.2.2.2.2.2.2 ?_
        refine x_eqi _ (nI_add _ _) ?_
        refine x_callSq C (y := yX2_layOut) (ih b0 (by omega) (sl.drop (hh + 1)) (d + 1) (a + hh + 1) (a + lst.length) I1 Q2 hzr (by rw [hl1.2.2.2.2.2.1 rw 1 (by omega)]; exact hn) (by rw [hRl]; omega) (by omega) (by omega) (by rw [hRl, ehh]; exact half_lt2 hf hl0) (hnds.sublist (List.drop_sublist _ _)) (fun q hq => by have h9 := hN q (hsub q (Or.inr hq)); exact ⟨h9.1, by rw [hl1.2.2.2.2.2.1 q 0 (by omega)]; exact h9.2.1, h9.2.2⟩) (fun u hu v hv => hinj u (hsub u (Or.inr hu)) v (hsub v (Or.inr hv))) hsgR) k_261 k_262 k_61 k_263 hd_X2_layOut ⟨show b0 + 3 + 1 ≤ b0 + 1 + 3 by omega, show 8 + (6 + 11) + (25 * b0 + 100) ≤ 25 * (b0 + 1) + 100 by omega⟩ rfl (by first | exact Nat.le_of_ble_eq_true rfl | simp [x_crf, Value.category]) rfl rfl D_X2_layOut_4.1 ⟨(Nat.le_of_ble_eq_true rfl), (Nat.le_of_ble_eq_true rfl)⟩ (fun r_73 S_73 h_73 => ?_)
        obtain ⟨I2, Q3, rfl, hl2⟩ := h_73
        refine x_putQ C (ci := 2) (k0 := 4) hmk.1 (by decide) rfl (by decide) in_X3 k_625 rfl tyX3 tyX3_ok nmX3 rfl (by first | exact rfl | exact (rfl : _ = va_rf (some _)) | exact (rfl : _ = va_rf none)) (by rfl) (by first | rfl | exact x_narq _ _) (by first | rfl | exact x_fitq _ _) rfl D_X2_layOut_4.2.1 (fun Q4 eQ4 => ?_)
        refine x_aload C D_X2_layOut_4.2.2.1 rfl (by first | exact Or.inr ⟨_, rfl⟩ | exact va_rf_or _ | exact Or.inl rfl) ?_
        refine x_iload_n C D_X2_layOut_4.2.2.2.1 rfl rfl ?_
        refine x_iload_n C D_X2_layOut_4.2.2.2.2.1 rfl rfl ?_
        refine x_isub C D_X2_layOut_4.2.2.2.2.2.1 ?_
        refine x_eqi _ (show nI (a + lst.length) - nI a = nI lst.length by rw [pk_sub (by omega)]; congr 1; omega) ?_
        refine x_putI C (ci := 2) (k0 := 2) hmk.1 (by decide) rfl (by decide) in_X3 k_619 rfl tyX3 tyX3_ok nmX3 rfl (by rfl) rfl rfl rfl D_X2_layOut_4.2.2.2.2.2.2.1 (fun I3 eI3 => ?_)
        refine x_aload C D_X2_layOut_4.2.2.2.2.2.2.2.1 rfl (by first | exact Or.inr ⟨_, rfl⟩ | exact va_rf_or _ | exact Or.inl rfl) ?_
        refine ret _ _ _ _ _ _ _ ⟨_, rfl⟩ D_X2_layOut_4.2.2.2.2.2.2.2.2 (Nat.le_of_ble_eq_true rfl) (Nat.le_of_ble_eq_true rfl) (by first | exact rfl | exact (rfl : _ = va_rf (some _)) | exact (rfl : _ = va_rf none)) ?_
        refine ⟨I3, Q4, rfl, ?_⟩
        simp only [kdl]
        rw [if_neg (fun h => by rw [h] at hl0; simp at hl0), ← esl, ← ehh, ← emd, eI3, eQ4]
        rw [eQ2] at hl2
        have hLf : (sl.take hh).length < 2 ^ b0 := by rw [hLl, ehh]; exact half_lt hf
        have hRf : (sl.drop (hh + 1)).length < 2 ^ b0 := by rw [hRl, ehh]; exact half_lt2 hf hl0
        refine LAYP.node eQs ho (by rw [← hsp]; exact hpm) hnd (fun q hq => (hN q hq).1) hkn hl1 (by rw [hLl]; exact hl2) (kdl_mem _ _ _ hLf) (kdl_mem _ _ _ hRf) (kdl_sz _ _ _ hLf) (kdl_sz _ _ _ hRf)
      · skip
        exact absurd e_42 (by simp)
        --end
    · skip
      exact absurd ((nI_leI (by omega) (by omega)).mp (fa_of_nlt c_8)) (by omega)
      --end
abbrev rm_X2_gather_5 : Room := { frames := 43, cells := 0, slots := 0, locals := 1006 }
set_option maxHeartbeats 4000000 in
set_option maxRecDepth 100000 in
theorem c_X2_gather_5 (l : Launch) (G : xG) {K N : Nat → Nat} {I : Nat → Nat → Int32} {Q : Nat → Nat → Option Nat} {J : Nat → Nat → Int64} (t pq pn rw rn cap : Nat) (A : Tr) (dd : Bool) (o : Option Nat) (hz : LZ K N Q t 5 pq pn rw rn cap) (hT : TP K Q A o) (hA : ht A ≤ 40) (hcap : (apd dd I A).length ≤ cap) : XM l yX2_gather cX2_gather 3 none rm_X2_gather_5 G Rv [.ref t, va_rf o, .int (xb dd)] (K, N, I, Q, J) (fun _ S1 => ∃ g, S1 = (K, N, x_u2 I rw 1 (nI (apd dd I A).length), x_up Q rn g, J) ∧ SEG g 0 (apd dd I A)) := by
  refine x_metv (lv := [_, _, _]) (by decide +kernel) (x_cc (by first | rfl | exact x_crf _) (x_cc (by first | rfl | exact x_crf _) (x_cc (by first | rfl | exact x_crf _) x_cn))) (Nat.le_of_ble_eq_true rfl) rfl ?_
  intro pP eE sS mM aA bB hH cC Z C hini ret
  obtain ⟨hk, hkd, h0, h1, hp, hrw, hpr, hpn⟩ := hz
  have hap : apd dd (x_u2 I rw 1 (nI 0)) A = apd dd I A := apd_congr (fun a ha => by rw [x_u2_a _ _ (nodes_ne (hT.kind a ha) hrw.1 (by omega))])
  refine x_aload_n C D_X2_gather_0.1 rfl rfl (by first | exact Or.inr ⟨_, rfl⟩ | exact va_rf_or _ | exact Or.inl rfl) ?_
  refine x_getQ C (ci := 4) (k0 := 1) (by assumption) (by decide) rfl (by decide) in_X5 k_111 rfl rfl D_X2_gather_0.2.1 ?_
  refine x_eqr h1 ?_
  refine x_callVv C (y := yX4_empty) (c_X4_empty l G rw hrw.1) (ci := 3) hrw.1 (by decide) rfl rfl k_216 k_217 k_218 k_63 k_219 hd_X4_empty ⟨(Nat.le_of_ble_eq_true rfl), (Nat.le_of_ble_eq_true rfl)⟩ rfl (by first | exact Nat.le_of_ble_eq_true rfl | simp [x_crf, Value.category]) rfl rfl D_X2_gather_0.2.2.1 ⟨(Nat.le_of_ble_eq_true rfl), (Nat.le_of_ble_eq_true rfl)⟩ (fun _ S_4 h_4 => ?_)
  obtain rfl := h_4
  refine x_aload_n C D_X2_gather_0.2.2.2.1 rfl rfl (by first | exact Or.inr ⟨_, rfl⟩ | exact va_rf_or _ | exact Or.inl rfl) ?_
  refine x_iload_n C D_X2_gather_0.2.2.2.2.1 rfl rfl ?_
  refine x_aload_n C D_X2_gather_0.2.2.2.2.2.1 rfl rfl (by first | exact Or.inr ⟨_, rfl⟩ | exact va_rf_or _ | exact Or.inl rfl) ?_
  refine x_getQ C (ci := 4) (k0 := 1) (by assumption) (by decide) rfl (by decide) in_X5 k_111 rfl rfl D_X2_gather_0.2.2.2.2.2.2.1 ?_
  refine x_eqr h1 ?_
  refine x_iconst C (v := nI 0) D_X2_gather_0.2.2.2.2.2.2.2.1 (by decide +kernel) ?_
  refine x_callSv C (y := yX2_appendAll) (c_X2_appendAll l G rw rn cap dd 41 A 0 0 _ (x_u2 I rw 1 (nI 0)) Q hT (by omega) (by omega) hrw (x_u2_s _ _ _ _) (by rw [hap]; omega)) k_258 k_259 k_61 k_260 hd_X2_appendAll ⟨(Nat.le_of_ble_eq_true rfl), (Nat.le_of_ble_eq_true rfl)⟩ rfl (by first | exact Nat.le_of_ble_eq_true rfl | simp [x_crf, Value.category]) rfl rfl D_X2_gather_0.2.2.2.2.2.2.2.2.1 ⟨(Nat.le_of_ble_eq_true rfl), (Nat.le_of_ble_eq_true rfl)⟩ (fun _ S_14 h_14 => ?_)
  obtain ⟨g, rfl, hg, hs⟩ := h_14
  rw [hap] at hs
  refine ret _ _ _ _ _ rfl D_X2_gather_0.2.2.2.2.2.2.2.2.2 (Nat.le_of_ble_eq_true rfl) (Nat.le_of_ble_eq_true rfl) ?_
  exact ⟨g, by rw [hap, x_u2_u2, Nat.zero_add], hs⟩
abbrev rm_X2_livingNodes_5 : Room := { frames := 44, cells := 0, slots := 0, locals := 1028 }
set_option maxHeartbeats 4000000 in
set_option maxRecDepth 100000 in
theorem c_X2_livingNodes_5 (l : Launch) (G : xG) {K N : Nat → Nat} {I : Nat → Nat → Int32} {Q : Nat → Nat → Option Nat} {J : Nat → Nat → Int64} (t pq pn rw rn cap : Nat) (A : Tr) (hz : LZ K N Q t 5 pq pn rw rn cap) (hT : TP K Q A (Q t 2)) (hA : ht A ≤ 40) (hcap : (apd false I A).length ≤ cap) : XM l yX2_livingNodes cX2_livingNodes 1 (some (.object "ScapegoatSpur$NodeRow")) rm_X2_livingNodes_5 G Rq [.ref t] (K, N, I, Q, J) (fun r S1 => r = some rw ∧ ∃ g, S1 = (K, N, x_u2 I rw 1 (nI (apd false I A).length), x_up Q rn g, J) ∧ SEG g 0 (apd false I A)) := by
  refine x_metq (lv := [_]) (by decide +kernel) (x_cc (by first | rfl | exact x_crf _) x_cn) (Nat.le_of_ble_eq_true rfl) rfl ?_
  intro pP eE sS mM aA bB hH cC Z C hini ret
  refine x_aload_n C D_X2_livingNodes_0.1 rfl rfl (by first | exact Or.inr ⟨_, rfl⟩ | exact va_rf_or _ | exact Or.inl rfl) ?_
  refine x_aload_n C D_X2_livingNodes_0.2.1 rfl rfl (by first | exact Or.inr ⟨_, rfl⟩ | exact va_rf_or _ | exact Or.inl rfl) ?_
  refine x_getQ C (ci := 4) (k0 := 2) hz.1 (by decide) rfl (by decide) in_X5 k_112 rfl rfl D_X2_livingNodes_0.2.2.1 ?_
  refine x_eqq _ (rfl : Q t 2 = Q t 2) ?_
  refine x_iconst C (v := nI 0) D_X2_livingNodes_0.2.2.2.1 (by decide +kernel) ?_
  have h65 := (rfl : nI 0 = xb false)
  rw [h65]
  refine x_callUv C (x := ⟨"ScapegoatSpur$LazyTree", "gather", "(LScapegoatSpur$Node;Z)V"⟩) (y := yX2_gather) (owner := "ScapegoatSpur$LazyTree") (c_X2_gather_5 l G t pq pn rw rn cap A false _ hz hT hA hcap) (ci := 4) hz.1 (by decide) rfl k_254 k_12 k_14 k_256 k_61 k_257 rfl hu_X2_gather ⟨(Nat.le_of_ble_eq_true rfl), (Nat.le_of_ble_eq_true rfl)⟩ rfl (by first | exact Nat.le_of_ble_eq_true rfl | simp [x_crf, Value.category]) rfl rfl D_X2_livingNodes_0.2.2.2.2.1 ⟨(Nat.le_of_ble_eq_true rfl), (Nat.le_of_ble_eq_true rfl)⟩ (fun _ S_6 h_6 => ?_)
  obtain ⟨g, rfl, hs⟩ := h_6
  refine x_aload_n C D_X2_livingNodes_0.2.2.2.2.2.1 rfl rfl (by first | exact Or.inr ⟨_, rfl⟩ | exact va_rf_or _ | exact Or.inl rfl) ?_
  refine x_getQ C (ci := 4) (k0 := 1) hz.1 (by decide) rfl (by decide) in_X5 k_111 rfl rfl D_X2_livingNodes_0.2.2.2.2.2.2.1 ?_
  refine x_eqr (show x_up Q rn g t 1 = some rw by rw [x_up_n _ _ (fun e => by have h1 := hz.1; have h2 := hz.2.2.2.2.2.1.2.2.1; rw [e, h2] at h1; omega)]; exact hz.2.2.2.1) ?_
  refine ret _ _ _ _ _ _ _ ⟨_, rfl⟩ D_X2_livingNodes_0.2.2.2.2.2.2.2 (Nat.le_of_ble_eq_true rfl) (Nat.le_of_ble_eq_true rfl) (by first | exact rfl | exact (rfl : _ = va_rf (some _)) | exact (rfl : _ = va_rf none)) ?_
  exact ⟨rfl, g, rfl, hs⟩
abbrev rm_X2_greatestDepth_5 : Room := { frames := 43, cells := 0, slots := 0, locals := 922 }
set_option maxHeartbeats 4000000 in
set_option maxRecDepth 100000 in
theorem c_X2_greatestDepth_5 (l : Launch) (G : xG) {K N : Nat → Nat} {I : Nat → Nat → Int32} {Q : Nat → Nat → Option Nat} {J : Nat → Nat → Int64} (t : Nat) (A : Tr) (hk : K t = 5) (hT : TP K Q A (Q t 2)) (hA : ht A ≤ 40) : XM l yX2_greatestDepth cX2_greatestDepth 1 (some .int) rm_X2_greatestDepth_5 G Ri [.ref t] (K, N, I, Q, J) (fun r S1 => r = nI (ht A) - nI 1 ∧ S1 = (K, N, I, Q, J)) := by
  refine x_meti (lv := [_]) (by decide +kernel) (x_cc (by first | rfl | exact x_crf _) x_cn) (Nat.le_of_ble_eq_true rfl) rfl ?_
  intro pP eE sS mM aA bB hH cC Z C hini ret
  refine x_aload_n C D_X2_greatestDepth_0.1 rfl rfl (by first | exact Or.inr ⟨_, rfl⟩ | exact va_rf_or _ | exact Or.inl rfl) ?_
  refine x_getQ C (ci := 4) (k0 := 2) (by assumption) (by decide) rfl (by decide) in_X5 k_112 rfl rfl D_X2_greatestDepth_0.2.1 ?_
  refine x_eqq _ (rfl : Q t 2 = Q t 2) ?_
  refine x_iconst C (v := nI 0) D_X2_greatestDepth_0.2.2.1 (by decide +kernel) ?_
  refine x_callSi C (y := yX2_greatestDepthIn) (c_X2_greatestDepthIn l G 41 A 0 _ hT (by omega) (by omega)) k_385 k_386 k_61 k_387 hd_X2_greatestDepthIn ⟨(Nat.le_of_ble_eq_true rfl), (Nat.le_of_ble_eq_true rfl)⟩ rfl (by first | exact Nat.le_of_ble_eq_true rfl | simp [x_crf, Value.category]) rfl rfl D_X2_greatestDepth_0.2.2.2.1 ⟨(Nat.le_of_ble_eq_true rfl), (Nat.le_of_ble_eq_true rfl)⟩ (fun r_5 S_5 h_5 => ?_)
  obtain ⟨rfl, rfl⟩ := h_5
  refine ret _ _ _ _ _ _ rfl D_X2_greatestDepth_0.2.2.2.2 (Nat.le_of_ble_eq_true rfl) (Nat.le_of_ble_eq_true rfl) ?_
  exact ⟨by rw [Nat.zero_add], rfl⟩
abbrev rm_X2_sumOfDepths_5 : Room := { frames := 43, cells := 0, slots := 0, locals := 922 }
set_option maxHeartbeats 4000000 in
set_option maxRecDepth 100000 in
theorem c_X2_sumOfDepths_5 (l : Launch) (G : xG) {K N : Nat → Nat} {I : Nat → Nat → Int32} {Q : Nat → Nat → Option Nat} {J : Nat → Nat → Int64} (t : Nat) (A : Tr) (hk : K t = 5) (hT : TP K Q A (Q t 2)) (hA : ht A ≤ 40) : XM l yX2_sumOfDepths cX2_sumOfDepths 1 (some .int) rm_X2_sumOfDepths_5 G Ri [.ref t] (K, N, I, Q, J) (fun r S1 => r = nI (sumd A 0) ∧ S1 = (K, N, I, Q, J)) := by
  refine x_meti (lv := [_]) (by decide +kernel) (x_cc (by first | rfl | exact x_crf _) x_cn) (Nat.le_of_ble_eq_true rfl) rfl ?_
  intro pP eE sS mM aA bB hH cC Z C hini ret
  refine x_aload_n C D_X2_sumOfDepths_0.1 rfl rfl (by first | exact Or.inr ⟨_, rfl⟩ | exact va_rf_or _ | exact Or.inl rfl) ?_
  refine x_getQ C (ci := 4) (k0 := 2) (by assumption) (by decide) rfl (by decide) in_X5 k_112 rfl rfl D_X2_sumOfDepths_0.2.1 ?_
  refine x_eqq _ (rfl : Q t 2 = Q t 2) ?_
  refine x_iconst C (v := nI 0) D_X2_sumOfDepths_0.2.2.1 (by decide +kernel) ?_
  refine x_callSi C (y := yX2_sumOfDepthsIn) (c_X2_sumOfDepthsIn l G 41 A 0 _ hT (by omega) (by omega)) k_421 k_422 k_61 k_423 hd_X2_sumOfDepthsIn ⟨(Nat.le_of_ble_eq_true rfl), (Nat.le_of_ble_eq_true rfl)⟩ rfl (by first | exact Nat.le_of_ble_eq_true rfl | simp [x_crf, Value.category]) rfl rfl D_X2_sumOfDepths_0.2.2.2.1 ⟨(Nat.le_of_ble_eq_true rfl), (Nat.le_of_ble_eq_true rfl)⟩ (fun r_5 S_5 h_5 => ?_)
  obtain ⟨rfl, rfl⟩ := h_5
  refine ret _ _ _ _ _ _ rfl D_X2_sumOfDepths_0.2.2.2.2 (Nat.le_of_ble_eq_true rfl) (Nat.le_of_ble_eq_true rfl) ?_
  exact ⟨rfl, rfl⟩
abbrev rm_X2_sinkInRow_5 : Room := { frames := 1, cells := 0, slots := 0, locals := 22 }
set_option maxHeartbeats 4000000 in
set_option maxRecDepth 100000 in
theorem c_X2_sinkInRow_5 (l : Launch) (G : xG) {K N : Nat → Nat} {I : Nat → Nat → Int32} {Q : Nat → Nat → Option Nat} {J : Nat → Nat → Int64} (t pq pn rw rn cap : Nat) (a d n x0 : Nat) (seg : List Nat) (cd : Nat → Nat) (hz : LZ K N Q t 5 pq pn rw rn cap) (hn : I rw 1 = nI n) (hnc : n ≤ cap) (hlen : a + seg.length < n) (hd : d < 1000) (hsg : SEG (Q rn) a (seg ++ [x0])) (hnd : ND cv5 10000 K I cd (seg ++ [x0])) : XM l yX2_sinkInRow cX2_sinkInRow 8 none rm_X2_sinkInRow_5 G Rv [.ref t, .int (nI a), .int (nI (a + seg.length)), .int (nI d)] (K, N, I, Q, J) (fun _ S1 => ∃ g s1 s2, S1 = (K, N, I, x_up Q rn g, J) ∧ seg = s1 ++ s2 ∧ (∀ y ∈ s2, od5 d (cd x0) < od5 d (cd y)) ∧ (∀ y, s1.getLast? = some y → od5 d (cd y) ≤ od5 d (cd x0)) ∧ SEG g a (s1 ++ x0 :: s2) ∧ ∀ i, (i < a ∨ a + seg.length < i) → g i = Q rn i) := by
  refine x_metv (lv := [_, _, _, _, _, _, _, _]) (by decide +kernel) (x_cc (by first | rfl | exact x_crf _) (x_cc (by first | rfl | exact x_crf _) (x_cc (by first | rfl | exact x_crf _) (x_cc (by first | rfl | exact x_crf _) x_cn)))) (Nat.le_of_ble_eq_true rfl) rfl ?_
  intro pP eE sS mM aA bB hH cC Z C hini ret
  obtain ⟨hk, hkd, h0, h1, hp, hrw, hpr, hpn⟩ := hz
  have htn : t ≠ rn := fun e => by
    have h2 := hrw.2.2.1
    rw [← e, hk] at h2
    omega
  have hc1 := hrw.2.2.2.2
  obtain ⟨hx3, hx0, hxc⟩ := hnd x0 (by simp)
  refine x_aload_n C D_X2_sinkInRow_0.1 rfl rfl (by first | exact Or.inr ⟨_, rfl⟩ | exact va_rf_or _ | exact Or.inl rfl) ?_
  refine x_getQ C (ci := 4) (k0 := 1) (by assumption) (by decide) rfl (by decide) in_X5 k_111 rfl rfl D_X2_sinkInRow_0.2.1 ?_
  refine x_eqr h1 ?_
  refine x_iload_n C D_X2_sinkInRow_0.2.2.1 rfl rfl ?_
  refine x_callVq C (y := yX4_at) (c_X4_at l G rw rn cap n (nI (a + seg.length)) (hrw.ok hn hnc)) (ci := 3) hrw.1 (by decide) rfl rfl k_272 k_273 k_274 k_63 k_275 hd_X4_at ⟨(Nat.le_of_ble_eq_true rfl), (Nat.le_of_ble_eq_true rfl)⟩ rfl (by first | exact Nat.le_of_ble_eq_true rfl | simp [x_crf, Value.category]) rfl rfl D_X2_sinkInRow_0.2.2.2.1 ⟨(Nat.le_of_ble_eq_true rfl), (Nat.le_of_ble_eq_true rfl)⟩ (fun r_5 S_5 h_5 => ?_)
  obtain ⟨hr5, rfl⟩ := h_5
  rw [atv_in _ hlen (by omega), hsg seg.length (by simp)] at hr5
  rw [List.getElem?_append_right (Nat.le_refl _), Nat.sub_self] at hr5
  obtain rfl : r_5 = some x0 := by simpa using hr5
  refine x_astore C (lv' := [_, _, _, _, _, _, _, _]) D_X2_sinkInRow_0.2.2.2.2.1 (Nat.le_of_ble_eq_true rfl) rfl (by first | exact Or.inr ⟨_, rfl⟩ | exact va_rf_or _ | exact Or.inl rfl) rfl ?_
  refine x_aload C D_X2_sinkInRow_0.2.2.2.2.2.1 rfl (by first | exact Or.inr ⟨_, rfl⟩ | exact va_rf_or _ | exact Or.inl rfl) ?_
  refine x_ifnonnull C 16 D_X2_sinkInRow_0.2.2.2.2.2.2.1 (by decide) (fun x9 e_12 => ?_) (fun e_12 => ?_)
  · skip
    obtain rfl : x0 = x9 := Option.some.inj e_12
    refine x_aload_n C D_X2_sinkInRow_0.2.2.2.2.2.2.2.2.1 rfl rfl (by first | exact Or.inr ⟨_, rfl⟩ | exact va_rf_or _ | exact Or.inl rfl) ?_
    refine x_aload C D_X2_sinkInRow_0.2.2.2.2.2.2.2.2.2.1 rfl (by first | exact Or.inr ⟨_, rfl⟩ | exact va_rf_or _ | exact Or.inl rfl) ?_
    refine x_getI C (ci := 2) (k0 := 0) hx3 (by decide) rfl (by decide) in_X3 k_611 rfl rfl D_X2_sinkInRow_0.2.2.2.2.2.2.2.2.2.2.1 ?_
    refine x_eqi _ hx0 ?_
    refine x_iload_n C D_X2_sinkInRow_0.2.2.2.2.2.2.2.2.2.2.2 rfl rfl ?_
    refine x_callAi C (x := ⟨"ScapegoatSpur$LazyTree", "orderOf", "(II)I"⟩) (y := yX5_orderOf) (owner := "ScapegoatSpur$LazyTree") (c_X5_orderOf l G t (cd x0) d (by omega) (by omega)) (ci := 4) hk (by decide) rfl k_232 k_234 k_238 k_239 k_66 k_240 C.2.2.2.2.2.1.2.1 hu_X5_orderOf ⟨(Nat.le_of_ble_eq_true rfl), (Nat.le_of_ble_eq_true rfl)⟩ rfl (by first | exact Nat.le_of_ble_eq_true rfl | simp [x_crf, Value.category]) rfl rfl D_X2_sinkInRow_1.1 ⟨(Nat.le_of_ble_eq_true rfl), (Nat.le_of_ble_eq_true rfl)⟩ (fun r_23 S_23 h_23 => ?_)
    obtain ⟨rfl, rfl⟩ := h_23
    refine x_istore C (lv' := [_, _, _, _, _, _, _, _]) D_X2_sinkInRow_1.2.1 (Nat.le_of_ble_eq_true rfl) rfl rfl ?_
    refine x_iload_n C D_X2_sinkInRow_1.2.2.1 rfl rfl ?_
    refine x_istore C (lv' := [_, _, _, _, _, _, _, _]) D_X2_sinkInRow_1.2.2.2.1 (Nat.le_of_ble_eq_true rfl) rfl rfl ?_
    have L_31 : ∀ (w_31 : Nat) (s1 s2 : List Nat) (g : Nat → Option Nat) (Q1 : Nat → Nat → Option Nat) (v7 : Option Value), s1.length < w_31 → (Q1 = x_up Q rn g) → (seg = s1 ++ s2) → (∀ y ∈ s2, od5 d (cd x0) < od5 d (cd y)) → (SEG g a s1) → (SEG g (a + s1.length + 1) s2) → (∀ i, (i < a ∨ a + seg.length < i) → g i = Q rn i) → XW pP l eE rm_X2_sinkInRow_5 sS mM aA bB hH cC G Z 0 0 (K, N, I, Q1, J) 31 [some (.ref t), some (.int (nI a)), some (.int (nI (a + seg.length))), some (.int (nI d)), some (.ref x0), some (.int (cv5 (od5 d (cd x0)))), some (.int (nI (a + s1.length))), v7] [] := by
      intro w_31
      induction w_31 with
      | zero =>
        intro s1 s2 g Q1 v7 hw_31
        exact absurd hw_31 (Nat.not_lt_zero _)
      | succ w_31 ih_31 =>
        intro s1 s2 g Q1 v7 hw_31 eQ1 hseg hs2 hg1 hg2 ho
        have hsl2 : s1.length ≤ seg.length := by rw [hseg]; simp
        refine x_iload C D_X2_sinkInRow_1.2.2.2.2.1 rfl ?_
        have L_90 : ∀ (w7 : Option Value), (∀ y, s1.getLast? = some y → od5 d (cd y) ≤ od5 d (cd x0)) → XW pP l eE rm_X2_sinkInRow_5 sS mM aA bB hH cC G Z 0 0 (K, N, I, Q1, J) 90 [some (.ref t), some (.int (nI a)), some (.int (nI (a + seg.length))), some (.int (nI d)), some (.ref x0), some (.int (cv5 (od5 d (cd x0)))), some (.int (nI (a + s1.length))), w7] [] := by
          intro w7 hlast
          refine x_aload_n C D_X2_sinkInRow_3.2.2.2.2.2.2.2.1 rfl rfl (by first | exact Or.inr ⟨_, rfl⟩ | exact va_rf_or _ | exact Or.inl rfl) ?_
          refine x_getQ C (ci := 4) (k0 := 1) (by assumption) (by decide) rfl (by decide) in_X5 k_111 rfl rfl D_X2_sinkInRow_3.2.2.2.2.2.2.2.2.1 ?_
          refine x_eqr (show Q1 t 1 = some rw by rw [eQ1, x_up_n _ _ htn]; exact h1) ?_
          refine x_iload C D_X2_sinkInRow_3.2.2.2.2.2.2.2.2.2.1 rfl ?_
          refine x_aload C D_X2_sinkInRow_3.2.2.2.2.2.2.2.2.2.2.1 rfl (by first | exact Or.inr ⟨_, rfl⟩ | exact va_rf_or _ | exact Or.inl rfl) ?_
          refine x_callVv C (y := yX4_put) (c_X4_put l G rw rn cap n (a + s1.length) x0 _ (by rw [eQ1]; exact (hrw.row g).ok hn hnc) hx3 rfl (by omega)) (ci := 3) hrw.1 (by decide) rfl rfl k_276 k_277 k_278 k_63 k_279 hd_X4_put ⟨(Nat.le_of_ble_eq_true rfl), (Nat.le_of_ble_eq_true rfl)⟩ rfl (by first | exact Nat.le_of_ble_eq_true rfl | simp [x_crf, Value.category]) rfl rfl D_X2_sinkInRow_3.2.2.2.2.2.2.2.2.2.2.2 ⟨(Nat.le_of_ble_eq_true rfl), (Nat.le_of_ble_eq_true rfl)⟩ (fun _ S_98 h_98 => ?_)
          obtain rfl := h_98
          refine ret _ _ _ _ _ rfl D_X2_sinkInRow_4 (Nat.le_of_ble_eq_true rfl) (Nat.le_of_ble_eq_true rfl) ?_
          refine ⟨x_up g (a + s1.length) (some x0), s1, s2, ?_, hseg, hs2, hlast, ?_, ?_⟩
          · rw [eQ1, x_u2_up]
          · refine SEG_app (SEG_congr hg1 (fun i h1 h2 => x_up_n _ _ (by omega))) ?_
            refine SEG_app (l1 := [x0]) (SEG_one (x_up_s _ _ _)) ?_
            exact SEG_congr hg2 (fun i h1 h2 => x_up_n _ _ (by simp at h1; omega))
          · intro i hi
            rw [x_up_n _ _ (by omega)]; exact ho i hi
        refine x_iload_n C D_X2_sinkInRow_1.2.2.2.2.2.1 rfl rfl ?_
        refine x_icmp_le C 90 D_X2_sinkInRow_1.2.2.2.2.2.2.1 (by decide) (fun c_34 => ?_) (fun c_34 => ?_)
        · skip
          have hs1 : s1 = [] := by
            have h9 := (nI_leI (by omega) (by omega)).mp c_34
            have h8 : s1.length = 0 := by omega
            exact List.eq_nil_of_length_eq_zero h8
          exact L_90 _ (fun y hy => by rw [hs1] at hy; cases hy)
        · skip
          obtain ⟨s0, y0, rfl⟩ : ∃ s0 y0, s1 = s0 ++ [y0] := by
            rcases List.eq_nil_or_concat s1 with rfl | ⟨s0, y0, rfl⟩
            · exact absurd ((nI_leI (by omega) (by omega)).mpr (by simp)) c_34
            · exact ⟨s0, y0, by simp⟩
          have hsl : (s0 ++ [y0]).length = s0.length + 1 := by simp
          obtain ⟨hy3, hy0, hyc⟩ := hnd y0 (by rw [hseg]; simp)
          refine x_aload_n C D_X2_sinkInRow_1.2.2.2.2.2.2.2.1 rfl rfl (by first | exact Or.inr ⟨_, rfl⟩ | exact va_rf_or _ | exact Or.inl rfl) ?_
          refine x_getQ C (ci := 4) (k0 := 1) (by assumption) (by decide) rfl (by decide) in_X5 k_111 rfl rfl D_X2_sinkInRow_1.2.2.2.2.2.2.2.2.1 ?_
          refine x_eqr (show Q1 t 1 = some rw by rw [eQ1, x_up_n _ _ htn]; exact h1) ?_
          refine x_iload C D_X2_sinkInRow_1.2.2.2.2.2.2.2.2.2.1 rfl ?_
          refine x_iconst C (v := nI 1) D_X2_sinkInRow_1.2.2.2.2.2.2.2.2.2.2.1 (by decide +kernel) ?_
          refine x_isub C D_X2_sinkInRow_1.2.2.2.2.2.2.2.2.2.2.2 ?_
          refine x_eqi _ (show nI (a + (s0 ++ [y0]).length) - nI 1 = nI (a + s0.length) by rw [pk_sub (by rw [hsl]; omega)]; congr 1; omega) ?_
          refine x_callVq C (y := yX4_at) (c_X4_at l G rw rn cap n (nI (a + s0.length)) (by rw [eQ1]; exact (hrw.row g).ok hn hnc)) (ci := 3) hrw.1 (by decide) rfl rfl k_272 k_273 k_274 k_63 k_275 hd_X4_at ⟨(Nat.le_of_ble_eq_true rfl), (Nat.le_of_ble_eq_true rfl)⟩ rfl (by first | exact Nat.le_of_ble_eq_true rfl | simp [x_crf, Value.category]) rfl rfl D_X2_sinkInRow_2.1 ⟨(Nat.le_of_ble_eq_true rfl), (Nat.le_of_ble_eq_true rfl)⟩ (fun r_45 S_45 h_45 => ?_)
          obtain ⟨hr45, rfl⟩ := h_45
          rw [atv_in _ (by rw [hsl] at hsl2; omega) (by omega), eQ1, x_up_s, hg1 s0.length (by rw [hsl]; omega)] at hr45
          obtain rfl : r_45 = some y0 := by simpa using hr45
          refine x_astore C (lv' := [_, _, _, _, _, _, _, _]) D_X2_sinkInRow_2.2.1 (Nat.le_of_ble_eq_true rfl) rfl (by first | exact Or.inr ⟨_, rfl⟩ | exact va_rf_or _ | exact Or.inl rfl) rfl ?_
          refine x_aload C D_X2_sinkInRow_2.2.2.1 rfl (by first | exact Or.inr ⟨_, rfl⟩ | exact va_rf_or _ | exact Or.inl rfl) ?_
          refine x_ifnull C 90 D_X2_sinkInRow_2.2.2.2.1 (by decide) (fun e_52 => ?_) (fun y9 e_52 => ?_)
          · skip
            exact absurd e_52 (by simp)
            --end
          · skip
            obtain rfl : y0 = y9 := Option.some.inj e_52
            refine x_aload_n C D_X2_sinkInRow_2.2.2.2.2.1 rfl rfl (by first | exact Or.inr ⟨_, rfl⟩ | exact va_rf_or _ | exact Or.inl rfl) ?_
            refine x_aload C D_X2_sinkInRow_2.2.2.2.2.2.1 rfl (by first | exact Or.inr ⟨_, rfl⟩ | exact va_rf_or _ | exact Or.inl rfl) ?_
            refine x_getI C (ci := 2) (k0 := 0) hy3 (by decide) rfl (by decide) in_X3 k_611 rfl rfl D_X2_sinkInRow_2.2.2.2.2.2.2.1 ?_
            refine x_eqi _ hy0 ?_
            refine x_iload_n C D_X2_sinkInRow_2.2.2.2.2.2.2.2.1 rfl rfl ?_
            refine x_callAi C (x := ⟨"ScapegoatSpur$LazyTree", "orderOf", "(II)I"⟩) (y := yX5_orderOf) (owner := "ScapegoatSpur$LazyTree") (c_X5_orderOf l G t (cd y0) d (by omega) (by omega)) (ci := 4) hk (by decide) rfl k_232 k_234 k_238 k_239 k_66 k_240 C.2.2.2.2.2.1.2.1 hu_X5_orderOf ⟨(Nat.le_of_ble_eq_true rfl), (Nat.le_of_ble_eq_true rfl)⟩ rfl (by first | exact Nat.le_of_ble_eq_true rfl | simp [x_crf, Value.category]) rfl rfl D_X2_sinkInRow_2.2.2.2.2.2.2.2.2.1 ⟨(Nat.le_of_ble_eq_true rfl), (Nat.le_of_ble_eq_true rfl)⟩ (fun r_62 S_62 h_62 => ?_)
            obtain ⟨rfl, rfl⟩ := h_62
            refine x_iload C D_X2_sinkInRow_2.2.2.2.2.2.2.2.2.2.1 rfl ?_
            refine x_icmp_gt C 73 D_X2_sinkInRow_2.2.2.2.2.2.2.2.2.2.2.1 (by decide) (fun c_67 => ?_) (fun c_67 => ?_)
            · skip
              have hgt : od5 d (cd x0) < od5 d (cd y0) := by
                rw [i32_lt, cv5_toInt (od5_lt hxc), cv5_toInt (od5_lt hyc)] at c_67
                omega
              refine x_aload_n C D_X2_sinkInRow_3.1 rfl rfl (by first | exact Or.inr ⟨_, rfl⟩ | exact va_rf_or _ | exact Or.inl rfl) ?_
              refine x_getQ C (ci := 4) (k0 := 1) (by assumption) (by decide) rfl (by decide) in_X5 k_111 rfl rfl D_X2_sinkInRow_3.2.1 ?_
              refine x_eqr (show Q1 t 1 = some rw by rw [eQ1, x_up_n _ _ htn]; exact h1) ?_
              refine x_iload C D_X2_sinkInRow_3.2.2.1 rfl ?_
              refine x_aload C D_X2_sinkInRow_3.2.2.2.1 rfl (by first | exact Or.inr ⟨_, rfl⟩ | exact va_rf_or _ | exact Or.inl rfl) ?_
              refine x_callVv C (y := yX4_put) (c_X4_put l G rw rn cap n (a + (s0 ++ [y0]).length) y0 _ (by rw [eQ1]; exact (hrw.row g).ok hn hnc) hy3 rfl (by rw [hsl] at hsl2 ⊢; omega)) (ci := 3) hrw.1 (by decide) rfl rfl k_276 k_277 k_278 k_63 k_279 hd_X4_put ⟨(Nat.le_of_ble_eq_true rfl), (Nat.le_of_ble_eq_true rfl)⟩ rfl (by first | exact Nat.le_of_ble_eq_true rfl | simp [x_crf, Value.category]) rfl rfl D_X2_sinkInRow_3.2.2.2.2.1 ⟨(Nat.le_of_ble_eq_true rfl), (Nat.le_of_ble_eq_true rfl)⟩ (fun _ S_81 h_81 => ?_)
              obtain rfl := h_81
              refine x_iinc C (lv' := [_, _, _, _, _, _, _, _]) D_X2_sinkInRow_3.2.2.2.2.2.1 rfl (x_inc_m1 _) rfl rfl ?_
              refine x_lv (lv := [_, _, _, _, _, _, some (.int (nI (a + s0.length))), _]) (by rw [hsl, ← Nat.add_assoc, pk_m1]) ?_
              refine x_goto C 31 D_X2_sinkInRow_3.2.2.2.2.2.2.1 (by decide) ?_
              exact ih_31 s0 (y0 :: s2) (x_up g (a + (s0 ++ [y0]).length) (some y0)) _ _ (by rw [hsl] at hw_31; omega) (by rw [eQ1, x_u2_up]) (by rw [hseg]; simp) (fun y hy => by
                rcases List.mem_cons.mp hy with rfl | hy
                · exact hgt
                · exact hs2 y hy) (SEG_congr (SEG_left hg1) (fun i h1 h2 => x_up_n _ _ (by rw [hsl]; omega))) (SEG_app (l1 := [y0]) (SEG_one (by rw [hsl]; exact x_up_s _ _ _)) (SEG_congr (by rw [hsl] at hg2; exact hg2) (fun i h1 h2 => x_up_n _ _ (by rw [hsl]; simp at h1; omega)))) (fun i hi => by rw [x_up_n _ _ (by rw [hsl] at hsl2 ⊢; omega)]; exact ho i hi)
            · skip
              have hle : od5 d (cd y0) ≤ od5 d (cd x0) := by
                rw [i32_lt, cv5_toInt (od5_lt hxc), cv5_toInt (od5_lt hyc)] at c_67
                omega
              refine x_goto C 90 D_X2_sinkInRow_2.2.2.2.2.2.2.2.2.2.2.2 (by decide) ?_
              exact L_90 _ (fun y hy => by
                simp at hy
                subst hy
                exact hle)
    exact L_31 _ seg [] (Q rn) _ none (Nat.lt_succ_self _) (x_up_id Q rn).symm (by simp) (fun y hy => absurd hy List.not_mem_nil) (SEG_left hsg) SEG_nil (fun i _ => rfl)
  · skip
    exact absurd e_12 (by simp)
    --end
abbrev rm_X2_sortRow_5 : Room := { frames := 2, cells := 0, slots := 0, locals := 49 }
set_option maxHeartbeats 4000000 in
set_option maxRecDepth 100000 in
theorem c_X2_sortRow_5 (l : Launch) (G : xG) {K N : Nat → Nat} {I : Nat → Nat → Int32} {Q : Nat → Nat → Option Nat} {J : Nat → Nat → Int64} (t pq pn rw rn cap : Nat) (a d n : Nat) (lst : List Nat) (cd : Nat → Nat) (hz : LZ K N Q t 5 pq pn rw rn cap) (hn : I rw 1 = nI n) (hnc : n ≤ cap) (hlen : a + lst.length ≤ n) (hl0 : 0 < lst.length) (hd : d < 1000) (hsg : SEG (Q rn) a lst) (hnd : ND cv5 10000 K I cd lst) : XM l yX2_sortRow cX2_sortRow 5 none rm_X2_sortRow_5 G Rv [.ref t, .int (nI a), .int (nI (a + lst.length)), .int (nI d)] (K, N, I, Q, J) (fun _ S1 => ∃ g l2, S1 = (K, N, I, x_up Q rn g, J) ∧ l2.Perm lst ∧ l2.Pairwise (fun u v => od5 d (cd u) ≤ od5 d (cd v)) ∧ SEG g a l2 ∧ ∀ i, (i < a ∨ a + lst.length ≤ i) → g i = Q rn i) := by
  refine x_metv (lv := [_, _, _, _, _]) (by decide +kernel) (x_cc (by first | rfl | exact x_crf _) (x_cc (by first | rfl | exact x_crf _) (x_cc (by first | rfl | exact x_crf _) (x_cc (by first | rfl | exact x_crf _) x_cn)))) (Nat.le_of_ble_eq_true rfl) rfl ?_
  intro pP eE sS mM aA bB hH cC Z C hini ret
  have hcap := hz.2.2.2.2.2.1.2.2.2.2
  obtain ⟨x9, l9, rfl⟩ : ∃ x9 l9, lst = x9 :: l9 := by
    cases lst with
    | nil => simp at hl0
    | cons x l => exact ⟨x, l, rfl⟩
  refine x_iload_n C D_X2_sortRow_0.1 rfl rfl ?_
  refine x_iconst C (v := nI 1) D_X2_sortRow_0.2.1 (by decide +kernel) ?_
  refine x_iadd C D_X2_sortRow_0.2.2.1 ?_
  refine x_eqi _ (nI_add _ _) ?_
  refine x_istore C (lv' := [_, _, _, _, _]) D_X2_sortRow_0.2.2.2.1 (Nat.le_of_ble_eq_true rfl) rfl rfl ?_
  have L_5 : ∀ (w_5 : Nat) (dn rs : List Nat) (g : Nat → Option Nat) (Q1 : Nat → Nat → Option Nat), rs.length < w_5 → (Q1 = x_up Q rn g) → ((dn ++ rs).Perm (x9 :: l9)) → (dn.Pairwise (fun u v => od5 d (cd u) ≤ od5 d (cd v))) → (SEG g a (dn ++ rs)) → (∀ i, (i < a ∨ a + (x9 :: l9).length ≤ i) → g i = Q rn i) → XW pP l eE rm_X2_sortRow_5 sS mM aA bB hH cC G Z 0 0 (K, N, I, Q1, J) 5 [some (.ref t), some (.int (nI a)), some (.int (nI (a + (x9 :: l9).length))), some (.int (nI d)), some (.int (nI (a + dn.length)))] [] := by
    intro w_5
    induction w_5 with
    | zero =>
      intro dn rs g Q1 hw_5
      exact absurd hw_5 (Nat.not_lt_zero _)
    | succ w_5 ih_5 =>
      intro dn rs g Q1 hw_5 eQ1 hpm hsr hsg1 ho
      have h8 := hpm.length_eq
      rw [List.length_append] at h8
      refine x_iload C D_X2_sortRow_0.2.2.2.2.1 rfl ?_
      refine x_iload_n C D_X2_sortRow_0.2.2.2.2.2.1 rfl rfl ?_
      refine x_icmp_ge C 25 D_X2_sortRow_0.2.2.2.2.2.2.1 (by decide) (fun c_8 => ?_) (fun c_8 => ?_)
      · skip
        have hrs : rs = [] := by
          have h9 := (nI_leI (by omega) (by omega)).mp c_8
          exact List.eq_nil_of_length_eq_zero (by omega)
        refine ret _ _ _ _ _ rfl D_X2_sortRow_1.2.2 (Nat.le_of_ble_eq_true rfl) (Nat.le_of_ble_eq_true rfl) ?_
        subst hrs
        rw [List.append_nil] at hpm hsg1
        exact ⟨g, dn, by rw [eQ1], hpm, hsr, hsg1, ho⟩
      · skip
        obtain ⟨y9, r9, rfl⟩ : ∃ y9 r9, rs = y9 :: r9 := by
          cases rs with
          | nil => exact absurd ((nI_leI (by omega) (by omega)).mpr (by rw [List.length_nil] at h8; omega)) c_8
          | cons y r => exact ⟨y, r, rfl⟩
        rw [List.length_cons (as := r9)] at h8
        refine x_aload_n C D_X2_sortRow_0.2.2.2.2.2.2.2.1 rfl rfl (by first | exact Or.inr ⟨_, rfl⟩ | exact va_rf_or _ | exact Or.inl rfl) ?_
        refine x_iload_n C D_X2_sortRow_0.2.2.2.2.2.2.2.2.1 rfl rfl ?_
        refine x_iload C D_X2_sortRow_0.2.2.2.2.2.2.2.2.2.1 rfl ?_
        refine x_iload_n C D_X2_sortRow_0.2.2.2.2.2.2.2.2.2.2.1 rfl rfl ?_
        refine x_callUv C (x := ⟨"ScapegoatSpur$LazyTree", "sinkInRow", "(III)V"⟩) (y := yX2_sinkInRow) (owner := "ScapegoatSpur$LazyTree") (c_X2_sinkInRow_5 l G t pq pn rw rn cap a d n y9 dn cd (by rw [eQ1]; exact hz.row g) hn hnc (by omega) hd (by rw [eQ1, x_up_s]; exact SEG_left (l2 := r9) (by simpa using hsg1)) (fun q hq => hnd q (hpm.mem_iff.mp (by simp at hq ⊢; rcases hq with hq | hq <;> simp [hq])))) (ci := 4) hz.1 (by decide) rfl k_268 k_18 k_20 k_270 k_61 k_271 rfl hu_X2_sinkInRow ⟨(Nat.le_of_ble_eq_true rfl), (Nat.le_of_ble_eq_true rfl)⟩ rfl (by first | exact Nat.le_of_ble_eq_true rfl | simp [x_crf, Value.category]) rfl rfl D_X2_sortRow_0.2.2.2.2.2.2.2.2.2.2.2 ⟨(Nat.le_of_ble_eq_true rfl), (Nat.le_of_ble_eq_true rfl)⟩ (fun _ S_16 h_16 => ?_)
        obtain ⟨g2, s1, s2, rfl, rfl, hs2, hs1, hsg2, ho2⟩ := h_16
        refine x_iinc C (lv' := [_, _, _, _, _]) D_X2_sortRow_1.1 rfl (x_inc_1 _) rfl rfl ?_
        refine x_lv (lv := [_, _, _, _, some (.int (nI (a + (s1 ++ y9 :: s2).length)))]) (by rw [nI_add, show a + (s1 ++ s2).length + 1 = a + (s1 ++ y9 :: s2).length by simp only [List.length_append, List.length_cons]; omega]) ?_
        refine x_goto C 5 D_X2_sortRow_1.2.1 (by decide) ?_
        refine ih_5 (s1 ++ y9 :: s2) r9 g2 (x_up Q1 rn g2) (by simp only [List.length_cons] at hw_5; omega) (by rw [eQ1, x_up_up]) ?_ (sorted_ins hsr hs2 hs1) ?_ ?_
        · refine List.Perm.trans ?_ hpm
          simp only [List.append_assoc, List.cons_append]
          exact List.Perm.append_left _ (List.perm_middle.symm)
        · rw [List.append_assoc] at hsg1
          refine SEG_app hsg2 ?_
          have h7 := SEG_right (l1 := s1 ++ (s2 ++ [y9])) (l2 := r9) (f := g) (a := a) (by simpa using hsg1)
          have h6 : (s1 ++ y9 :: s2).length = (s1 ++ (s2 ++ [y9])).length := by simp
          rw [h6]
          refine SEG_congr h7 (fun i h1 h2 => ?_)
          rw [ho2 i (Or.inr (by simp at h1 ⊢; omega)), eQ1, x_up_s]
        · intro i hi
          rw [ho2 i (by simp only [List.length_append, List.length_cons] at hi h8 ⊢; omega), eQ1, x_up_s]
          exact ho i hi
  exact L_5 _ [x9] l9 (Q rn) _ (Nat.lt_succ_self _) (x_up_id Q rn).symm (List.Perm.refl _) (List.pairwise_singleton _ _) hsg (fun i _ => rfl)
abbrev rm_X2_layOut_5 (b : Nat) : Room := { frames := b + 3, cells := 0, slots := 0, locals := 25 * b + 100 }
set_option maxHeartbeats 4000000 in
set_option maxRecDepth 100000 in
theorem c_X2_layOut_5 (l : Launch) (G : xG) {K N : Nat → Nat} {J : Nat → Nat → Int64} (t pq pn rw rn cap : Nat) (n : Nat) (cd : Nat → Nat) (hnc : n ≤ cap) : ∀ (b : Nat) (lst : List Nat) (d a e0 : Nat) (I : Nat → Nat → Int32) (Q : Nat → Nat → Option Nat), (LZ K N Q t 5 pq pn rw rn cap) → (I rw 1 = nI n) → (e0 = a + lst.length) → (e0 ≤ n) → (d + b ≤ 40) → (lst.length < 2 ^ b) → (lst.Nodup) → (ND cv5 10000 K I cd lst) → (∀ u ∈ lst, ∀ v ∈ lst, cd u = cd v → u = v) → (SEG (Q rn) a lst) → XM l yX2_layOut cX2_layOut 6 (some (.object "ScapegoatSpur$Node")) (rm_X2_layOut_5 b) G Rq [.ref t, .int (nI a), .int (nI e0), .int (nI d)] (K, N, I, Q, J) (fun r S1 => ∃ I1 Q1, S1 = (K, N, I1, Q1, J) ∧ LAYP K I I1 Q Q1 rn a lst (kdl od5 cd b d lst) r) := by
  intro b
  induction b using Nat.strongRecOn with
  | _ b ih =>
  intro lst d a e0 I Q hz hn he hlen hdb hf hnd hN hinj hsg
  refine x_metq (lv := [_, _, _, _, _, _]) (by decide +kernel) (x_cc (by first | rfl | exact x_crf _) (x_cc (by first | rfl | exact x_crf _) (x_cc (by first | rfl | exact x_crf _) (x_cc (by first | rfl | exact x_crf _) x_cn)))) (Nat.le_of_ble_eq_true rfl) rfl ?_
  intro pP eE sS mM aA bB hH cC Z C hini ret
  have hcap := hz.2.2.2.2.2.1.2.2.2.2
  have hkr := hz.2.2.2.2.2.1.1
  have hkn := hz.2.2.2.2.2.1.2.2.1
  subst he
  refine x_iload_n C D_X2_layOut_0.1 rfl rfl ?_
  refine x_iload_n C D_X2_layOut_0.2.1 rfl rfl ?_
  refine x_icmp_ge C 11 D_X2_layOut_0.2.2.1 (by decide) (fun c_2 => ?_) (fun c_2 => ?_)
  · skip
    have hl : lst = [] := by
      have h9 := (nI_leI (by omega) (by omega)).mp c_2
      exact List.eq_nil_of_length_eq_zero (by omega)
    subst hl
    refine x_null C D_X2_layOut_0.2.2.2.2.2.2.1 ?_
    refine ret _ _ _ _ _ _ _ ⟨_, rfl⟩ D_X2_layOut_0.2.2.2.2.2.2.2.1 (Nat.le_of_ble_eq_true rfl) (Nat.le_of_ble_eq_true rfl) (by first | exact rfl | exact (rfl : _ = va_rf (some _)) | exact (rfl : _ = va_rf none)) ?_
    exact ⟨I, Q, rfl, by cases b with | zero => exact LAYP.nil | succ b => (simp only [kdl, if_true]; exact LAYP.nil)⟩
  · skip
    have hl0 : 0 < lst.length := by
      rcases Nat.eq_zero_or_pos lst.length with h | h
      · exact absurd ((nI_leI (by omega) (by omega)).mpr (by omega)) c_2
      · exact h
    obtain ⟨b0, rfl⟩ : ∃ b0, b = b0 + 1 := by
      cases b with
      | zero => simp at hf; simp [hf] at hl0
      | succ b => exact ⟨b, rfl⟩
    refine x_iload_n C D_X2_layOut_0.2.2.2.1 rfl rfl ?_
    refine x_bipush C (v := nI 40) D_X2_layOut_0.2.2.2.2.1 (by decide +kernel) ?_
    refine x_icmp_lt C 13 D_X2_layOut_0.2.2.2.2.2.1 (by decide) (fun c_8 => ?_) (fun c_8 => ?_)
    · skip
      refine x_aload_n C D_X2_layOut_0.2.2.2.2.2.2.2.2.1 rfl rfl (by first | exact Or.inr ⟨_, rfl⟩ | exact va_rf_or _ | exact Or.inl rfl) ?_
      refine x_iload_n C D_X2_layOut_0.2.2.2.2.2.2.2.2.2.1 rfl rfl ?_
      refine x_iload_n C D_X2_layOut_0.2.2.2.2.2.2.2.2.2.2.1 rfl rfl ?_
      refine x_iload_n C D_X2_layOut_0.2.2.2.2.2.2.2.2.2.2.2 rfl rfl ?_
      refine x_callUv C (x := ⟨"ScapegoatSpur$LazyTree", "sortRow", "(III)V"⟩) (y := yX2_sortRow) (owner := "ScapegoatSpur$LazyTree") (c_X2_sortRow_5 l G t pq pn rw rn cap a d n lst cd hz hn hnc hlen hl0 (by omega) hsg hN) (ci := 4) hz.1 (by decide) rfl k_264 k_15 k_17 k_266 k_61 k_267 rfl hu_X2_sortRow ⟨show _ ≤ b0 + 1 + 3 by simp, show 8 + (5 + 11) + _ ≤ 25 * (b0 + 1) + 100 by simp⟩ rfl (by first | exact Nat.le_of_ble_eq_true rfl | simp [x_crf, Value.category]) rfl rfl D_X2_layOut_1.1 ⟨(Nat.le_of_ble_eq_true rfl), (Nat.le_of_ble_eq_true rfl)⟩ (fun _ S_17 h_17 => ?_)
      obtain ⟨g, l2, rfl, hpm, hsr, hsg2, ho⟩ := h_17
      obtain rfl : l2 = msr od5 cd d lst := msr_eq hpm hsr (fun u hu v hv h => hinj u hu v hv (od5_inj h (hN u hu).2.2 (hN v hv).2.2))
      obtain ⟨Qs, eQs⟩ : ∃ Qs, Qs = x_up Q rn g := ⟨_, rfl⟩
      rw [← eQs]
      obtain ⟨sl, esl⟩ : ∃ sl, sl = msr od5 cd d lst := ⟨_, rfl⟩
      rw [← esl] at hpm hsr hsg2
      have hsl := hpm.length_eq
      have hzs : LZ K N Qs t 5 pq pn rw rn cap := by rw [eQs]; exact hz.row g
      obtain ⟨hh, ehh⟩ : ∃ hh, hh = lst.length / 2 := ⟨_, rfl⟩
      have hhl : hh < lst.length := by omega
      have hsp := split_mid sl hh (by omega)
      obtain ⟨md, emd⟩ : ∃ md, md = sl.getD hh 0 := ⟨_, rfl⟩
      rw [← emd] at hsp
      have hmd : sl[hh]? = some md := by rw [emd, List.getD_eq_getElem?_getD, List.getElem?_eq_getElem (by omega)]; rfl
      have hml : md ∈ lst := hpm.mem_iff.mp (List.mem_of_getElem? hmd)
      have hmk := hN md hml
      have hmr : md ≠ rn := nodes_ne hmk.1 hkn (by omega)
      have hLl : (sl.take hh).length = hh := by rw [List.length_take]; omega
      have hsgL : SEG (Qs rn) a (sl.take hh) := by rw [eQs, x_up_s]; rw [hsp] at hsg2; exact SEG_left hsg2
      have hsub : ∀ q, q ∈ sl.take hh ∨ q ∈ sl.drop (hh + 1) → q ∈ lst := fun q hq => hpm.mem_iff.mp (hq.elim List.mem_of_mem_take List.mem_of_mem_drop)
      have hnds : sl.Nodup := hpm.nodup_iff.mpr hnd
      refine x_iload_n C D_X2_layOut_1.2.1 rfl rfl ?_
      refine x_iload_n C D_X2_layOut_1.2.2.1 rfl rfl ?_
      refine x_iload_n C D_X2_layOut_1.2.2.2.1 rfl rfl ?_
      refine x_isub C D_X2_layOut_1.2.2.2.2.1 ?_
      refine x_eqi _ (show nI (a + lst.length) - nI a = nI lst.length by rw [pk_sub (by omega)]; congr 1; omega) ?_
      refine x_iconst C (v := nI 2) D_X2_layOut_1.2.2.2.2.2.1 (by decide +kernel) ?_
      refine x_idiv C D_X2_layOut_1.2.2.2.2.2.2.1 (by decide) ?_
      refine x_eqi _ (pk_div (a := lst.length) (d := 2) (by omega) (by omega) (by omega)) ?_
      refine x_iadd C D_X2_layOut_1.2.2.2.2.2.2.2.1 ?_
      refine x_eqi _ (show nI a + nI (lst.length / 2) = nI (a + hh) by rw [nI_add, ehh]) ?_
      refine x_istore C (lv' := [_, _, _, _, _, _]) D_X2_layOut_1.2.2.2.2.2.2.2.2.1 (Nat.le_of_ble_eq_true rfl) rfl rfl ?_
      refine x_aload_n C D_X2_layOut_1.2.2.2.2.2.2.2.2.2.1 rfl rfl (by first | exact Or.inr ⟨_, rfl⟩ | exact va_rf_or _ | exact Or.inl rfl) ?_
      refine x_getQ C (ci := 4) (k0 := 1) hz.1 (by decide) rfl (by decide) in_X5 k_111 rfl rfl D_X2_layOut_1.2.2.2.2.2.2.2.2.2.2.1 ?_
      refine x_eqr hzs.2.2.2.1 ?_
      refine x_iload C D_X2_layOut_1.2.2.2.2.2.2.2.2.2.2.2 rfl ?_
      refine x_callVq C (y := yX4_at) (c_X4_at l G rw rn cap n (nI (a + hh)) (hzs.2.2.2.2.2.1.ok hn hnc)) (ci := 3) hkr (by decide) rfl rfl k_272 k_273 k_274 k_63 k_275 hd_X4_at ⟨(Nat.le_of_ble_eq_true rfl), (Nat.le_of_ble_eq_true rfl)⟩ rfl (by first | exact Nat.le_of_ble_eq_true rfl | simp [x_crf, Value.category]) rfl rfl D_X2_layOut_2.1 ⟨(Nat.le_of_ble_eq_true rfl), (Nat.le_of_ble_eq_true rfl)⟩ (fun r_35 S_35 h_35 => ?_)
      obtain ⟨hr35, rfl⟩ := h_35
      rw [atv_in _ (by omega) (by omega), eQs, x_up_s, hsg2 hh (by omega), hmd] at hr35
      subst hr35
      refine x_astore C (lv' := [_, _, _, _, _, _]) D_X2_layOut_2.2.1 (Nat.le_of_ble_eq_true rfl) rfl (by first | exact Or.inr ⟨_, rfl⟩ | exact va_rf_or _ | exact Or.inl rfl) rfl ?_
      refine x_aload C D_X2_layOut_2.2.2.1 rfl (by first | exact Or.inr ⟨_, rfl⟩ | exact va_rf_or _ | exact Or.inl rfl) ?_
      refine x_ifnonnull C 47 D_X2_layOut_2.2.2.2.1 (by decide) (fun x9 e_42 => ?_) (fun e_42 => ?_)
      · skip
        obtain rfl : md = x9 := Option.some.inj e_42
        refine x_aload C D_X2_layOut_2.2.2.2.2.2.2.1 rfl (by first | exact Or.inr ⟨_, rfl⟩ | exact va_rf_or _ | exact Or.inl rfl) ?_
        refine x_aload_n C D_X2_layOut_2.2.2.2.2.2.2.2.1 rfl rfl (by first | exact Or.inr ⟨_, rfl⟩ | exact va_rf_or _ | exact Or.inl rfl) ?_
        refine x_iload_n C D_X2_layOut_2.2.2.2.2.2.2.2.2.1 rfl rfl ?_
        refine x_iload C D_X2_layOut_2.2.2.2.2.2.2.2.2.2.1 rfl ?_
        refine x_iload_n C D_X2_layOut_2.2.2.2.2.2.2.2.2.2.2.1 rfl rfl ?_
        refine x_iconst C (v := nI 1) D_X2_layOut_2.2.2.2.2.2.2.2.2.2.2.2 (by decide +kernel) ?_
        refine x_iadd C D_X2_layOut_3.1 ?_
        refine x_eqi _ (nI_add _ _) ?_
        refine x_callSq C (y := yX2_layOut) (ih b0 (by omega) (sl.take hh) (d + 1) a (a + hh) I Qs hzs hn (by rw [hLl]) (by omega) (by omega) (by rw [hLl, ehh]; exact half_lt hf) (hnds.sublist (List.take_sublist _ _)) (fun q hq => hN q (hsub q (Or.inl hq))) (fun u hu v hv => hinj u (hsub u (Or.inl hu)) v (hsub v (Or.inl hv))) hsgL) k_261 k_262 k_61 k_263 hd_X2_layOut ⟨show b0 + 3 + 1 ≤ b0 + 1 + 3 by omega, show 8 + (6 + 11) + (25 * b0 + 100) ≤ 25 * (b0 + 1) + 100 by omega⟩ rfl (by first | exact Nat.le_of_ble_eq_true rfl | simp [x_crf, Value.category]) rfl rfl D_X2_layOut_3.2.1 ⟨(Nat.le_of_ble_eq_true rfl), (Nat.le_of_ble_eq_true rfl)⟩ (fun r_56 S_56 h_56 => ?_)
        obtain ⟨I1, Q1, rfl, hl1⟩ := h_56
        refine x_putQ C (ci := 2) (k0 := 3) hmk.1 (by decide) rfl (by decide) in_X3 k_622 rfl tyX3 tyX3_ok nmX3 rfl (by first | exact rfl | exact (rfl : _ = va_rf (some _)) | exact (rfl : _ = va_rf none)) (by rfl) (by first | rfl | exact x_narq _ _) (by first | rfl | exact x_fitq _ _) rfl D_X2_layOut_3.2.2.1 (fun Q2 eQ2 => ?_)
        have hzr : LZ K N Q2 t 5 pq pn rw rn cap := by
          refine hzs.congr (fun q h3 h23 => ?_)
          have hqm : q ≠ md := fun e => h3 (e ▸ hmk.1)
          have hqr : q ≠ rn := fun e => h23 (e ▸ hkn)
          rw [eQ2, x_u2_a _ _ hqm]
          exact ⟨hl1.2.2.2.1 q 0 hqr (by omega) (by omega), hl1.2.2.2.1 q 1 hqr (by omega) (by omega)⟩
        have hsgR : SEG (Q2 rn) (a + hh + 1) (sl.drop (hh + 1)) := by
          rw [eQ2, x_u2_a _ _ (fun e => hmr e.symm)]
          have h7 : SEG (Qs rn) (a + hh + 1) (sl.drop (hh + 1)) := by
            rw [eQs, x_up_s]
            rw [hsp] at hsg2
            have h6 := SEG_right (l1 := [md]) (SEG_right hsg2)
            rwa [hLl] at h6
          refine SEG_congr h7 (fun i h1 h2 => hl1.2.2.2.2.2.2 i (Or.inr (by rw [hLl]; omega)))
        have hRl : (sl.drop (hh + 1)).length = lst.length - (hh + 1) := by rw [List.length_drop, hsl]
        refine x_aload C D_X2_layOut_3.2.2.2.1 rfl (by first | exact Or.inr ⟨_, rfl⟩ | exact va_rf_or _ | exact Or.inl rfl) ?_
        refine x_aload_n C D_X2_layOut_3.2.2.2.2.1 rfl rfl (by first | exact Or.inr ⟨_, rfl⟩ | exact va_rf_or _ | exact Or.inl rfl) ?_
        refine x_iload C D_X2_layOut_3.2.2.2.2.2.1 rfl ?_
        refine x_iconst C (v := nI 1) D_X2_layOut_3.2.2.2.2.2.2.1 (by decide +kernel) ?_
        refine x_iadd C D_X2_layOut_3.2.2.2.2.2.2.2.1 ?_
        refine x_eqi _ (nI_add _ _) ?_
        refine x_iload_n C D_X2_layOut_3.2.2.2.2.2.2.2.2.1 rfl rfl ?_
        refine x_iload_n C D_X2_layOut_3.2.2.2.2.2.2.2.2.2.1 rfl rfl ?_
        refine x_iconst C (v := nI 1) D_X2_layOut_3.2.2.2.2.2.2.2.2.2.2.1 (by decide +kernel) ?_
        refine x_iadd C D_X2_layOut_3.2.2.2.2.2.2.2.2.2.2.2 ?_
        refine x_eqi _ (nI_add _ _) ?_
        refine x_callSq C (y := yX2_layOut) (ih b0 (by omega) (sl.drop (hh + 1)) (d + 1) (a + hh + 1) (a + lst.length) I1 Q2 hzr (by rw [hl1.2.2.2.2.2.1 rw 1 (by omega)]; exact hn) (by rw [hRl]; omega) (by omega) (by omega) (by rw [hRl, ehh]; exact half_lt2 hf hl0) (hnds.sublist (List.drop_sublist _ _)) (fun q hq => by have h9 := hN q (hsub q (Or.inr hq)); exact ⟨h9.1, by rw [hl1.2.2.2.2.2.1 q 0 (by omega)]; exact h9.2.1, h9.2.2⟩) (fun u hu v hv => hinj u (hsub u (Or.inr hu)) v (hsub v (Or.inr hv))) hsgR) k_261 k_262 k_61 k_263 hd_X2_layOut ⟨show b0 + 3 + 1 ≤ b0 + 1 + 3 by omega, show 8 + (6 + 11) + (25 * b0 + 100) ≤ 25 * (b0 + 1) + 100 by omega⟩ rfl (by first | exact Nat.le_of_ble_eq_true rfl | simp [x_crf, Value.category]) rfl rfl D_X2_layOut_4.1 ⟨(Nat.le_of_ble_eq_true rfl), (Nat.le_of_ble_eq_true rfl)⟩ (fun r_73 S_73 h_73 => ?_)
        obtain ⟨I2, Q3, rfl, hl2⟩ := h_73
        refine x_putQ C (ci := 2) (k0 := 4) hmk.1 (by decide) rfl (by decide) in_X3 k_625 rfl tyX3 tyX3_ok nmX3 rfl (by first | exact rfl | exact (rfl : _ = va_rf (some _)) | exact (rfl : _ = va_rf none)) (by rfl) (by first | rfl | exact x_narq _ _) (by first | rfl | exact x_fitq _ _) rfl D_X2_layOut_4.2.1 (fun Q4 eQ4 => ?_)
        refine x_aload C D_X2_layOut_4.2.2.1 rfl (by first | exact Or.inr ⟨_, rfl⟩ | exact va_rf_or _ | exact Or.inl rfl) ?_
        refine x_iload_n C D_X2_layOut_4.2.2.2.1 rfl rfl ?_
        refine x_iload_n C D_X2_layOut_4.2.2.2.2.1 rfl rfl ?_
        refine x_isub C D_X2_layOut_4.2.2.2.2.2.1 ?_
        refine x_eqi _ (show nI (a + lst.length) - nI a = nI lst.length by rw [pk_sub (by omega)]; congr 1; omega) ?_
        refine x_putI C (ci := 2) (k0 := 2) hmk.1 (by decide) rfl (by decide) in_X3 k_619 rfl tyX3 tyX3_ok nmX3 rfl (by rfl) rfl rfl rfl D_X2_layOut_4.2.2.2.2.2.2.1 (fun I3 eI3 => ?_)
        refine x_aload C D_X2_layOut_4.2.2.2.2.2.2.2.1 rfl (by first | exact Or.inr ⟨_, rfl⟩ | exact va_rf_or _ | exact Or.inl rfl) ?_
        refine ret _ _ _ _ _ _ _ ⟨_, rfl⟩ D_X2_layOut_4.2.2.2.2.2.2.2.2 (Nat.le_of_ble_eq_true rfl) (Nat.le_of_ble_eq_true rfl) (by first | exact rfl | exact (rfl : _ = va_rf (some _)) | exact (rfl : _ = va_rf none)) ?_
        refine ⟨I3, Q4, rfl, ?_⟩
        simp only [kdl]
        rw [if_neg (fun h => by rw [h] at hl0; simp at hl0), ← esl, ← ehh, ← emd, eI3, eQ4]
        rw [eQ2] at hl2
        have hLf : (sl.take hh).length < 2 ^ b0 := by rw [hLl, ehh]; exact half_lt hf
        have hRf : (sl.drop (hh + 1)).length < 2 ^ b0 := by rw [hRl, ehh]; exact half_lt2 hf hl0
        refine LAYP.node eQs ho (by rw [← hsp]; exact hpm) hnd (fun q hq => (hN q hq).1) hkn hl1 (by rw [hLl]; exact hl2) (kdl_mem _ _ _ hLf) (kdl_mem _ _ _ hRf) (kdl_sz _ _ _ hLf) (kdl_sz _ _ _ hRf)
      · skip
        exact absurd e_42 (by simp)
        --end
    · skip
      exact absurd ((nI_leI (by omega) (by omega)).mp (fa_of_nlt c_8)) (by omega)
      --end
