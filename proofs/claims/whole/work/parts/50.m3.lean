theorem D_X9_layOut_0 : decode cX9_layOut 0 = .ok (.aload_n 0, 1) ∧ decode cX9_layOut 1 = .ok (.getfield 17, 3) ∧ decode cX9_layOut 4 = .ok (.aload_n 0, 1) ∧ decode cX9_layOut 5 = .ok (.getfield 60, 3) ∧ decode cX9_layOut 8 = .ok (.iload_n 1, 1) ∧ decode cX9_layOut 9 = .ok (.invokestatic 67, 3) ∧ decode cX9_layOut 12 = .ok (.istore_n 2, 1) ∧ decode cX9_layOut 13 = .ok (.iconst 0, 1) ∧ decode cX9_layOut 14 = .ok (.istore_n 3, 1) ∧ decode cX9_layOut 15 = .ok (.iconst 0, 1) ∧ decode cX9_layOut 16 = .ok (.istore 4, 2) ∧ decode cX9_layOut 18 = .ok (.iload 4, 2) := by decide +kernel
theorem D_X9_layOut_1 : decode cX9_layOut 20 = .ok (.aload_n 0, 1) ∧ decode cX9_layOut 21 = .ok (.getfield 60, 3) ∧ decode cX9_layOut 24 = .ok (.if_icmp .ge 156, 3) ∧ decode cX9_layOut 27 = .ok (.aload_n 0, 1) ∧ decode cX9_layOut 28 = .ok (.getfield 17, 3) ∧ decode cX9_layOut 31 = .ok (.iload 4, 2) ∧ decode cX9_layOut 33 = .ok (.iaload, 1) ∧ decode cX9_layOut 34 = .ok (.iload_n 1, 1) ∧ decode cX9_layOut 35 = .ok (.invokestatic 52, 3) ∧ decode cX9_layOut 38 = .ok (.ifCond .eq 121, 3) ∧ decode cX9_layOut 41 = .ok (.iconst 0, 1) ∧ decode cX9_layOut 42 = .ok (.istore 5, 2) := by decide +kernel
theorem D_X9_layOut_2 : decode cX9_layOut 44 = .ok (.iload_n 2, 1) ∧ decode cX9_layOut 45 = .ok (.istore 6, 2) ∧ decode cX9_layOut 47 = .ok (.iload_n 1, 1) ∧ decode cX9_layOut 48 = .ok (.istore 7, 2) ∧ decode cX9_layOut 50 = .ok (.iload_n 3, 1) ∧ decode cX9_layOut 51 = .ok (.iload 5, 2) ∧ decode cX9_layOut 53 = .ok (.iload 6, 2) ∧ decode cX9_layOut 55 = .ok (.iconst 2, 1) ∧ decode cX9_layOut 56 = .ok (.idiv, 1) ∧ decode cX9_layOut 57 = .ok (.iadd, 1) ∧ decode cX9_layOut 58 = .ok (.if_icmp .eq 85, 3) ∧ decode cX9_layOut 61 = .ok (.iload_n 3, 1) := by decide +kernel
theorem D_X9_layOut_3 : decode cX9_layOut 62 = .ok (.iload 5, 2) ∧ decode cX9_layOut 64 = .ok (.iload 6, 2) ∧ decode cX9_layOut 66 = .ok (.iconst 2, 1) ∧ decode cX9_layOut 67 = .ok (.idiv, 1) ∧ decode cX9_layOut 68 = .ok (.iadd, 1) ∧ decode cX9_layOut 69 = .ok (.if_icmp .ge 7, 3) ∧ decode cX9_layOut 72 = .ok (.iconst 1, 1) ∧ decode cX9_layOut 73 = .ok (.goto 4, 3) ∧ decode cX9_layOut 76 = .ok (.iconst 0, 1) ∧ decode cX9_layOut 77 = .ok (.istore 8, 2) ∧ decode cX9_layOut 79 = .ok (.iload 8, 2) ∧ decode cX9_layOut 81 = .ok (.ifCond .eq 8, 3) := by decide +kernel
theorem D_X9_layOut_4 : decode cX9_layOut 84 = .ok (.iload 5, 2) ∧ decode cX9_layOut 86 = .ok (.goto 12, 3) ∧ decode cX9_layOut 89 = .ok (.iload 5, 2) ∧ decode cX9_layOut 91 = .ok (.iload 6, 2) ∧ decode cX9_layOut 93 = .ok (.iconst 2, 1) ∧ decode cX9_layOut 94 = .ok (.idiv, 1) ∧ decode cX9_layOut 95 = .ok (.iadd, 1) ∧ decode cX9_layOut 96 = .ok (.iconst 1, 1) ∧ decode cX9_layOut 97 = .ok (.iadd, 1) ∧ decode cX9_layOut 98 = .ok (.istore 5, 2) ∧ decode cX9_layOut 100 = .ok (.iload 8, 2) ∧ decode cX9_layOut 102 = .ok (.ifCond .eq 10, 3) := by decide +kernel
theorem D_X9_layOut_5 : decode cX9_layOut 105 = .ok (.iload 6, 2) ∧ decode cX9_layOut 107 = .ok (.iconst 2, 1) ∧ decode cX9_layOut 108 = .ok (.idiv, 1) ∧ decode cX9_layOut 109 = .ok (.goto 12, 3) ∧ decode cX9_layOut 112 = .ok (.iload 6, 2) ∧ decode cX9_layOut 114 = .ok (.iload 6, 2) ∧ decode cX9_layOut 116 = .ok (.iconst 2, 1) ∧ decode cX9_layOut 117 = .ok (.idiv, 1) ∧ decode cX9_layOut 118 = .ok (.isub, 1) ∧ decode cX9_layOut 119 = .ok (.iconst 1, 1) ∧ decode cX9_layOut 120 = .ok (.isub, 1) ∧ decode cX9_layOut 121 = .ok (.istore 6, 2) := by decide +kernel
theorem D_X9_layOut_6 : decode cX9_layOut 123 = .ok (.iconst 2, 1) ∧ decode cX9_layOut 124 = .ok (.iload 7, 2) ∧ decode cX9_layOut 126 = .ok (.imul, 1) ∧ decode cX9_layOut 127 = .ok (.iload 8, 2) ∧ decode cX9_layOut 129 = .ok (.ifCond .eq 7, 3) ∧ decode cX9_layOut 132 = .ok (.iconst 0, 1) ∧ decode cX9_layOut 133 = .ok (.goto 4, 3) ∧ decode cX9_layOut 136 = .ok (.iconst 1, 1) ∧ decode cX9_layOut 137 = .ok (.iadd, 1) ∧ decode cX9_layOut 138 = .ok (.istore 7, 2) ∧ decode cX9_layOut 140 = .ok (.goto (-90), 3) ∧ decode cX9_layOut 143 = .ok (.iinc 3 1, 3) := by decide +kernel
theorem D_X9_layOut_7 : decode cX9_layOut 146 = .ok (.aload_n 0, 1) ∧ decode cX9_layOut 147 = .ok (.getfield 17, 3) ∧ decode cX9_layOut 150 = .ok (.iload 4, 2) ∧ decode cX9_layOut 152 = .ok (.iload 7, 2) ∧ decode cX9_layOut 154 = .ok (.ineg, 1) ∧ decode cX9_layOut 155 = .ok (.iastore, 1) ∧ decode cX9_layOut 156 = .ok (.goto 18, 3) ∧ decode cX9_layOut 159 = .ok (.aload_n 0, 1) ∧ decode cX9_layOut 160 = .ok (.getfield 17, 3) ∧ decode cX9_layOut 163 = .ok (.iload 4, 2) ∧ decode cX9_layOut 165 = .ok (.aload_n 0, 1) ∧ decode cX9_layOut 166 = .ok (.getfield 17, 3) := by decide +kernel
theorem D_X9_layOut_8 : decode cX9_layOut 169 = .ok (.iload 4, 2) ∧ decode cX9_layOut 171 = .ok (.iaload, 1) ∧ decode cX9_layOut 172 = .ok (.ineg, 1) ∧ decode cX9_layOut 173 = .ok (.iastore, 1) ∧ decode cX9_layOut 174 = .ok (.iinc 4 1, 3) ∧ decode cX9_layOut 177 = .ok (.goto (-159), 3) ∧ decode cX9_layOut 180 = .ok (.iconst 0, 1) ∧ decode cX9_layOut 181 = .ok (.istore 4, 2) ∧ decode cX9_layOut 183 = .ok (.iload 4, 2) ∧ decode cX9_layOut 185 = .ok (.aload_n 0, 1) ∧ decode cX9_layOut 186 = .ok (.getfield 60, 3) ∧ decode cX9_layOut 189 = .ok (.if_icmp .ge 24, 3) := by decide +kernel
theorem D_X9_layOut_9 : decode cX9_layOut 192 = .ok (.aload_n 0, 1) ∧ decode cX9_layOut 193 = .ok (.getfield 17, 3) ∧ decode cX9_layOut 196 = .ok (.iload 4, 2) ∧ decode cX9_layOut 198 = .ok (.aload_n 0, 1) ∧ decode cX9_layOut 199 = .ok (.getfield 17, 3) ∧ decode cX9_layOut 202 = .ok (.iload 4, 2) ∧ decode cX9_layOut 204 = .ok (.iaload, 1) ∧ decode cX9_layOut 205 = .ok (.ineg, 1) ∧ decode cX9_layOut 206 = .ok (.iastore, 1) ∧ decode cX9_layOut 207 = .ok (.iinc 4 1, 3) ∧ decode cX9_layOut 210 = .ok (.goto (-27), 3) ∧ decode cX9_layOut 213 = .ok (.return_, 1) := by decide +kernel
abbrev rm_X9_layOut : Room := { frames := 3, cells := 0, slots := 0, locals := 67 }
set_option maxHeartbeats 4000000 in
set_option maxRecDepth 100000 in
theorem c_X9_layOut (l : Launch) (G : xG) {K N : Nat → Nat} {I : Nat → Nat → Int32} {Q : Nat → Nat → Option Nat} {J : Nat → Nat → Int64} (m n p0 : Nat) (ar sp : Nat → Nat) (hM : MZ K N Q m ar) (hn : I m 0 = nI n) (hnb : n ≤ 202) (hsp : ∀ i, i < n → I (ar 7) i = nI (sp i) ∧ 0 < sp i ∧ sp i < 2 ^ 29) (hp : (p0 + 1) * 2 ^ 8 ≤ 2 ^ 29) : XM l yX9_layOut cX9_layOut 9 none rm_X9_layOut G Rv [.ref m, .int (nI p0)] (K, N, I, Q, J) (fun _ S1 => ∃ I1, S1 = (K, N, I1, Q, J) ∧ (∀ i, i < n → I1 (ar 7) i = nI (if bel (sp i) p0 = true then layA 8 (cn (fun j => bel (sp j) p0) i) 0 (cn (fun j => bel (sp j) p0) n) p0 else sp i)) ∧ (∀ a j, ¬ (a = ar 7 ∧ j < n) → I1 a j = I a j)) := by
  refine x_metv (lv := [_, _, _, _, _, _, _, _, _]) (by decide +kernel) (x_cc (by first | rfl | exact x_crf _) (x_cc (by first | rfl | exact x_crf _) x_cn)) (Nat.le_of_ble_eq_true rfl) rfl ?_
  intro pP eE sS mM aA bB hH cC Z C hini ret
  have hk9 := hM.1
  have h202 := hM.nk 7 (by decide)
  have hm7 := hM.nm 7 (by decide)
  have hp29 := pb_lt hp
  obtain ⟨W, eW⟩ : ∃ W, W = cn (fun j => bel (sp j) p0) n := ⟨_, rfl⟩
  obtain ⟨nw, enw⟩ : ∃ nw : Nat → Nat, nw = fun i => (if bel (sp i) p0 = true then layA 8 (cn (fun j => bel (sp j) p0) i) 0 (cn (fun j => bel (sp j) p0) n) p0 else sp i) := ⟨_, rfl⟩
  have hWn : W ≤ n := by rw [eW]; exact cn_le _ _
  have hW2 : cn (fun i => decide (0 < sp i) && bel (sp i) p0) n = W := by
    rw [eW]
    exact cn_congr (fun i hi => by simp [(hsp i hi).2.1])
  refine x_aload_n C D_X9_layOut_0.1 rfl rfl (by first | exact Or.inr ⟨_, rfl⟩ | exact va_rf_or _ | exact Or.inl rfl) ?_
  refine x_getQ C (ci := 8) (k0 := 7) (by assumption) (by decide) rfl (by decide) in_X9 k_909 rfl rfl D_X9_layOut_0.2.1 ?_
  refine x_eqr (hM.2.1 7 (by decide)).1 ?_
  refine x_aload_n C D_X9_layOut_0.2.2.1 rfl rfl (by first | exact Or.inr ⟨_, rfl⟩ | exact va_rf_or _ | exact Or.inl rfl) ?_
  refine x_getI C (ci := 8) (k0 := 0) (by assumption) (by decide) rfl (by decide) in_X9 k_902 rfl rfl D_X9_layOut_0.2.2.2.1 ?_
  first
  | refine x_eqi _ (hn) ?_
  | refine x_eqi _ (hn1) ?_
  | refine x_eqi _ (hs1) ?_
  | refine x_eqi _ (hn2_) ?_
  | refine x_eqi _ (hs2) ?_
  | skip
  refine x_iload_n C D_X9_layOut_0.2.2.2.2.1 rfl rfl ?_
  refine x_callSi C (y := yX9_weightAt) (c_X9_weightAt l G (ar 7) n p0 sp (hM.2.1 7 (by decide)).2.1 (by omega) (by omega) (by omega) (by omega) (fun i hi => ⟨(hsp i hi).1, by have := (hsp i hi).2.2; omega⟩)) k_1005 k_1006 k_67 k_1007 hd_X9_weightAt ⟨(Nat.le_of_ble_eq_true rfl), (Nat.le_of_ble_eq_true rfl)⟩ rfl (by first | exact Nat.le_of_ble_eq_true rfl | simp [x_crf, Value.category]) rfl rfl D_X9_layOut_0.2.2.2.2.2.1 ⟨(Nat.le_of_ble_eq_true rfl), (Nat.le_of_ble_eq_true rfl)⟩ (fun r_9 S_9 h_9 => ?_)
  obtain ⟨rfl, rfl⟩ := h_9
  refine x_eqi _ (by rw [hW2]) ?_
  refine x_istore_n C (lv' := [_, _, _, _, _, _, _, _, _]) D_X9_layOut_0.2.2.2.2.2.2.1 rfl (Nat.le_of_ble_eq_true rfl) (by first | rfl | exact x_ok_q rfl) rfl ?_
  refine x_iconst C (v := nI 0) D_X9_layOut_0.2.2.2.2.2.2.2.1 (by decide +kernel) ?_
  refine x_istore_n C (lv' := [_, _, _, _, _, _, _, _, _]) D_X9_layOut_0.2.2.2.2.2.2.2.2.1 rfl (Nat.le_of_ble_eq_true rfl) (by first | rfl | exact x_ok_q rfl) rfl ?_
  refine x_iconst C (v := nI 0) D_X9_layOut_0.2.2.2.2.2.2.2.2.2.1 (by decide +kernel) ?_
  refine x_istore C (lv' := [_, _, _, _, _, _, _, _, _]) D_X9_layOut_0.2.2.2.2.2.2.2.2.2.2.1 (Nat.le_of_ble_eq_true rfl) (by first | rfl | exact x_ok_q rfl) rfl ?_
  have L_18 : ∀ (w_18 : Nat) (k0 : Nat) (I1 : Nat → Nat → Int32) (v5 v6 v7 v8 : Option Value), n - k0 < w_18 → (k0 ≤ n) → (∀ i, i < k0 → I1 (ar 7) i = -(nI (nw i))) → (∀ a j, ¬ (a = ar 7 ∧ j < k0) → I1 a j = I a j) → XW pP l eE rm_X9_layOut sS mM aA bB hH cC G Z 0 0 (K, N, I1, Q, J) 18 [some (.ref m), some (.int (nI p0)), some (.int (nI W)), some (.int (nI (cn (fun j => bel (sp j) p0) k0))), some (.int (nI k0)), v5, v6, v7, v8] [] := by
    intro w_18
    induction w_18 with
    | zero =>
      intro k0 I1 v5 v6 v7 v8 hw_18
      exact absurd hw_18 (Nat.not_lt_zero _)
    | succ w_18 ih_18 =>
      intro k0 I1 v5 v6 v7 v8 hw_18 hk0 hI1 hfr
      have hn1 : I1 m 0 = nI n := by rw [hfr m 0 (fun e => hm7 e.1.symm)]; exact hn
      refine x_iload C D_X9_layOut_0.2.2.2.2.2.2.2.2.2.2.2 rfl ?_
      refine x_aload_n C D_X9_layOut_1.1 rfl rfl (by first | exact Or.inr ⟨_, rfl⟩ | exact va_rf_or _ | exact Or.inl rfl) ?_
      refine x_getI C (ci := 8) (k0 := 0) (by assumption) (by decide) rfl (by decide) in_X9 k_902 rfl rfl D_X9_layOut_1.2.1 ?_
      first
      | refine x_eqi _ (hn) ?_
      | refine x_eqi _ (hn1) ?_
      | refine x_eqi _ (hs1) ?_
      | refine x_eqi _ (hn2_) ?_
      | refine x_eqi _ (hs2) ?_
      | skip
      refine x_icmp_ge C 180 D_X9_layOut_1.2.2.1 (by decide) (fun c_24 => ?_) (fun c_24 => ?_)
      · skip
        first
        | have d_24 := cv_le c_24 (by omega) (by omega)
        | skip
        obtain rfl : k0 = n := by omega
        refine x_iconst C (v := nI 0) D_X9_layOut_8.2.2.2.2.2.2.1 (by decide +kernel) ?_
        refine x_istore C (lv' := [_, _, _, _, _, _, _, _, _]) D_X9_layOut_8.2.2.2.2.2.2.2.1 (Nat.le_of_ble_eq_true rfl) (by first | rfl | exact x_ok_q rfl) rfl ?_
        have L_183 : ∀ (w_183 : Nat) (k1 : Nat) (I3 : Nat → Nat → Int32), k0 - k1 < w_183 → (k1 ≤ k0) → (∀ i, i < k1 → I3 (ar 7) i = nI (nw i)) → (∀ i, k1 ≤ i → i < k0 → I3 (ar 7) i = -(nI (nw i))) → (∀ a j, ¬ (a = ar 7 ∧ j < k0) → I3 a j = I a j) → XW pP l eE rm_X9_layOut sS mM aA bB hH cC G Z 0 0 (K, N, I3, Q, J) 183 [some (.ref m), some (.int (nI p0)), some (.int (nI W)), some (.int (nI (cn (fun j => bel (sp j) p0) k0))), some (.int (nI k1)), v5, v6, v7, v8] [] := by
          intro w_183
          induction w_183 with
          | zero =>
            intro k1 I3 hw_183
            exact absurd hw_183 (Nat.not_lt_zero _)
          | succ w_183 ih_183 =>
            intro k1 I3 hw_183 hk1 hJ1 hJ2 hfr3
            have hn2_ : I3 m 0 = nI k0 := by rw [hfr3 m 0 (fun e => hm7 e.1.symm)]; exact hn
            refine x_iload C D_X9_layOut_8.2.2.2.2.2.2.2.2.1 rfl ?_
            refine x_aload_n C D_X9_layOut_8.2.2.2.2.2.2.2.2.2.1 rfl rfl (by first | exact Or.inr ⟨_, rfl⟩ | exact va_rf_or _ | exact Or.inl rfl) ?_
            refine x_getI C (ci := 8) (k0 := 0) (by assumption) (by decide) rfl (by decide) in_X9 k_902 rfl rfl D_X9_layOut_8.2.2.2.2.2.2.2.2.2.2.1 ?_
            first
            | refine x_eqi _ (hn) ?_
            | refine x_eqi _ (hn1) ?_
            | refine x_eqi _ (hs1) ?_
            | refine x_eqi _ (hn2_) ?_
            | refine x_eqi _ (hs2) ?_
            | skip
            refine x_icmp_ge C 213 D_X9_layOut_8.2.2.2.2.2.2.2.2.2.2.2 (by decide) (fun c_189 => ?_) (fun c_189 => ?_)
            · skip
              first
              | have d_189 := cv_le c_189 (by omega) (by omega)
              | skip
              obtain rfl : k1 = k0 := by omega
              refine ret _ _ _ _ _ rfl D_X9_layOut_9.2.2.2.2.2.2.2.2.2.2.2 (Nat.le_of_ble_eq_true rfl) (Nat.le_of_ble_eq_true rfl) ?_
              refine ⟨I3, rfl, fun i hi => ?_, hfr3⟩
              rw [hJ1 i hi, enw]
            · skip
              first
              | have d_189 := cv_nle c_189 (by omega) (by omega)
              | skip
              have hs2 : I3 (ar 7) k1 = -(nI (nw k1)) := hJ2 k1 (Nat.le_refl _) (by omega)
              refine x_aload_n C D_X9_layOut_9.1 rfl rfl (by first | exact Or.inr ⟨_, rfl⟩ | exact va_rf_or _ | exact Or.inl rfl) ?_
              refine x_getQ C (ci := 8) (k0 := 7) (by assumption) (by decide) rfl (by decide) in_X9 k_909 rfl rfl D_X9_layOut_9.2.1 ?_
              refine x_eqr (hM.2.1 7 (by decide)).1 ?_
              refine x_iload C D_X9_layOut_9.2.2.1 rfl ?_
              refine x_aload_n C D_X9_layOut_9.2.2.2.1 rfl rfl (by first | exact Or.inr ⟨_, rfl⟩ | exact va_rf_or _ | exact Or.inl rfl) ?_
              refine x_getQ C (ci := 8) (k0 := 7) (by assumption) (by decide) rfl (by decide) in_X9 k_909 rfl rfl D_X9_layOut_9.2.2.2.2.1 ?_
              refine x_eqr (hM.2.1 7 (by decide)).1 ?_
              refine x_iload C D_X9_layOut_9.2.2.2.2.2.1 rfl ?_
              refine x_iald C _ (by first | assumption | exact (hM.2.1 _ (by decide)).2.1) rfl (by first | omega | (rw [hM.nk _ (by decide)]; omega) | (rw [hM.np _ (by decide)]; omega)) (by first | omega | (rw [hM.nk _ (by decide)]; omega) | (rw [hM.np _ (by decide)]; omega)) D_X9_layOut_9.2.2.2.2.2.2.1 ?_
              first
              | refine x_eqi _ (hn) ?_
              | refine x_eqi _ (hn1) ?_
              | refine x_eqi _ (hs1) ?_
              | refine x_eqi _ (hn2_) ?_
              | refine x_eqi _ (hs2) ?_
              | skip
              refine x_ineg C D_X9_layOut_9.2.2.2.2.2.2.2.1 ?_
              refine x_eqi _ Int32.neg_neg ?_
              refine x_iast C _ (by first | assumption | exact (hM.2.1 _ (by decide)).2.1) rfl (by first | omega | (rw [hM.nk _ (by decide)]; omega) | (rw [hM.np _ (by decide)]; omega)) (by first | omega | (rw [hM.nk _ (by decide)]; omega) | (rw [hM.np _ (by decide)]; omega)) D_X9_layOut_9.2.2.2.2.2.2.2.2.1 (fun I4 eI4 => ?_)
              first
              | refine x_iinc C (lv' := [_, _, _, _, _, _, _, _, _]) D_X9_layOut_9.2.2.2.2.2.2.2.2.2.1 rfl (x_incN_1 _) (by first | rfl | exact x_ok_q rfl) rfl ?_
              | refine x_iinc C (lv' := [_, _, _, _, _, _, _, _, _]) D_X9_layOut_9.2.2.2.2.2.2.2.2.2.1 rfl (x_inc_1 _) (by first | rfl | exact x_ok_q rfl) rfl ?_
              refine x_goto C 183 D_X9_layOut_9.2.2.2.2.2.2.2.2.2.2.1 (by decide) ?_
              refine ih_183 (k1 + 1) I4 (by omega) (by omega) (fun i hi => ?_) (fun i h1 h2 => ?_) (fun a j hj => ?_)
              · rw [eI4]
                by_cases e : i = k1
                · subst e; rw [x_u2_s]
                · rw [x_u2_j _ _ e]; exact hJ1 i (by omega)
              · rw [eI4, x_u2_j _ _ (by omega)]; exact hJ2 i (by omega) h2
              · rw [eI4]
                by_cases e : a = ar 7
                · subst e
                  rw [x_u2_j _ _ (fun e2 => hj ⟨rfl, by omega⟩)]; exact hfr3 _ j (fun e2 => hj ⟨rfl, by omega⟩)
                · rw [x_u2_a _ _ e]; exact hfr3 a j (fun e2 => e e2.1)
        exact L_183 _ 0 I1 (Nat.lt_succ_self _) (Nat.zero_le _) (fun i hi => by omega) (fun i _ hi => hI1 i hi) hfr
      · skip
        first
        | have d_24 := cv_nle c_24 (by omega) (by omega)
        | skip
        obtain ⟨hsk1, hsk2, hsk3⟩ := hsp k0 (by omega)
        have hs1 : I1 (ar 7) k0 = nI (sp k0) := by rw [hfr (ar 7) k0 (fun e => by omega)]; exact hsk1
        have hbn := cn_le (fun j => bel (sp j) p0) k0
        refine x_aload_n C D_X9_layOut_1.2.2.2.1 rfl rfl (by first | exact Or.inr ⟨_, rfl⟩ | exact va_rf_or _ | exact Or.inl rfl) ?_
        refine x_getQ C (ci := 8) (k0 := 7) (by assumption) (by decide) rfl (by decide) in_X9 k_909 rfl rfl D_X9_layOut_1.2.2.2.2.1 ?_
        refine x_eqr (hM.2.1 7 (by decide)).1 ?_
        refine x_iload C D_X9_layOut_1.2.2.2.2.2.1 rfl ?_
        refine x_iald C _ (by first | assumption | exact (hM.2.1 _ (by decide)).2.1) rfl (by first | omega | (rw [hM.nk _ (by decide)]; omega) | (rw [hM.np _ (by decide)]; omega)) (by first | omega | (rw [hM.nk _ (by decide)]; omega) | (rw [hM.np _ (by decide)]; omega)) D_X9_layOut_1.2.2.2.2.2.2.1 ?_
        first
        | refine x_eqi _ (hn) ?_
        | refine x_eqi _ (hn1) ?_
        | refine x_eqi _ (hs1) ?_
        | refine x_eqi _ (hn2_) ?_
        | refine x_eqi _ (hs2) ?_
        | skip
        refine x_iload_n C D_X9_layOut_1.2.2.2.2.2.2.2.1 rfl rfl ?_
        refine x_callSz C (y := yX9_isBelow) (c_X9_isBelow l G (sp k0) p0 (by omega) (by omega)) k_1008 k_1009 k_67 k_1010 hd_X9_isBelow ⟨(Nat.le_of_ble_eq_true rfl), (Nat.le_of_ble_eq_true rfl)⟩ rfl (by first | exact Nat.le_of_ble_eq_true rfl | simp [x_crf, Value.category]) rfl rfl D_X9_layOut_1.2.2.2.2.2.2.2.2.1 ⟨(Nat.le_of_ble_eq_true rfl), (Nat.le_of_ble_eq_true rfl)⟩ (fun r_35 S_35 h_35 => ?_)
        obtain ⟨rfl, rfl⟩ := h_35
        refine x_if_eq C 159 D_X9_layOut_1.2.2.2.2.2.2.2.2.2.1 (by decide) (fun c_38 => ?_) (fun c_38 => ?_)
        · skip
          first
          | have d_38 := cz_eq c_38 (by omega)
          | have d_38 := cb_eq c_38
          | skip
          have hbs : cn (fun j => bel (sp j) p0) (k0 + 1) = cn (fun j => bel (sp j) p0) k0 := by simp [cn, d_38]
          refine x_aload_n C D_X9_layOut_7.2.2.2.2.2.2.2.1 rfl rfl (by first | exact Or.inr ⟨_, rfl⟩ | exact va_rf_or _ | exact Or.inl rfl) ?_
          refine x_getQ C (ci := 8) (k0 := 7) (by assumption) (by decide) rfl (by decide) in_X9 k_909 rfl rfl D_X9_layOut_7.2.2.2.2.2.2.2.2.1 ?_
          refine x_eqr (hM.2.1 7 (by decide)).1 ?_
          refine x_iload C D_X9_layOut_7.2.2.2.2.2.2.2.2.2.1 rfl ?_
          refine x_aload_n C D_X9_layOut_7.2.2.2.2.2.2.2.2.2.2.1 rfl rfl (by first | exact Or.inr ⟨_, rfl⟩ | exact va_rf_or _ | exact Or.inl rfl) ?_
          refine x_getQ C (ci := 8) (k0 := 7) (by assumption) (by decide) rfl (by decide) in_X9 k_909 rfl rfl D_X9_layOut_7.2.2.2.2.2.2.2.2.2.2.2 ?_
          refine x_eqr (hM.2.1 7 (by decide)).1 ?_
          refine x_iload C D_X9_layOut_8.1 rfl ?_
          refine x_iald C _ (by first | assumption | exact (hM.2.1 _ (by decide)).2.1) rfl (by first | omega | (rw [hM.nk _ (by decide)]; omega) | (rw [hM.np _ (by decide)]; omega)) (by first | omega | (rw [hM.nk _ (by decide)]; omega) | (rw [hM.np _ (by decide)]; omega)) D_X9_layOut_8.2.1 ?_
          first
          | refine x_eqi _ (hn) ?_
          | refine x_eqi _ (hn1) ?_
          | refine x_eqi _ (hs1) ?_
          | refine x_eqi _ (hn2_) ?_
          | refine x_eqi _ (hs2) ?_
          | skip
          refine x_ineg C D_X9_layOut_8.2.2.1 ?_
          refine x_iast C _ (by first | assumption | exact (hM.2.1 _ (by decide)).2.1) rfl (by first | omega | (rw [hM.nk _ (by decide)]; omega) | (rw [hM.np _ (by decide)]; omega)) (by first | omega | (rw [hM.nk _ (by decide)]; omega) | (rw [hM.np _ (by decide)]; omega)) D_X9_layOut_8.2.2.2.1 (fun I2 eI2 => ?_)
          first
          | refine x_iinc C (lv' := [_, _, _, _, _, _, _, _, _]) D_X9_layOut_8.2.2.2.2.1 rfl (x_incN_1 _) (by first | rfl | exact x_ok_q rfl) rfl ?_
          | refine x_iinc C (lv' := [_, _, _, _, _, _, _, _, _]) D_X9_layOut_8.2.2.2.2.1 rfl (x_inc_1 _) (by first | rfl | exact x_ok_q rfl) rfl ?_
          refine x_goto C 18 D_X9_layOut_8.2.2.2.2.2.1 (by decide) ?_
          rw [← hbs]
          refine ih_18 (k0 + 1) I2 _ _ _ _ (by omega) (by omega) (fun i hi => ?_) (fun a j hj => ?_)
          · rw [eI2]
            by_cases e : i = k0
            · subst e
              have h9 : nw i = sp i := by rw [enw]; show (if bel (sp i) p0 = true then layA 8 (cn (fun j => bel (sp j) p0) i) 0 (cn (fun j => bel (sp j) p0) n) p0 else sp i) = sp i; rw [if_neg (by rw [d_38]; decide)]
              rw [x_u2_s, h9]
            · rw [x_u2_j _ _ e]; exact hI1 i (by omega)
          · rw [eI2]
            by_cases e : a = ar 7
            · subst e
              rw [x_u2_j _ _ (fun e2 => hj ⟨rfl, by omega⟩)]; exact hfr _ j (fun e2 => hj ⟨rfl, by omega⟩)
            · rw [x_u2_a _ _ e]; exact hfr a j (fun e2 => e e2.1)
        · skip
          first
          | have d_38 := cz_ne c_38 (by omega)
          | have d_38 := cb_ne c_38
          | skip
          have hbs : cn (fun j => bel (sp j) p0) (k0 + 1) = cn (fun j => bel (sp j) p0) k0 + 1 := by simp [cn, d_38]
          have hbm := cn_mono (fun j => bel (sp j) p0) (n := n) (k := k0 + 1) (by omega)
          rw [hbs, ← eW] at hbm
          refine x_iconst C (v := nI 0) D_X9_layOut_1.2.2.2.2.2.2.2.2.2.2.1 (by decide +kernel) ?_
          refine x_istore C (lv' := [_, _, _, _, _, _, _, _, _]) D_X9_layOut_1.2.2.2.2.2.2.2.2.2.2.2 (Nat.le_of_ble_eq_true rfl) (by first | rfl | exact x_ok_q rfl) rfl ?_
          refine x_iload_n C D_X9_layOut_2.1 rfl rfl ?_
          refine x_istore C (lv' := [_, _, _, _, _, _, _, _, _]) D_X9_layOut_2.2.1 (Nat.le_of_ble_eq_true rfl) (by first | rfl | exact x_ok_q rfl) rfl ?_
          refine x_iload_n C D_X9_layOut_2.2.2.1 rfl rfl ?_
          refine x_istore C (lv' := [_, _, _, _, _, _, _, _, _]) D_X9_layOut_2.2.2.2.1 (Nat.le_of_ble_eq_true rfl) (by first | rfl | exact x_ok_q rfl) rfl ?_
          have L_50 : ∀ (w_50 : Nat) (f low n2 at2 : Nat) (v8 : Option Value), n2 < w_50 → (low ≤ cn (fun j => bel (sp j) p0) k0) → (cn (fun j => bel (sp j) p0) k0 < low + n2) → (n2 < 2 ^ f) → ((at2 + 1) * 2 ^ f ≤ 2 ^ 29) → (low + n2 ≤ W) → (layA f (cn (fun j => bel (sp j) p0) k0) low n2 at2 = layA 8 (cn (fun j => bel (sp j) p0) k0) 0 W p0) → XW pP l eE rm_X9_layOut sS mM aA bB hH cC G Z 0 0 (K, N, I1, Q, J) 50 [some (.ref m), some (.int (nI p0)), some (.int (nI W)), some (.int (nI (cn (fun j => bel (sp j) p0) k0))), some (.int (nI k0)), some (.int (nI low)), some (.int (nI n2)), some (.int (nI at2)), v8] [] := by
            intro w_50
            induction w_50 with
            | zero =>
              intro f low n2 at2 v8 hw_50
              exact absurd hw_50 (Nat.not_lt_zero _)
            | succ w_50 ih_50 =>
              intro f low n2 at2 v8 hw_50 hb1 hb2 hn2 hat hlb hA
              have hn0 : 0 < n2 := by omega
              obtain ⟨f2, rfl⟩ : ∃ f2, f = f2 + 1 := by
                cases f with
                | zero => simp at hn2; omega
                | succ g => exact ⟨g, rfl⟩
              have hat29 := pb_lt hat
              refine x_iload_n C D_X9_layOut_2.2.2.2.2.1 rfl rfl ?_
              refine x_iload C D_X9_layOut_2.2.2.2.2.2.1 rfl ?_
              refine x_iload C D_X9_layOut_2.2.2.2.2.2.2.1 rfl ?_
              refine x_iconst C (v := nI 2) D_X9_layOut_2.2.2.2.2.2.2.2.1 (by decide +kernel) ?_
              refine x_idiv C D_X9_layOut_2.2.2.2.2.2.2.2.2.1 (by decide) ?_
              first
              | refine x_eqi _ (pk_div (by omega) (by decide) (by decide)) ?_
              | skip
              refine x_iadd C D_X9_layOut_2.2.2.2.2.2.2.2.2.2.1 ?_
              first
              | refine x_eqi _ (nI_add _ _) ?_
              | skip
              refine x_icmp_eq C 143 D_X9_layOut_2.2.2.2.2.2.2.2.2.2.2.1 (by decide) (fun c_58 => ?_) (fun c_58 => ?_)
              · skip
                first
                | have d_58 := cv_eq c_58 (by omega) (by omega)
                | skip
                rw [layA_eq d_58] at hA
                first
                | refine x_iinc C (lv' := [_, _, _, _, _, _, _, _, _]) D_X9_layOut_6.2.2.2.2.2.2.2.2.2.2.2 rfl (x_incN_1 _) (by first | rfl | exact x_ok_q rfl) rfl ?_
                | refine x_iinc C (lv' := [_, _, _, _, _, _, _, _, _]) D_X9_layOut_6.2.2.2.2.2.2.2.2.2.2.2 rfl (x_inc_1 _) (by first | rfl | exact x_ok_q rfl) rfl ?_
                refine x_aload_n C D_X9_layOut_7.1 rfl rfl (by first | exact Or.inr ⟨_, rfl⟩ | exact va_rf_or _ | exact Or.inl rfl) ?_
                refine x_getQ C (ci := 8) (k0 := 7) (by assumption) (by decide) rfl (by decide) in_X9 k_909 rfl rfl D_X9_layOut_7.2.1 ?_
                refine x_eqr (hM.2.1 7 (by decide)).1 ?_
                refine x_iload C D_X9_layOut_7.2.2.1 rfl ?_
                refine x_iload C D_X9_layOut_7.2.2.2.1 rfl ?_
                refine x_ineg C D_X9_layOut_7.2.2.2.2.1 ?_
                refine x_iast C _ (by first | assumption | exact (hM.2.1 _ (by decide)).2.1) rfl (by first | omega | (rw [hM.nk _ (by decide)]; omega) | (rw [hM.np _ (by decide)]; omega)) (by first | omega | (rw [hM.nk _ (by decide)]; omega) | (rw [hM.np _ (by decide)]; omega)) D_X9_layOut_7.2.2.2.2.2.1 (fun I2 eI2 => ?_)
                refine x_goto C 174 D_X9_layOut_7.2.2.2.2.2.2.1 (by decide) ?_
                first
                | refine x_iinc C (lv' := [_, _, _, _, _, _, _, _, _]) D_X9_layOut_8.2.2.2.2.1 rfl (x_incN_1 _) (by first | rfl | exact x_ok_q rfl) rfl ?_
                | refine x_iinc C (lv' := [_, _, _, _, _, _, _, _, _]) D_X9_layOut_8.2.2.2.2.1 rfl (x_inc_1 _) (by first | rfl | exact x_ok_q rfl) rfl ?_
                refine x_goto C 18 D_X9_layOut_8.2.2.2.2.2.1 (by decide) ?_
                rw [← hbs]
                refine ih_18 (k0 + 1) I2 _ _ _ _ (by omega) (by omega) (fun i hi => ?_) (fun a j hj => ?_)
                · rw [eI2]
                  by_cases e : i = k0
                  · subst e
                    have h9 : nw i = at2 := by rw [enw]; show (if bel (sp i) p0 = true then layA 8 (cn (fun j => bel (sp j) p0) i) 0 (cn (fun j => bel (sp j) p0) n) p0 else sp i) = at2; rw [if_pos d_38, ← eW, ← hA]
                    rw [x_u2_s, h9]
                  · rw [x_u2_j _ _ e]; exact hI1 i (by omega)
                · rw [eI2]
                  by_cases e : a = ar 7
                  · subst e
                    rw [x_u2_j _ _ (fun e2 => hj ⟨rfl, by omega⟩)]; exact hfr _ j (fun e2 => hj ⟨rfl, by omega⟩)
                  · rw [x_u2_a _ _ e]; exact hfr a j (fun e2 => e e2.1)
              · skip
                first
                | have d_58 := cv_ne c_58 (by omega) (by omega)
                | skip
                refine x_iload_n C D_X9_layOut_2.2.2.2.2.2.2.2.2.2.2.2 rfl rfl ?_
                refine x_iload C D_X9_layOut_3.1 rfl ?_
                refine x_iload C D_X9_layOut_3.2.1 rfl ?_
                refine x_iconst C (v := nI 2) D_X9_layOut_3.2.2.1 (by decide +kernel) ?_
                refine x_idiv C D_X9_layOut_3.2.2.2.1 (by decide) ?_
                first
                | refine x_eqi _ (pk_div (by omega) (by decide) (by decide)) ?_
                | skip
                refine x_iadd C D_X9_layOut_3.2.2.2.2.1 ?_
                first
                | refine x_eqi _ (nI_add _ _) ?_
                | skip
                refine x_icmp_ge C 76 D_X9_layOut_3.2.2.2.2.2.1 (by decide) (fun c_69 => ?_) (fun c_69 => ?_)
                · skip
                  first
                  | have d_69 := cv_le c_69 (by omega) (by omega)
                  | skip
                  rw [layA_gt d_58 d_69] at hA
                  refine x_iconst C (v := nI 0) D_X9_layOut_3.2.2.2.2.2.2.2.2.1 (by decide +kernel) ?_
                  refine x_istore C (lv' := [_, _, _, _, _, _, _, _, _]) D_X9_layOut_3.2.2.2.2.2.2.2.2.2.1 (Nat.le_of_ble_eq_true rfl) (by first | rfl | exact x_ok_q rfl) rfl ?_
                  refine x_iload C D_X9_layOut_3.2.2.2.2.2.2.2.2.2.2.1 rfl ?_
                  refine x_if_eq C 89 D_X9_layOut_3.2.2.2.2.2.2.2.2.2.2.2 (by decide) (fun c_81 => ?_) (fun c_81 => ?_)
                  · skip
                    first
                    | have d_81 := cz_eq c_81 (by omega)
                    | have d_81 := cb_eq c_81
                    | skip
                    refine x_iload C D_X9_layOut_4.2.2.1 rfl ?_
                    refine x_iload C D_X9_layOut_4.2.2.2.1 rfl ?_
                    refine x_iconst C (v := nI 2) D_X9_layOut_4.2.2.2.2.1 (by decide +kernel) ?_
                    refine x_idiv C D_X9_layOut_4.2.2.2.2.2.1 (by decide) ?_
                    first
                    | refine x_eqi _ (pk_div (by omega) (by decide) (by decide)) ?_
                    | skip
                    refine x_iadd C D_X9_layOut_4.2.2.2.2.2.2.1 ?_
                    first
                    | refine x_eqi _ (nI_add _ _) ?_
                    | skip
                    refine x_iconst C (v := nI 1) D_X9_layOut_4.2.2.2.2.2.2.2.1 (by decide +kernel) ?_
                    refine x_iadd C D_X9_layOut_4.2.2.2.2.2.2.2.2.1 ?_
                    first
                    | refine x_eqi _ (nI_add _ _) ?_
                    | skip
                    refine x_istore C (lv' := [_, _, _, _, _, _, _, _, _]) D_X9_layOut_4.2.2.2.2.2.2.2.2.2.1 (Nat.le_of_ble_eq_true rfl) (by first | rfl | exact x_ok_q rfl) rfl ?_
                    refine x_iload C D_X9_layOut_4.2.2.2.2.2.2.2.2.2.2.1 rfl ?_
                    refine x_if_eq C 112 D_X9_layOut_4.2.2.2.2.2.2.2.2.2.2.2 (by decide) (fun c_102 => ?_) (fun c_102 => ?_)
                    · skip
                      first
                      | have d_102 := cz_eq c_102 (by omega)
                      | have d_102 := cb_eq c_102
                      | skip
                      refine x_iload C D_X9_layOut_5.2.2.2.2.1 rfl ?_
                      refine x_iload C D_X9_layOut_5.2.2.2.2.2.1 rfl ?_
                      refine x_iconst C (v := nI 2) D_X9_layOut_5.2.2.2.2.2.2.1 (by decide +kernel) ?_
                      refine x_idiv C D_X9_layOut_5.2.2.2.2.2.2.2.1 (by decide) ?_
                      first
                      | refine x_eqi _ (pk_div (by omega) (by decide) (by decide)) ?_
                      | skip
                      refine x_isub C D_X9_layOut_5.2.2.2.2.2.2.2.2.1 ?_
                      first
                      | refine x_eqi _ (pk_sub (by omega)) ?_
                      | skip
                      refine x_iconst C (v := nI 1) D_X9_layOut_5.2.2.2.2.2.2.2.2.2.1 (by decide +kernel) ?_
                      refine x_isub C D_X9_layOut_5.2.2.2.2.2.2.2.2.2.2.1 ?_
                      first
                      | refine x_eqi _ (pk_sub (by omega)) ?_
                      | skip
                      refine x_istore C (lv' := [_, _, _, _, _, _, _, _, _]) D_X9_layOut_5.2.2.2.2.2.2.2.2.2.2.2 (Nat.le_of_ble_eq_true rfl) (by first | rfl | exact x_ok_q rfl) rfl ?_
                      refine x_iconst C (v := nI 2) D_X9_layOut_6.1 (by decide +kernel) ?_
                      refine x_iload C D_X9_layOut_6.2.1 rfl ?_
                      refine x_imul C D_X9_layOut_6.2.2.1 ?_
                      first
                      | refine x_eqi _ (pk_mul _ _) ?_
                      | skip
                      refine x_iload C D_X9_layOut_6.2.2.2.1 rfl ?_
                      refine x_if_eq C 136 D_X9_layOut_6.2.2.2.2.1 (by decide) (fun c_129 => ?_) (fun c_129 => ?_)
                      · skip
                        first
                        | have d_129 := cz_eq c_129 (by omega)
                        | have d_129 := cb_eq c_129
                        | skip
                        refine x_iconst C (v := nI 1) D_X9_layOut_6.2.2.2.2.2.2.2.1 (by decide +kernel) ?_
                        refine x_iadd C D_X9_layOut_6.2.2.2.2.2.2.2.2.1 ?_
                        first
                        | refine x_eqi _ (nI_add _ _) ?_
                        | skip
                        refine x_istore C (lv' := [_, _, _, _, _, _, _, _, _]) D_X9_layOut_6.2.2.2.2.2.2.2.2.2.1 (Nat.le_of_ble_eq_true rfl) (by first | rfl | exact x_ok_q rfl) rfl ?_
                        refine x_goto C 50 D_X9_layOut_6.2.2.2.2.2.2.2.2.2.2.1 (by decide) ?_
                        exact ih_50 f2 (low + n2 / 2 + 1) (n2 - n2 / 2 - 1) (2 * at2 + 1) _ (by omega) (by omega) (by omega) (by have := half_lt2 hn2 hn0; omega) (pb_dn hat (by omega)) (by omega) hA
                      · skip
                        exact absurd c_129 (by decide)
                    · skip
                      exact absurd c_102 (by decide)
                  · skip
                    exact absurd c_81 (by decide)
                · skip
                  first
                  | have d_69 := cv_nle c_69 (by omega) (by omega)
                  | skip
                  rw [layA_lt d_69] at hA
                  refine x_iconst C (v := nI 1) D_X9_layOut_3.2.2.2.2.2.2.1 (by decide +kernel) ?_
                  refine x_goto C 77 D_X9_layOut_3.2.2.2.2.2.2.2.1 (by decide) ?_
                  refine x_istore C (lv' := [_, _, _, _, _, _, _, _, _]) D_X9_layOut_3.2.2.2.2.2.2.2.2.2.1 (Nat.le_of_ble_eq_true rfl) (by first | rfl | exact x_ok_q rfl) rfl ?_
                  refine x_iload C D_X9_layOut_3.2.2.2.2.2.2.2.2.2.2.1 rfl ?_
                  refine x_if_eq C 89 D_X9_layOut_3.2.2.2.2.2.2.2.2.2.2.2 (by decide) (fun c_81 => ?_) (fun c_81 => ?_)
                  · skip
                    exact absurd c_81 (by decide)
                  · skip
                    first
                    | have d_81 := cz_ne c_81 (by omega)
                    | have d_81 := cb_ne c_81
                    | skip
                    refine x_iload C D_X9_layOut_4.1 rfl ?_
                    refine x_goto C 98 D_X9_layOut_4.2.1 (by decide) ?_
                    refine x_istore C (lv' := [_, _, _, _, _, _, _, _, _]) D_X9_layOut_4.2.2.2.2.2.2.2.2.2.1 (Nat.le_of_ble_eq_true rfl) (by first | rfl | exact x_ok_q rfl) rfl ?_
                    refine x_iload C D_X9_layOut_4.2.2.2.2.2.2.2.2.2.2.1 rfl ?_
                    refine x_if_eq C 112 D_X9_layOut_4.2.2.2.2.2.2.2.2.2.2.2 (by decide) (fun c_102 => ?_) (fun c_102 => ?_)
                    · skip
                      exact absurd c_102 (by decide)
                    · skip
                      first
                      | have d_102 := cz_ne c_102 (by omega)
                      | have d_102 := cb_ne c_102
                      | skip
                      refine x_iload C D_X9_layOut_5.1 rfl ?_
                      refine x_iconst C (v := nI 2) D_X9_layOut_5.2.1 (by decide +kernel) ?_
                      refine x_idiv C D_X9_layOut_5.2.2.1 (by decide) ?_
                      first
                      | refine x_eqi _ (pk_div (by omega) (by decide) (by decide)) ?_
                      | skip
                      refine x_goto C 121 D_X9_layOut_5.2.2.2.1 (by decide) ?_
                      refine x_istore C (lv' := [_, _, _, _, _, _, _, _, _]) D_X9_layOut_5.2.2.2.2.2.2.2.2.2.2.2 (Nat.le_of_ble_eq_true rfl) (by first | rfl | exact x_ok_q rfl) rfl ?_
                      refine x_iconst C (v := nI 2) D_X9_layOut_6.1 (by decide +kernel) ?_
                      refine x_iload C D_X9_layOut_6.2.1 rfl ?_
                      refine x_imul C D_X9_layOut_6.2.2.1 ?_
                      first
                      | refine x_eqi _ (pk_mul _ _) ?_
                      | skip
                      refine x_iload C D_X9_layOut_6.2.2.2.1 rfl ?_
                      refine x_if_eq C 136 D_X9_layOut_6.2.2.2.2.1 (by decide) (fun c_129 => ?_) (fun c_129 => ?_)
                      · skip
                        exact absurd c_129 (by decide)
                      · skip
                        first
                        | have d_129 := cz_ne c_129 (by omega)
                        | have d_129 := cb_ne c_129
                        | skip
                        refine x_iconst C (v := nI 0) D_X9_layOut_6.2.2.2.2.2.1 (by decide +kernel) ?_
                        refine x_goto C 137 D_X9_layOut_6.2.2.2.2.2.2.1 (by decide) ?_
                        refine x_iadd C D_X9_layOut_6.2.2.2.2.2.2.2.2.1 ?_
                        first
                        | refine x_eqi _ (nI_add _ _) ?_
                        | skip
                        refine x_istore C (lv' := [_, _, _, _, _, _, _, _, _]) D_X9_layOut_6.2.2.2.2.2.2.2.2.2.1 (Nat.le_of_ble_eq_true rfl) (by first | rfl | exact x_ok_q rfl) rfl ?_
                        refine x_goto C 50 D_X9_layOut_6.2.2.2.2.2.2.2.2.2.2.1 (by decide) ?_
                        exact ih_50 f2 low (n2 / 2) (2 * at2 + 0) _ (by omega) (by omega) (by omega) (half_lt hn2) (pb_dn (e := 0) hat (by omega)) (by omega) hA
          exact L_50 _ 8 0 W p0 _ (Nat.lt_succ_self _) (Nat.zero_le _) (by omega) (by omega) hp (by omega) rfl
  exact L_18 _ 0 I _ _ _ _ (Nat.lt_succ_self _) (Nat.zero_le _) (fun i hi => by omega) (fun a j _ => rfl)
