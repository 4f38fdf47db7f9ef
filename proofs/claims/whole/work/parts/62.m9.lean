theorem D_X9_drop_0 : decode cX9_drop 0 = .ok (.iconst 0, 1) ∧ decode cX9_drop 1 = .ok (.istore_n 1, 1) ∧ decode cX9_drop 2 = .ok (.iconst 0, 1) ∧ decode cX9_drop 3 = .ok (.istore_n 2, 1) ∧ decode cX9_drop 4 = .ok (.iload_n 2, 1) ∧ decode cX9_drop 5 = .ok (.aload_n 0, 1) ∧ decode cX9_drop 6 = .ok (.getfield 60, 3) ∧ decode cX9_drop 9 = .ok (.if_icmp .ge 34, 3) ∧ decode cX9_drop 12 = .ok (.aload_n 0, 1) ∧ decode cX9_drop 13 = .ok (.getfield 13, 3) ∧ decode cX9_drop 16 = .ok (.iload_n 2, 1) ∧ decode cX9_drop 17 = .ok (.baload, 1) := by decide +kernel
theorem D_X9_drop_1 : decode cX9_drop 18 = .ok (.ifCond .eq 19, 3) ∧ decode cX9_drop 21 = .ok (.aload_n 0, 1) ∧ decode cX9_drop 22 = .ok (.iload_n 2, 1) ∧ decode cX9_drop 23 = .ok (.iload_n 1, 1) ∧ decode cX9_drop 24 = .ok (.invokevirtual 124, 3) ∧ decode cX9_drop 27 = .ok (.aload_n 0, 1) ∧ decode cX9_drop 28 = .ok (.getfield 17, 3) ∧ decode cX9_drop 31 = .ok (.iload_n 1, 1) ∧ decode cX9_drop 32 = .ok (.iconst 1, 1) ∧ decode cX9_drop 33 = .ok (.iastore, 1) ∧ decode cX9_drop 34 = .ok (.iinc 1 1, 3) ∧ decode cX9_drop 37 = .ok (.iinc 2 1, 3) := by decide +kernel
theorem D_X9_drop_2 : decode cX9_drop 40 = .ok (.goto (-36), 3) ∧ decode cX9_drop 43 = .ok (.aload_n 0, 1) ∧ decode cX9_drop 44 = .ok (.iload_n 1, 1) ∧ decode cX9_drop 45 = .ok (.putfield 60, 3) ∧ decode cX9_drop 48 = .ok (.aload_n 0, 1) ∧ decode cX9_drop 49 = .ok (.dup, 1) ∧ decode cX9_drop 50 = .ok (.getfield 134, 3) ∧ decode cX9_drop 53 = .ok (.iconst 1, 1) ∧ decode cX9_drop 54 = .ok (.iadd, 1) ∧ decode cX9_drop 55 = .ok (.putfield 134, 3) ∧ decode cX9_drop 58 = .ok (.aload_n 0, 1) ∧ decode cX9_drop 59 = .ok (.iconst 1, 1) := by decide +kernel
theorem D_X9_drop_3 : decode cX9_drop 60 = .ok (.invokevirtual 76, 3) ∧ decode cX9_drop 63 = .ok (.iconst 0, 1) ∧ decode cX9_drop 64 = .ok (.istore_n 2, 1) ∧ decode cX9_drop 65 = .ok (.bipush 7, 2) ∧ decode cX9_drop 67 = .ok (.istore_n 3, 1) ∧ decode cX9_drop 68 = .ok (.iload_n 3, 1) ∧ decode cX9_drop 69 = .ok (.ifCond .lt 45, 3) ∧ decode cX9_drop 72 = .ok (.iconst 0, 1) ∧ decode cX9_drop 73 = .ok (.istore 4, 2) ∧ decode cX9_drop 75 = .ok (.iload 4, 2) ∧ decode cX9_drop 77 = .ok (.iconst 1, 1) ∧ decode cX9_drop 78 = .ok (.iload_n 3, 1) := by decide +kernel
theorem D_X9_drop_4 : decode cX9_drop 79 = .ok (.ishl, 1) ∧ decode cX9_drop 80 = .ok (.if_icmp .ge 28, 3) ∧ decode cX9_drop 83 = .ok (.iload_n 1, 1) ∧ decode cX9_drop 84 = .ok (.iload_n 3, 1) ∧ decode cX9_drop 85 = .ok (.ishr, 1) ∧ decode cX9_drop 86 = .ok (.iconst 1, 1) ∧ decode cX9_drop 87 = .ok (.iand, 1) ∧ decode cX9_drop 88 = .ok (.iconst 1, 1) ∧ decode cX9_drop 89 = .ok (.if_icmp .ne 19, 3) ∧ decode cX9_drop 92 = .ok (.aload_n 0, 1) ∧ decode cX9_drop 93 = .ok (.getfield 23, 3) ∧ decode cX9_drop 96 = .ok (.iload_n 2, 1) := by decide +kernel
theorem D_X9_drop_5 : decode cX9_drop 97 = .ok (.iload_n 3, 1) ∧ decode cX9_drop 98 = .ok (.iastore, 1) ∧ decode cX9_drop 99 = .ok (.iinc 2 1, 3) ∧ decode cX9_drop 102 = .ok (.iinc 4 1, 3) ∧ decode cX9_drop 105 = .ok (.goto (-30), 3) ∧ decode cX9_drop 108 = .ok (.iinc 3 (-1), 3) ∧ decode cX9_drop 111 = .ok (.goto (-43), 3) ∧ decode cX9_drop 114 = .ok (.return_, 1) := by decide +kernel
theorem D_X9_remove_0 : decode cX9_remove 0 = .ok (.aload_n 0, 1) ∧ decode cX9_remove 1 = .ok (.iconst 0, 1) ∧ decode cX9_remove 2 = .ok (.putfield 44, 3) ∧ decode cX9_remove 5 = .ok (.aload_n 0, 1) ∧ decode cX9_remove 6 = .ok (.iload_n 1, 1) ∧ decode cX9_remove 7 = .ok (.invokevirtual 110, 3) ∧ decode cX9_remove 10 = .ok (.istore_n 2, 1) ∧ decode cX9_remove 11 = .ok (.iload_n 2, 1) ∧ decode cX9_remove 12 = .ok (.iconst (-1), 1) ∧ decode cX9_remove 13 = .ok (.if_icmp .eq 12, 3) ∧ decode cX9_remove 16 = .ok (.aload_n 0, 1) ∧ decode cX9_remove 17 = .ok (.getfield 13, 3) := by decide +kernel
theorem D_X9_remove_1 : decode cX9_remove 20 = .ok (.iload_n 2, 1) ∧ decode cX9_remove 21 = .ok (.baload, 1) ∧ decode cX9_remove 22 = .ok (.ifCond .ne 5, 3) ∧ decode cX9_remove 25 = .ok (.iconst 0, 1) ∧ decode cX9_remove 26 = .ok (.ireturn, 1) ∧ decode cX9_remove 27 = .ok (.aload_n 0, 1) ∧ decode cX9_remove 28 = .ok (.getfield 13, 3) ∧ decode cX9_remove 31 = .ok (.iload_n 2, 1) ∧ decode cX9_remove 32 = .ok (.iconst 0, 1) ∧ decode cX9_remove 33 = .ok (.bastore, 1) ∧ decode cX9_remove 34 = .ok (.aload_n 0, 1) ∧ decode cX9_remove 35 = .ok (.iload_n 2, 1) := by decide +kernel
theorem D_X9_remove_2 : decode cX9_remove 36 = .ok (.invokevirtual 137, 3) ∧ decode cX9_remove 39 = .ok (.aload_n 0, 1) ∧ decode cX9_remove 40 = .ok (.getfield 60, 3) ∧ decode cX9_remove 43 = .ok (.aload_n 0, 1) ∧ decode cX9_remove 44 = .ok (.invokevirtual 113, 3) ∧ decode cX9_remove 47 = .ok (.isub, 1) ∧ decode cX9_remove 48 = .ok (.aload_n 0, 1) ∧ decode cX9_remove 49 = .ok (.invokevirtual 113, 3) ∧ decode cX9_remove 52 = .ok (.if_icmp .le 7, 3) ∧ decode cX9_remove 55 = .ok (.aload_n 0, 1) ∧ decode cX9_remove 56 = .ok (.invokevirtual 140, 3) ∧ decode cX9_remove 59 = .ok (.iconst 1, 1) := by decide +kernel
theorem D_X9_remove_3 : decode cX9_remove 60 = .ok (.ireturn, 1) := by decide +kernel
abbrev rm_X9_drop : Room := { frames := 4, cells := 0, slots := 0, locals := 95 }
set_option maxHeartbeats 4000000 in
set_option maxRecDepth 100000 in
theorem c_X9_drop (l : Launch) (G : xG) {K N : Nat → Nat} {I : Nat → Nat → Int32} {Q : Nat → Nat → Option Nat} {J : Nat → Nat → Int64} (m n : Nat) (ar kc sp tu pt : Nat → Nat) (al : Nat → Bool) (hM : MZ K N Q m ar) (hK : KV I m ar n kc al sp tu pt)  : XM l yX9_drop cX9_drop 5 none rm_X9_drop G Rv [.ref m] (K, N, I, Q, J) (fun _ S1 => ∃ I1, S1 = (K, N, I1, Q, J) ∧ KV I1 m ar (cn al n) ((fun j => kc (selF al n j))) (fun _ => true) (fun j => layA 8 j 0 (cn al n) 1) ((fun j => tu (selF al n j))) (fun j => (dls (cn al n) 8).getD j 0) ∧ KFR I I1 m ar ∧ I1 m 1 = I m 1 + nI 1 ∧ (∀ j, j ≠ 0 → j ≠ 1 → I1 m j = I m j)) := by
  refine x_metv (lv := [_, _, _, _, _]) (by decide +kernel) (x_cc (by first | rfl | exact x_crf _) x_cn) (Nat.le_of_ble_eq_true rfl) rfl ?_
  intro pP eE sS mM aA bB hH cC Z C hini ret
  have hk9 := hM.1
  obtain ⟨hn, hn201, hk5, hk6, hk7, hk8, hk9_⟩ := hK
  have h202 := hM.nk 6 (by decide)
  have n56 := hM.ne 5 6 (by decide)
  have n57 := hM.ne 5 7 (by decide)
  have n58 := hM.ne 5 8 (by decide)
  have n59 := hM.ne 5 9 (by decide)
  have n65 := hM.ne 6 5 (by decide)
  have n67 := hM.ne 6 7 (by decide)
  have n68 := hM.ne 6 8 (by decide)
  have n69 := hM.ne 6 9 (by decide)
  have n75 := hM.ne 7 5 (by decide)
  have n76 := hM.ne 7 6 (by decide)
  have n78 := hM.ne 7 8 (by decide)
  have n79 := hM.ne 7 9 (by decide)
  have n85 := hM.ne 8 5 (by decide)
  have n86 := hM.ne 8 6 (by decide)
  have n87 := hM.ne 8 7 (by decide)
  have n89 := hM.ne 8 9 (by decide)
  have n95 := hM.ne 9 5 (by decide)
  have n96 := hM.ne 9 6 (by decide)
  have n97 := hM.ne 9 7 (by decide)
  have n98 := hM.ne 9 8 (by decide)
  have hm5 := hM.nm 5 (by decide)
  have hm6 := hM.nm 6 (by decide)
  have hm7 := hM.nm 7 (by decide)
  have hm8 := hM.nm 8 (by decide)
  have hm9 := hM.nm 9 (by decide)
  have hcn := cn_le al n
  obtain ⟨n1, en1⟩ : ∃ n1, n1 = cn al n := ⟨_, rfl⟩
  obtain ⟨D8, eD8⟩ : ∃ D8, D8 = dls n1 8 := ⟨_, rfl⟩
  have hD8 : D8.length = n1 := by rw [eD8, dls_len]; exact Nat.mod_eq_of_lt (by omega)
  refine x_iconst C (v := nI 0) D_X9_drop_0.1 (by decide +kernel) ?_
  refine x_istore_n C (lv' := [_, _, _, _, _]) D_X9_drop_0.2.1 rfl (Nat.le_of_ble_eq_true rfl) (by first | rfl | exact x_ok_q rfl) rfl ?_
  refine x_iconst C (v := nI 0) D_X9_drop_0.2.2.1 (by decide +kernel) ?_
  refine x_istore_n C (lv' := [_, _, _, _, _]) D_X9_drop_0.2.2.2.1 rfl (Nat.le_of_ble_eq_true rfl) (by first | rfl | exact x_ok_q rfl) rfl ?_
  have L_4 : ∀ (w_4 : Nat) (k0 : Nat) (I1 : Nat → Nat → Int32), n - k0 < w_4 → (k0 ≤ n) → (∀ i, i < k0 → al i = true → I1 (ar 5) (cn al i) = I (ar 5) i ∧ I1 (ar 6) (cn al i) = I (ar 6) i ∧ I1 (ar 7) (cn al i) = nI 1 ∧ I1 (ar 8) (cn al i) = I (ar 8) i) → (∀ a j, cn al k0 ≤ j → I1 a j = I a j) → (∀ a j, a ≠ ar 5 → a ≠ ar 6 → a ≠ ar 7 → a ≠ ar 8 → a ≠ ar 9 → I1 a j = I a j) → XW pP l eE rm_X9_drop sS mM aA bB hH cC G Z 0 0 (K, N, I1, Q, J) 4 [some (.ref m), some (.int (nI (cn al k0))), some (.int (nI k0)), none, none] [] := by
    intro w_4
    induction w_4 with
    | zero =>
      intro k0 I1 hw_4
      exact absurd hw_4 (Nat.not_lt_zero _)
    | succ w_4 ih_4 =>
      intro k0 I1 hw_4 hk0 hJ1 hJ2 hJ3
      have hJm : ∀ {j : Nat}, I1 m j = I m j := fun {j} => hJ3 m j hm5.symm hm6.symm hm7.symm hm8.symm hm9.symm
      have hn1 : I1 m 0 = nI n := by rw [hJm]; exact hn
      refine x_iload_n C D_X9_drop_0.2.2.2.2.1 rfl rfl ?_
      refine x_aload_n C D_X9_drop_0.2.2.2.2.2.1 rfl rfl (by first | exact Or.inr ⟨_, rfl⟩ | exact va_rf_or _ | exact Or.inl rfl) ?_
      refine x_getI C (ci := 8) (k0 := 0) (by assumption) (by decide) rfl (by decide) in_X9 k_902 rfl rfl D_X9_drop_0.2.2.2.2.2.2.1 ?_
      first
      | refine x_eqi _ (hn) ?_
      | refine x_eqi _ (hn1) ?_
      | refine x_eqi _ (ha1) ?_
      | skip
      refine x_icmp_ge C 43 D_X9_drop_0.2.2.2.2.2.2.2.1 (by decide) (fun c_9 => ?_) (fun c_9 => ?_)
      · skip
        first
        | have d_9 := cv_le c_9 (by omega) (by omega)
        | skip
        obtain rfl : k0 = n := by omega
        refine x_aload_n C D_X9_drop_2.2.1 rfl rfl (by first | exact Or.inr ⟨_, rfl⟩ | exact va_rf_or _ | exact Or.inl rfl) ?_
        refine x_iload_n C D_X9_drop_2.2.2.1 rfl rfl ?_
        refine x_putI C (ci := 8) (k0 := 0) (by assumption) (by decide) rfl (by decide) in_X9 k_902 rfl tyX9 tyX9_ok nmX9 rfl (by rfl) rfl rfl rfl D_X9_drop_2.2.2.2.1 (fun I4 eI4 => ?_)
        refine x_aload_n C D_X9_drop_2.2.2.2.2.1 rfl rfl (by first | exact Or.inr ⟨_, rfl⟩ | exact va_rf_or _ | exact Or.inl rfl) ?_
        refine x_dup C D_X9_drop_2.2.2.2.2.2.1 (by first | rfl | exact x_crf _) ?_
        refine x_getI C (ci := 8) (k0 := 1) (by assumption) (by decide) rfl (by decide) in_X9 k_903 rfl rfl D_X9_drop_2.2.2.2.2.2.2.1 ?_
        refine x_eqi _ (show I4 m 1 = I m 1 by rw [eI4, x_u2_j _ _ (by omega), hJm]) ?_
        refine x_iconst C (v := nI 1) D_X9_drop_2.2.2.2.2.2.2.2.1 (by decide +kernel) ?_
        refine x_iadd C D_X9_drop_2.2.2.2.2.2.2.2.2.1 ?_
        first
        | refine x_eqi _ (nI_add _ _) ?_
        | skip
        refine x_putI C (ci := 8) (k0 := 1) (by assumption) (by decide) rfl (by decide) in_X9 k_903 rfl tyX9 tyX9_ok nmX9 rfl (by rfl) rfl rfl rfl D_X9_drop_2.2.2.2.2.2.2.2.2.2.1 (fun I5 eI5 => ?_)
        have e5a : ∀ a, a ≠ m → I5 a = I1 a := fun a ha => by rw [eI5, x_u2_a _ _ ha, eI4, x_u2_a _ _ ha]
        have e5n : I5 m 0 = nI (cn al k0) := by rw [eI5, x_u2_j _ _ (by omega), eI4, x_u2_s]
        have hsel : ∀ j, j < cn al k0 → I5 (ar 5) j = cv1 (kc (selF al k0 j)) ∧ I5 (ar 6) j = xb true ∧ I5 (ar 7) j = nI 1 ∧ I5 (ar 8) j = nI (tu (selF al k0 j)) := fun j hj => by
          obtain ⟨s1, s2, s3⟩ := selF_ok hj
          obtain ⟨t1, t2, t3, t4⟩ := hJ1 _ s1 s2
          rw [s3] at t1 t2 t3 t4
          rw [e5a _ hm5, e5a _ hm6, e5a _ hm7, e5a _ hm8, t1, t2, t3, t4, hk5 _ s1, hk6 _ s1, hk8 _ s1, s2]
          exact ⟨rfl, rfl, rfl, rfl⟩
        refine x_aload_n C D_X9_drop_2.2.2.2.2.2.2.2.2.2.2.1 rfl rfl (by first | exact Or.inr ⟨_, rfl⟩ | exact va_rf_or _ | exact Or.inl rfl) ?_
        refine x_iconst C (v := nI 1) D_X9_drop_2.2.2.2.2.2.2.2.2.2.2.2 (by decide +kernel) ?_
        refine x_callVv C (y := yX9_layOut) (c_X9_layOut l G m (cn al k0) 1 ar (fun _ => 1) hM e5n (by omega) (fun i hi => ⟨(hsel i hi).2.2.1, by omega, by omega⟩) (by omega)) (ci := 8) hM.1 (by decide) rfl rfl k_1034 k_1036 k_46 k_67 k_1037 hd_X9_layOut ⟨(Nat.le_of_ble_eq_true rfl), (Nat.le_of_ble_eq_true rfl)⟩ rfl (by first | exact Nat.le_of_ble_eq_true rfl | simp [x_crf, Value.category]) rfl rfl D_X9_drop_3.1 ⟨(Nat.le_of_ble_eq_true rfl), (Nat.le_of_ble_eq_true rfl)⟩ (fun _ S_60 h_60 => ?_)
        obtain ⟨I6, rfl, y1, y2⟩ := h_60
        have e6a : ∀ a, a ≠ ar 7 → I6 a = I5 a := fun a ha => by funext j; exact y2 a j (fun z => ha z.1)
        have e6s : ∀ i, i < cn al k0 → I6 (ar 7) i = nI (layA 8 i 0 (cn al k0) 1) := fun i hi => by
          have h9 := y1 i hi
          simp only [bel_self (show 0 < 1 by omega), cn_true, if_true] at h9
          exact h9
        refine x_iconst C (v := nI 0) D_X9_drop_3.2.1 (by decide +kernel) ?_
        refine x_istore_n C (lv' := [_, _, _, _, _]) D_X9_drop_3.2.2.1 rfl (Nat.le_of_ble_eq_true rfl) (by first | rfl | exact x_ok_q rfl) rfl ?_
        refine x_bipush C (v := nI 7) D_X9_drop_3.2.2.2.1 (by decide +kernel) ?_
        refine x_istore_n C (lv' := [_, _, _, _, _]) D_X9_drop_3.2.2.2.2.1 rfl (Nat.le_of_ble_eq_true rfl) (by first | rfl | exact x_ok_q rfl) rfl ?_
        have L_68 : ∀ (w_68 : Nat) (f : Nat) (P : List Nat) (I7 : Nat → Nat → Int32) (v4 : Option Value), f < w_68 → (f ≤ 8) → (P ++ dls n1 f = D8) → (∀ i, i < P.length → I7 (ar 9) i = nI (P.getD i 0)) → (∀ a, a ≠ ar 9 → I7 a = I6 a) → XW pP l eE rm_X9_drop sS mM aA bB hH cC G Z 0 0 (K, N, I7, Q, J) 68 [some (.ref m), some (.int (nI (cn al k0))), some (.int (nI P.length)), some (.int (dn f)), v4] [] := by
          intro w_68
          induction w_68 with
          | zero =>
            intro f P I7 v4 hw_68
            exact absurd hw_68 (Nat.not_lt_zero _)
          | succ w_68 ih_68 =>
            intro f P I7 v4 hw_68 hf8 hP hQ1 hQ2
            refine x_iload_n C D_X9_drop_3.2.2.2.2.2.1 rfl rfl ?_
            refine x_if_lt C 114 D_X9_drop_3.2.2.2.2.2.2.1 (by decide) (fun c_69 => ?_) (fun c_69 => ?_)
            · skip
              have hf0 := dn_neg c_69 (by omega)
              subst hf0
              refine ret _ _ _ _ _ rfl D_X9_drop_5.2.2.2.2.2.2.2 (Nat.le_of_ble_eq_true rfl) (Nat.le_of_ble_eq_true rfl) ?_
              have hPD : P = D8 := by rw [← hP]; simp [dls]
              have hPl : P.length = cn al k0 := by rw [hPD, hD8, en1]
              refine ⟨I7, rfl, ⟨?_, by omega, fun i hi => ?_, fun i hi => ?_, fun i hi => ?_, fun i hi => ?_, fun i hi => ?_⟩, fun a h1 h5 h6 h7 h8 h9 => ?_, ?_, fun j h0 h1 => ?_⟩
              · rw [hQ2 m hm9.symm, e6a _ hm7.symm]; exact e5n
              · rw [hQ2 _ n59, e6a _ n57]; exact (hsel i hi).1
              · rw [hQ2 _ n69, e6a _ n67]; exact (hsel i hi).2.1
              · rw [hQ2 _ n79]; exact e6s i hi
              · rw [hQ2 _ n89, e6a _ n87]; exact (hsel i hi).2.2.2
              · rw [hQ1 i (by omega), hPD, eD8, en1]
              · rw [hQ2 a h9, e6a a h7, e5a a h1]; funext j; exact hJ3 a j h5 h6 h7 h8 h9
              · rw [hQ2 m hm9.symm, e6a _ hm7.symm, eI5, x_u2_s]
              · rw [hQ2 m hm9.symm, e6a _ hm7.symm, eI5, x_u2_j _ _ h1, eI4, x_u2_j _ _ h0, hJm]
            · skip
              obtain ⟨g, rfl⟩ := dn_nneg c_69
              refine x_lv (lv := [_, _, _, some (.int (nI g)), _]) rfl ?_
              have hpw := pw_lt (j := g) (by omega)
              refine x_iconst C (v := nI 0) D_X9_drop_3.2.2.2.2.2.2.2.1 (by decide +kernel) ?_
              refine x_istore C (lv' := [_, _, _, _, _]) D_X9_drop_3.2.2.2.2.2.2.2.2.1 (Nat.le_of_ble_eq_true rfl) (by first | rfl | exact x_ok_q rfl) rfl ?_
              have L_75 : ∀ (w_75 : Nat) (k2 : Nat) (I8 : Nat → Nat → Int32), 2 ^ g - k2 < w_75 → (k2 ≤ 2 ^ g) → (0 < k2 → n1 / 2 ^ g % 2 = 1) → (∀ i, i < (P ++ List.replicate k2 g).length → I8 (ar 9) i = nI ((P ++ List.replicate k2 g).getD i 0)) → (∀ a, a ≠ ar 9 → I8 a = I6 a) → XW pP l eE rm_X9_drop sS mM aA bB hH cC G Z 0 0 (K, N, I8, Q, J) 75 [some (.ref m), some (.int (nI (cn al k0))), some (.int (nI (P.length + k2))), some (.int (nI g)), some (.int (nI k2))] [] := by
                intro w_75
                induction w_75 with
                | zero =>
                  intro k2 I8 hw_75
                  exact absurd hw_75 (Nat.not_lt_zero _)
                | succ w_75 ih_75 =>
                  intro k2 I8 hw_75 hk2 hbit hR1 hR2
                  have hPb : P.length ≤ n1 := by
                    have h9 := congrArg List.length hP
                    simp only [List.length_append] at h9
                    omega
                  refine x_iload C D_X9_drop_3.2.2.2.2.2.2.2.2.2.1 rfl ?_
                  refine x_iconst C (v := nI 1) D_X9_drop_3.2.2.2.2.2.2.2.2.2.2.1 (by decide +kernel) ?_
                  refine x_iload_n C D_X9_drop_3.2.2.2.2.2.2.2.2.2.2.2 rfl rfl ?_
                  refine x_ishl C D_X9_drop_4.1 ?_
                  refine x_eqi _ (shl_pw2 (by omega)) ?_
                  refine x_icmp_ge C 108 D_X9_drop_4.2.1 (by decide) (fun c_80 => ?_) (fun c_80 => ?_)
                  · skip
                    first
                    | have d_80 := cv_le c_80 (by omega) (by omega)
                    | skip
                    have hk2e : k2 = 2 ^ g := by omega
                    have h2g := Nat.two_pow_pos g
                    have hbit2 : n1 / 2 ^ g % 2 = 1 := hbit (by omega)
                    refine x_iinc C (lv' := [_, _, _, _, _]) D_X9_drop_5.2.2.2.2.2.1 rfl (x_inc_m1 _) (by first | rfl | exact x_ok_q rfl) rfl ?_
                    refine x_goto C 68 D_X9_drop_5.2.2.2.2.2.2.1 (by decide) ?_
                    have hPr : (P ++ List.replicate k2 g).length = P.length + k2 := by simp
                    refine x_lv (lv := [_, _, some (.int (nI (P ++ List.replicate k2 g).length)), some (.int (dn g)), _]) (by rw [dn_dec, hPr]) ?_
                    refine ih_68 g (P ++ List.replicate k2 g) I8 _ (by omega) (by omega) ?_ ?_ hR2
                    · rw [← hP, hk2e]; simp only [dls, if_pos hbit2, List.append_assoc]
                    · exact hR1
                  · skip
                    first
                    | have d_80 := cv_nle c_80 (by omega) (by omega)
                    | skip
                    refine x_iload_n C D_X9_drop_4.2.2.1 rfl rfl ?_
                    refine x_iload_n C D_X9_drop_4.2.2.2.1 rfl rfl ?_
                    refine x_ishr C D_X9_drop_4.2.2.2.2.1 ?_
                    skip
                    refine x_iconst C (v := nI 1) D_X9_drop_4.2.2.2.2.2.1 (by decide +kernel) ?_
                    refine x_iand C D_X9_drop_4.2.2.2.2.2.2.1 ?_
                    refine x_iconst C (v := nI 1) D_X9_drop_4.2.2.2.2.2.2.2.1 (by decide +kernel) ?_
                    refine x_icmp_ne C 108 D_X9_drop_4.2.2.2.2.2.2.2.2.1 (by decide) (fun c_89 => ?_) (fun c_89 => ?_)
                    · skip
                      have hnb2 : ¬ n1 / 2 ^ g % 2 = 1 := fun z => c_89 (by rw [← en1]; exact (bit_m (by omega) (by omega)).mpr z)
                      have hk20 : k2 = 0 := by
                        rcases Nat.eq_zero_or_pos k2 with h9 | h9
                        · exact h9
                        · exact absurd (hbit h9) hnb2
                      refine x_iinc C (lv' := [_, _, _, _, _]) D_X9_drop_5.2.2.2.2.2.1 rfl (x_inc_m1 _) (by first | rfl | exact x_ok_q rfl) rfl ?_
                      refine x_goto C 68 D_X9_drop_5.2.2.2.2.2.2.1 (by decide) ?_
                      have hPr : (P ++ List.replicate k2 g) = P := by rw [hk20]; simp
                      have hPr2 : P.length + k2 = P.length := by omega
                      refine x_lv (lv := [_, _, some (.int (nI P.length)), some (.int (dn g)), _]) (by rw [dn_dec, hPr2]) ?_
                      refine ih_68 g P I8 _ (by omega) (by omega) ?_ ?_ hR2
                      · rw [← hP]; simp only [dls, if_neg hnb2, List.nil_append]
                      · rw [hPr] at hR1; exact hR1
                    · skip
                      have hbit3 : n1 / 2 ^ g % 2 = 1 := (bit_m (by omega) (by omega)).mp (by rw [en1]; exact c_89)
                      have hlen : P.length + 2 ^ g ≤ n1 := by
                        have h9 := congrArg List.length hP
                        simp only [dls, if_pos hbit3, List.length_append, List.length_replicate] at h9
                        omega
                      refine x_aload_n C D_X9_drop_4.2.2.2.2.2.2.2.2.2.1 rfl rfl (by first | exact Or.inr ⟨_, rfl⟩ | exact va_rf_or _ | exact Or.inl rfl) ?_
                      refine x_getQ C (ci := 8) (k0 := 9) (by assumption) (by decide) rfl (by decide) in_X9 k_911 rfl rfl D_X9_drop_4.2.2.2.2.2.2.2.2.2.2.1 ?_
                      refine x_eqr (hM.2.1 9 (by decide)).1 ?_
                      refine x_iload_n C D_X9_drop_4.2.2.2.2.2.2.2.2.2.2.2 rfl rfl ?_
                      refine x_iload_n C D_X9_drop_5.1 rfl rfl ?_
                      refine x_iast C _ (by first | assumption | exact (hM.2.1 _ (by decide)).2.1) rfl (by first | omega | (rw [hM.nk _ (by decide)]; omega) | (rw [hM.np _ (by decide)]; omega)) (by first | omega | (rw [hM.nk _ (by decide)]; omega) | (rw [hM.np _ (by decide)]; omega)) D_X9_drop_5.2.1 (fun I9 eI9 => ?_)
                      first
                      | refine x_iinc C (lv' := [_, _, _, _, _]) D_X9_drop_5.2.2.1 rfl (x_incN_1 _) (by first | rfl | exact x_ok_q rfl) rfl ?_
                      | refine x_iinc C (lv' := [_, _, _, _, _]) D_X9_drop_5.2.2.1 rfl (x_inc_1 _) (by first | rfl | exact x_ok_q rfl) rfl ?_
                      first
                      | refine x_iinc C (lv' := [_, _, _, _, _]) D_X9_drop_5.2.2.2.1 rfl (x_incN_1 _) (by first | rfl | exact x_ok_q rfl) rfl ?_
                      | refine x_iinc C (lv' := [_, _, _, _, _]) D_X9_drop_5.2.2.2.1 rfl (x_inc_1 _) (by first | rfl | exact x_ok_q rfl) rfl ?_
                      refine x_goto C 75 D_X9_drop_5.2.2.2.2.1 (by decide) ?_
                      refine ih_75 (k2 + 1) I9 (by omega) (by omega) (fun _ => hbit3) (fun i hi => ?_) (fun a ha => by rw [eI9, x_u2_a _ _ ha]; exact hR2 a ha)
                      have e9 : P ++ List.replicate (k2 + 1) g = (P ++ List.replicate k2 g) ++ [g] := by rw [List.replicate_succ', List.append_assoc]
                      rw [e9, eI9]
                      by_cases e : i = P.length + k2
                      · subst e
                        rw [x_u2_s, List.getD_eq_getElem?_getD, List.getElem?_append_right (by simp)]
                        simp
                      · rw [e9] at hi
                        have hi2 : i < (P ++ List.replicate k2 g).length := by simp at hi ⊢; omega
                        rw [x_u2_j _ _ e, hR1 i hi2, List.getD_eq_getElem?_getD, List.getD_eq_getElem?_getD, List.getElem?_append_left hi2]
              exact L_75 _ 0 I7 (Nat.lt_succ_self _) (Nat.zero_le _) (fun z => absurd z (Nat.lt_irrefl _)) (by simpa using hQ1) hQ2
        exact L_68 _ 8 [] I6 _ (Nat.lt_succ_self _) (Nat.le_refl _) eD8.symm (fun i hi => by simp at hi) (fun _ _ => rfl)
      · skip
        first
        | have d_9 := cv_nle c_9 (by omega) (by omega)
        | skip
        have hcl := cn_le al k0
        have ha1 : I1 (ar 6) k0 = xb (al k0) := by rw [hJ2 (ar 6) k0 hcl]; exact hk6 k0 (by omega)
        refine x_aload_n C D_X9_drop_0.2.2.2.2.2.2.2.2.1 rfl rfl (by first | exact Or.inr ⟨_, rfl⟩ | exact va_rf_or _ | exact Or.inl rfl) ?_
        refine x_getQ C (ci := 8) (k0 := 6) (by assumption) (by decide) rfl (by decide) in_X9 k_908 rfl rfl D_X9_drop_0.2.2.2.2.2.2.2.2.2.1 ?_
        refine x_eqr (hM.2.1 6 (by decide)).1 ?_
        refine x_iload_n C D_X9_drop_0.2.2.2.2.2.2.2.2.2.2.1 rfl rfl ?_
        refine x_zald C _ (by first | assumption | exact (hM.2.1 _ (by decide)).2.1) rfl (by first | omega | (rw [hM.nk _ (by decide)]; omega) | (rw [hM.np _ (by decide)]; omega)) (by first | omega | (rw [hM.nk _ (by decide)]; omega) | (rw [hM.np _ (by decide)]; omega)) D_X9_drop_0.2.2.2.2.2.2.2.2.2.2.2 ?_
        first
        | refine x_eqi _ (hn) ?_
        | refine x_eqi _ (hn1) ?_
        | refine x_eqi _ (ha1) ?_
        | skip
        refine x_if_eq C 37 D_X9_drop_1.1 (by decide) (fun c_18 => ?_) (fun c_18 => ?_)
        · skip
          first
          | have d_18 := cz_eq c_18 (by omega)
          | have d_18 := cb_eq c_18
          | skip
          have hs : cn al (k0 + 1) = cn al k0 := by simp [cn, d_18]
          first
          | refine x_iinc C (lv' := [_, _, _, _, _]) D_X9_drop_1.2.2.2.2.2.2.2.2.2.2.2 rfl (x_incN_1 _) (by first | rfl | exact x_ok_q rfl) rfl ?_
          | refine x_iinc C (lv' := [_, _, _, _, _]) D_X9_drop_1.2.2.2.2.2.2.2.2.2.2.2 rfl (x_inc_1 _) (by first | rfl | exact x_ok_q rfl) rfl ?_
          refine x_goto C 4 D_X9_drop_2.1 (by decide) ?_
          refine x_lv (lv := [_, some (.int (nI (cn al (k0 + 1)))), _, _, _]) (by rw [hs]) ?_
          refine ih_4 (k0 + 1) I1 (by omega) (by omega) (fun i hi ha => ?_) (fun a j hj => hJ2 a j (by omega)) hJ3
          by_cases e : i = k0
          · rw [e, d_18] at ha; cases ha
          · exact hJ1 i (by omega) ha
        · skip
          first
          | have d_18 := cz_ne c_18 (by omega)
          | have d_18 := cb_ne c_18
          | skip
          have hs : cn al (k0 + 1) = cn al k0 + 1 := by simp [cn, d_18]
          refine x_aload_n C D_X9_drop_1.2.1 rfl rfl (by first | exact Or.inr ⟨_, rfl⟩ | exact va_rf_or _ | exact Or.inl rfl) ?_
          refine x_iload_n C D_X9_drop_1.2.2.1 rfl rfl ?_
          refine x_iload_n C D_X9_drop_1.2.2.2.1 rfl rfl ?_
          refine x_callVv C (y := yX9_copies) (c_X9_copies l G m k0 (cn al k0) ar (al k0) hM (by omega) (by omega) ha1) (ci := 8) hM.1 (by decide) rfl rfl k_1021 k_1023 k_44 k_67 k_1024 hd_X9_copies ⟨(Nat.le_of_ble_eq_true rfl), (Nat.le_of_ble_eq_true rfl)⟩ rfl (by first | exact Nat.le_of_ble_eq_true rfl | simp [x_crf, Value.category]) rfl rfl D_X9_drop_1.2.2.2.2.1 ⟨(Nat.le_of_ble_eq_true rfl), (Nat.le_of_ble_eq_true rfl)⟩ (fun _ S_24 h_24 => ?_)
          obtain ⟨I2, rfl, hC⟩ := h_24
          refine x_aload_n C D_X9_drop_1.2.2.2.2.2.1 rfl rfl (by first | exact Or.inr ⟨_, rfl⟩ | exact va_rf_or _ | exact Or.inl rfl) ?_
          refine x_getQ C (ci := 8) (k0 := 7) (by assumption) (by decide) rfl (by decide) in_X9 k_909 rfl rfl D_X9_drop_1.2.2.2.2.2.2.1 ?_
          refine x_eqr (hM.2.1 7 (by decide)).1 ?_
          refine x_iload_n C D_X9_drop_1.2.2.2.2.2.2.2.1 rfl rfl ?_
          refine x_iconst C (v := nI 1) D_X9_drop_1.2.2.2.2.2.2.2.2.1 (by decide +kernel) ?_
          refine x_iast C _ (by first | assumption | exact (hM.2.1 _ (by decide)).2.1) rfl (by first | omega | (rw [hM.nk _ (by decide)]; omega) | (rw [hM.np _ (by decide)]; omega)) (by first | omega | (rw [hM.nk _ (by decide)]; omega) | (rw [hM.np _ (by decide)]; omega)) D_X9_drop_1.2.2.2.2.2.2.2.2.2.1 (fun I3 eI3 => ?_)
          first
          | refine x_iinc C (lv' := [_, _, _, _, _]) D_X9_drop_1.2.2.2.2.2.2.2.2.2.2.1 rfl (x_incN_1 _) (by first | rfl | exact x_ok_q rfl) rfl ?_
          | refine x_iinc C (lv' := [_, _, _, _, _]) D_X9_drop_1.2.2.2.2.2.2.2.2.2.2.1 rfl (x_inc_1 _) (by first | rfl | exact x_ok_q rfl) rfl ?_
          first
          | refine x_iinc C (lv' := [_, _, _, _, _]) D_X9_drop_1.2.2.2.2.2.2.2.2.2.2.2 rfl (x_incN_1 _) (by first | rfl | exact x_ok_q rfl) rfl ?_
          | refine x_iinc C (lv' := [_, _, _, _, _]) D_X9_drop_1.2.2.2.2.2.2.2.2.2.2.2 rfl (x_inc_1 _) (by first | rfl | exact x_ok_q rfl) rfl ?_
          refine x_goto C 4 D_X9_drop_2.1 (by decide) ?_
          refine x_lv (lv := [_, some (.int (nI (cn al (k0 + 1)))), _, _, _]) (by rw [hs]) ?_
          refine ih_4 (k0 + 1) I3 (by omega) (by omega) (fun i hi ha => ?_) (fun a j hj => ?_) (fun a j h5 h6 h7 h8 h9 => ?_)
          · by_cases e : i = k0
            · subst e
              rw [eI3, x_u2_a _ _ n57, x_u2_a _ _ n67, x_u2_s, x_u2_a _ _ n87, hC, hC, hC, if_pos ⟨rfl, by simp⟩, if_pos ⟨rfl, by simp⟩, if_pos ⟨rfl, by simp⟩, hJ2 _ _ hcl, hJ2 _ _ hcl, hJ2 _ _ hcl]
              exact ⟨rfl, rfl, rfl, rfl⟩
            · obtain ⟨t1, t2, t3, t4⟩ := hJ1 i (by omega) ha
              have hlt : cn al i < cn al k0 := by
                have h9 := cn_mono al (n := k0) (k := i + 1) (by omega)
                simp only [cn, ha, if_true] at h9
                omega
              rw [eI3, x_u2_a _ _ n57, x_u2_a _ _ n67, x_u2_j _ _ (by omega), x_u2_a _ _ n87, hC, hC, hC, hC, if_neg (fun z => by omega), if_neg (fun z => by omega), if_neg (fun z => by omega), if_neg (fun z => by omega)]
              exact ⟨t1, t2, t3, t4⟩
          · rw [eI3]
            by_cases e : a = ar 7
            · subst e
              rw [x_u2_j _ _ (by omega), hC, if_neg (fun z => by omega)]; exact hJ2 _ j (by omega)
            · rw [x_u2_a _ _ e, hC, if_neg (fun z => by omega)]; exact hJ2 _ j (by omega)
          · rw [eI3, x_u2_a _ _ h7, hC, if_neg (fun z => by rcases z.2 with e | e | e | e | e <;> contradiction)]; exact hJ3 a j h5 h6 h7 h8 h9
  exact L_4 _ 0 I (Nat.lt_succ_self _) (Nat.zero_le _) (fun i hi => by omega) (fun _ _ _ => rfl) (fun _ _ _ _ _ _ _ => rfl)
abbrev rm_X9_removeN : Room := { frames := 1, cells := 0, slots := 0, locals := 23 }
set_option maxHeartbeats 4000000 in
set_option maxRecDepth 100000 in
theorem c_X9_removeN (l : Launch) (G : xG) {K N : Nat → Nat} {I : Nat → Nat → Int32} {Q : Nat → Nat → Option Nat} {J : Nat → Nat → Int64} (m n : Nat) (ar kc sp tu pt : Nat → Nat) (al : Nat → Bool) (x : Int32) (hM : MZ K N Q m ar) (hK : KV I m ar n kc al sp tu pt) (hnd : lastF (fun i => decide (I (ar 5) i = x)) n = none) : XM l yX9_remove cX9_remove 3 (some .boolean) rm_X9_removeN G Rz [.ref m, .int x] (K, N, I, Q, J) (fun r S1 => r = false ∧ S1 = (K, N, x_u2 I m 18 (nI 0), Q, J)) := by
  refine x_metz (lv := [_, _, _]) (by decide +kernel) (x_cc (by first | rfl | exact x_crf _) (x_cc (by first | rfl | exact x_crf _) x_cn)) (Nat.le_of_ble_eq_true rfl) rfl ?_
  intro pP eE sS mM aA bB hH cC Z C hini ret
  have hk9 := hM.1
  obtain ⟨hn, hn201, hk5, hk6, hk7, hk8, hk9_⟩ := hK
  have h202 := hM.nk 6 (by decide)
  have n56 := hM.ne 5 6 (by decide)
  have n57 := hM.ne 5 7 (by decide)
  have n58 := hM.ne 5 8 (by decide)
  have n59 := hM.ne 5 9 (by decide)
  have n65 := hM.ne 6 5 (by decide)
  have n67 := hM.ne 6 7 (by decide)
  have n68 := hM.ne 6 8 (by decide)
  have n69 := hM.ne 6 9 (by decide)
  have n75 := hM.ne 7 5 (by decide)
  have n76 := hM.ne 7 6 (by decide)
  have n78 := hM.ne 7 8 (by decide)
  have n79 := hM.ne 7 9 (by decide)
  have n85 := hM.ne 8 5 (by decide)
  have n86 := hM.ne 8 6 (by decide)
  have n87 := hM.ne 8 7 (by decide)
  have n89 := hM.ne 8 9 (by decide)
  have n95 := hM.ne 9 5 (by decide)
  have n96 := hM.ne 9 6 (by decide)
  have n97 := hM.ne 9 7 (by decide)
  have n98 := hM.ne 9 8 (by decide)
  have hm5 := hM.nm 5 (by decide)
  have hm6 := hM.nm 6 (by decide)
  have hm7 := hM.nm 7 (by decide)
  have hm8 := hM.nm 8 (by decide)
  have hm9 := hM.nm 9 (by decide)
  refine x_aload_n C D_X9_remove_0.1 rfl rfl (by first | exact Or.inr ⟨_, rfl⟩ | exact va_rf_or _ | exact Or.inl rfl) ?_
  refine x_iconst C (v := nI 0) D_X9_remove_0.2.1 (by decide +kernel) ?_
  refine x_putI C (ci := 8) (k0 := 18) (by assumption) (by decide) rfl (by decide) in_X9 k_920 rfl tyX9 tyX9_ok nmX9 rfl (by rfl) rfl rfl rfl D_X9_remove_0.2.2.1 (fun I2 eI2 => ?_)
  have i2 : ∀ a, a ≠ m → I2 a = I a := fun a ha => by rw [eI2, x_u2_a _ _ ha]
  have hn1 : I2 m 0 = nI n := by rw [eI2, x_u2_j _ _ (by omega)]; exact hn
  refine x_aload_n C D_X9_remove_0.2.2.2.1 rfl rfl (by first | exact Or.inr ⟨_, rfl⟩ | exact va_rf_or _ | exact Or.inl rfl) ?_
  refine x_iload_n C D_X9_remove_0.2.2.2.2.1 rfl rfl ?_
  refine x_callVi C (y := yX9_nodeOf) (c_X9_nodeOf l G m n ar (x) hM hn1 (by omega)) (ci := 8) hM.1 (by decide) rfl rfl k_970 k_972 k_35 k_67 k_973 hd_X9_nodeOf ⟨(Nat.le_of_ble_eq_true rfl), (Nat.le_of_ble_eq_true rfl)⟩ rfl (by first | exact Nat.le_of_ble_eq_true rfl | simp [x_crf, Value.category]) rfl rfl D_X9_remove_0.2.2.2.2.2.1 ⟨(Nat.le_of_ble_eq_true rfl), (Nat.le_of_ble_eq_true rfl)⟩ (fun r_7 S_7 h_7 => ?_)
  obtain ⟨rfl, rfl⟩ := h_7
  refine x_eqi (oI none) (by rw [show (fun i => decide (I2 (ar 5) i = x)) = (fun i => decide (I (ar 5) i = x)) by rw [i2 _ hm5], hnd]) ?_
  refine x_istore_n C (lv' := [_, _, _]) D_X9_remove_0.2.2.2.2.2.2.1 rfl (Nat.le_of_ble_eq_true rfl) (by first | rfl | exact x_ok_q rfl) rfl ?_
  refine x_iload_n C D_X9_remove_0.2.2.2.2.2.2.2.1 rfl rfl ?_
  refine x_iconst C (v := (-1)) D_X9_remove_0.2.2.2.2.2.2.2.2.1 (by decide +kernel) ?_
  refine x_icmp_eq C 25 D_X9_remove_0.2.2.2.2.2.2.2.2.2.1 (by decide) (fun c_13 => ?_) (fun c_13 => ?_)
  · skip
    first
    | have d_13 := cv_eq c_13 (by omega) (by omega)
    | skip
    refine x_iconst C (v := nI 0) D_X9_remove_1.2.2.2.1 (by decide +kernel) ?_
    refine ret _ _ _ _ _ _ false rfl D_X9_remove_1.2.2.2.2.1 (Nat.le_of_ble_eq_true rfl) (Nat.le_of_ble_eq_true rfl) rfl ?_
    exact ⟨rfl, by rw [eI2]⟩
  · skip
    exact absurd c_13 (by decide)
abbrev rm_X9_removeG : Room := { frames := 1, cells := 0, slots := 0, locals := 23 }
set_option maxHeartbeats 4000000 in
set_option maxRecDepth 100000 in
theorem c_X9_removeG (l : Launch) (G : xG) {K N : Nat → Nat} {I : Nat → Nat → Int32} {Q : Nat → Nat → Option Nat} {J : Nat → Nat → Int64} (m n : Nat) (ar kc sp tu pt : Nat → Nat) (al : Nat → Bool) (x : Int32) (k : Nat) (hM : MZ K N Q m ar) (hK : KV I m ar n kc al sp tu pt) (hnd : lastF (fun i => decide (I (ar 5) i = x)) n = some k) (hal : al k = false) : XM l yX9_remove cX9_remove 3 (some .boolean) rm_X9_removeG G Rz [.ref m, .int x] (K, N, I, Q, J) (fun r S1 => r = false ∧ S1 = (K, N, x_u2 I m 18 (nI 0), Q, J)) := by
  refine x_metz (lv := [_, _, _]) (by decide +kernel) (x_cc (by first | rfl | exact x_crf _) (x_cc (by first | rfl | exact x_crf _) x_cn)) (Nat.le_of_ble_eq_true rfl) rfl ?_
  intro pP eE sS mM aA bB hH cC Z C hini ret
  have hk9 := hM.1
  obtain ⟨hn, hn201, hk5, hk6, hk7, hk8, hk9_⟩ := hK
  have h202 := hM.nk 6 (by decide)
  have n56 := hM.ne 5 6 (by decide)
  have n57 := hM.ne 5 7 (by decide)
  have n58 := hM.ne 5 8 (by decide)
  have n59 := hM.ne 5 9 (by decide)
  have n65 := hM.ne 6 5 (by decide)
  have n67 := hM.ne 6 7 (by decide)
  have n68 := hM.ne 6 8 (by decide)
  have n69 := hM.ne 6 9 (by decide)
  have n75 := hM.ne 7 5 (by decide)
  have n76 := hM.ne 7 6 (by decide)
  have n78 := hM.ne 7 8 (by decide)
  have n79 := hM.ne 7 9 (by decide)
  have n85 := hM.ne 8 5 (by decide)
  have n86 := hM.ne 8 6 (by decide)
  have n87 := hM.ne 8 7 (by decide)
  have n89 := hM.ne 8 9 (by decide)
  have n95 := hM.ne 9 5 (by decide)
  have n96 := hM.ne 9 6 (by decide)
  have n97 := hM.ne 9 7 (by decide)
  have n98 := hM.ne 9 8 (by decide)
  have hm5 := hM.nm 5 (by decide)
  have hm6 := hM.nm 6 (by decide)
  have hm7 := hM.nm 7 (by decide)
  have hm8 := hM.nm 8 (by decide)
  have hm9 := hM.nm 9 (by decide)
  have hkn := (lastF_lt hnd).1
  refine x_aload_n C D_X9_remove_0.1 rfl rfl (by first | exact Or.inr ⟨_, rfl⟩ | exact va_rf_or _ | exact Or.inl rfl) ?_
  refine x_iconst C (v := nI 0) D_X9_remove_0.2.1 (by decide +kernel) ?_
  refine x_putI C (ci := 8) (k0 := 18) (by assumption) (by decide) rfl (by decide) in_X9 k_920 rfl tyX9 tyX9_ok nmX9 rfl (by rfl) rfl rfl rfl D_X9_remove_0.2.2.1 (fun I2 eI2 => ?_)
  have i2 : ∀ a, a ≠ m → I2 a = I a := fun a ha => by rw [eI2, x_u2_a _ _ ha]
  have hn1 : I2 m 0 = nI n := by rw [eI2, x_u2_j _ _ (by omega)]; exact hn
  refine x_aload_n C D_X9_remove_0.2.2.2.1 rfl rfl (by first | exact Or.inr ⟨_, rfl⟩ | exact va_rf_or _ | exact Or.inl rfl) ?_
  refine x_iload_n C D_X9_remove_0.2.2.2.2.1 rfl rfl ?_
  refine x_callVi C (y := yX9_nodeOf) (c_X9_nodeOf l G m n ar (x) hM hn1 (by omega)) (ci := 8) hM.1 (by decide) rfl rfl k_970 k_972 k_35 k_67 k_973 hd_X9_nodeOf ⟨(Nat.le_of_ble_eq_true rfl), (Nat.le_of_ble_eq_true rfl)⟩ rfl (by first | exact Nat.le_of_ble_eq_true rfl | simp [x_crf, Value.category]) rfl rfl D_X9_remove_0.2.2.2.2.2.1 ⟨(Nat.le_of_ble_eq_true rfl), (Nat.le_of_ble_eq_true rfl)⟩ (fun r_7 S_7 h_7 => ?_)
  obtain ⟨rfl, rfl⟩ := h_7
  refine x_eqi (oI (some k)) (by rw [show (fun i => decide (I2 (ar 5) i = x)) = (fun i => decide (I (ar 5) i = x)) by rw [i2 _ hm5], hnd]) ?_
  refine x_istore_n C (lv' := [_, _, _]) D_X9_remove_0.2.2.2.2.2.2.1 rfl (Nat.le_of_ble_eq_true rfl) (by first | rfl | exact x_ok_q rfl) rfl ?_
  refine x_iload_n C D_X9_remove_0.2.2.2.2.2.2.2.1 rfl rfl ?_
  refine x_iconst C (v := (-1)) D_X9_remove_0.2.2.2.2.2.2.2.2.1 (by decide +kernel) ?_
  refine x_icmp_eq C 25 D_X9_remove_0.2.2.2.2.2.2.2.2.2.1 (by decide) (fun c_13 => ?_) (fun c_13 => ?_)
  · skip
    exact absurd (oI_none c_13 (fun k hk => by cases hk; omega)) (by simp)
    --end
  · skip
    refine x_aload_n C D_X9_remove_0.2.2.2.2.2.2.2.2.2.2.1 rfl rfl (by first | exact Or.inr ⟨_, rfl⟩ | exact va_rf_or _ | exact Or.inl rfl) ?_
    refine x_getQ C (ci := 8) (k0 := 6) (by assumption) (by decide) rfl (by decide) in_X9 k_908 rfl rfl D_X9_remove_0.2.2.2.2.2.2.2.2.2.2.2 ?_
    refine x_eqr (hM.2.1 6 (by decide)).1 ?_
    refine x_iload_n C D_X9_remove_1.1 rfl rfl ?_
    refine x_zald C _ (by first | assumption | exact (hM.2.1 _ (by decide)).2.1) rfl (by first | omega | (rw [hM.nk _ (by decide)]; omega) | (rw [hM.np _ (by decide)]; omega)) (by first | omega | (rw [hM.nk _ (by decide)]; omega) | (rw [hM.np _ (by decide)]; omega)) D_X9_remove_1.2.1 ?_
    refine x_eqi _ (show I2 (ar 6) k = xb false by rw [i2 _ hm6, hk6 k hkn, hal]) ?_
    refine x_if_ne C 27 D_X9_remove_1.2.2.1 (by decide) (fun c_22 => ?_) (fun c_22 => ?_)
    · skip
      exact absurd c_22 (by decide)
    · skip
      first
      | have d_22 := cz_eq c_22 (by omega)
      | have d_22 := cb_eq c_22
      | skip
      refine x_iconst C (v := nI 0) D_X9_remove_1.2.2.2.1 (by decide +kernel) ?_
      refine ret _ _ _ _ _ _ false rfl D_X9_remove_1.2.2.2.2.1 (Nat.le_of_ble_eq_true rfl) (Nat.le_of_ble_eq_true rfl) rfl ?_
      exact ⟨rfl, by rw [eI2]⟩
abbrev rm_X9_removeK : Room := { frames := 7, cells := 0, slots := 0, locals := 161 }
theorem hd_X9_leaves : yX9_leaves.cls ≠ "java/lang/invoke/MethodHandle" ∧ yX9_leaves.cls ≠ "java/lang/invoke/VarHandle" ∧ (parseMethodDescriptor yX9_leaves.desc).map (fun d => d.parameters.length) = some 1 := by decide +kernel
set_option maxHeartbeats 4000000 in
set_option maxRecDepth 100000 in
theorem c_X9_removeK (l : Launch) (G : xG) {K N : Nat → Nat} {I : Nat → Nat → Int32} {Q : Nat → Nat → Option Nat} {J : Nat → Nat → Int64} (m n : Nat) (ar kc sp tu pt : Nat → Nat) (al : Nat → Bool) (x : Int32) (k : Nat) (hM : MZ K N Q m ar) (hK : KV I m ar n kc al sp tu pt) (hnd : lastF (fun i => decide (I (ar 5) i = x)) n = some k) (hal : al k = true) (htb : ∀ i, i < n → tu i < 2 ^ 24) (htk : 0 < tu k) (hBO : balOK n 26 (mvuM n (levM n tu k).1 (levM n tu k).2) ((levM n tu k).2 / 2)) (hcond : n - (cn (x_up al k false) n) ≤ (cn (x_up al k false) n)) : XM l yX9_remove cX9_remove 3 (some .boolean) rm_X9_removeK G Rz [.ref m, .int x] (K, N, I, Q, J) (fun r S1 => r = true ∧ ∃ I1, S1 = (K, N, I1, Q, J) ∧ KV I1 m ar (n) (kc) (x_up al k false) (sp) ((balsM n 26 (mvuM n (levM n tu k).1 (levM n tu k).2) ((levM n tu k).2 / 2)).1) (pt) ∧ KFR I I1 m ar ∧ I1 m 18 = nI 0 ∧ I1 m 3 = I m 3 + nI (balsM n 26 (mvuM n (levM n tu k).1 (levM n tu k).2) ((levM n tu k).2 / 2)).2 ∧ (∀ j, j ≠ 18 → j ≠ 3 → I1 m j = I m j)) := by
  refine x_metz (lv := [_, _, _]) (by decide +kernel) (x_cc (by first | rfl | exact x_crf _) (x_cc (by first | rfl | exact x_crf _) x_cn)) (Nat.le_of_ble_eq_true rfl) rfl ?_
  intro pP eE sS mM aA bB hH cC Z C hini ret
  have hk9 := hM.1
  obtain ⟨hn, hn201, hk5, hk6, hk7, hk8, hk9_⟩ := hK
  have h202 := hM.nk 6 (by decide)
  have n56 := hM.ne 5 6 (by decide)
  have n57 := hM.ne 5 7 (by decide)
  have n58 := hM.ne 5 8 (by decide)
  have n59 := hM.ne 5 9 (by decide)
  have n65 := hM.ne 6 5 (by decide)
  have n67 := hM.ne 6 7 (by decide)
  have n68 := hM.ne 6 8 (by decide)
  have n69 := hM.ne 6 9 (by decide)
  have n75 := hM.ne 7 5 (by decide)
  have n76 := hM.ne 7 6 (by decide)
  have n78 := hM.ne 7 8 (by decide)
  have n79 := hM.ne 7 9 (by decide)
  have n85 := hM.ne 8 5 (by decide)
  have n86 := hM.ne 8 6 (by decide)
  have n87 := hM.ne 8 7 (by decide)
  have n89 := hM.ne 8 9 (by decide)
  have n95 := hM.ne 9 5 (by decide)
  have n96 := hM.ne 9 6 (by decide)
  have n97 := hM.ne 9 7 (by decide)
  have n98 := hM.ne 9 8 (by decide)
  have hm5 := hM.nm 5 (by decide)
  have hm6 := hM.nm 6 (by decide)
  have hm7 := hM.nm 7 (by decide)
  have hm8 := hM.nm 8 (by decide)
  have hm9 := hM.nm 9 (by decide)
  have hkn := (lastF_lt hnd).1
  have hcl := cn_le (x_up al k false) n
  refine x_aload_n C D_X9_remove_0.1 rfl rfl (by first | exact Or.inr ⟨_, rfl⟩ | exact va_rf_or _ | exact Or.inl rfl) ?_
  refine x_iconst C (v := nI 0) D_X9_remove_0.2.1 (by decide +kernel) ?_
  refine x_putI C (ci := 8) (k0 := 18) (by assumption) (by decide) rfl (by decide) in_X9 k_920 rfl tyX9 tyX9_ok nmX9 rfl (by rfl) rfl rfl rfl D_X9_remove_0.2.2.1 (fun I2 eI2 => ?_)
  have i2 : ∀ a, a ≠ m → I2 a = I a := fun a ha => by rw [eI2, x_u2_a _ _ ha]
  have hn1 : I2 m 0 = nI n := by rw [eI2, x_u2_j _ _ (by omega)]; exact hn
  refine x_aload_n C D_X9_remove_0.2.2.2.1 rfl rfl (by first | exact Or.inr ⟨_, rfl⟩ | exact va_rf_or _ | exact Or.inl rfl) ?_
  refine x_iload_n C D_X9_remove_0.2.2.2.2.1 rfl rfl ?_
  refine x_callVi C (y := yX9_nodeOf) (c_X9_nodeOf l G m n ar (x) hM hn1 (by omega)) (ci := 8) hM.1 (by decide) rfl rfl k_970 k_972 k_35 k_67 k_973 hd_X9_nodeOf ⟨(Nat.le_of_ble_eq_true rfl), (Nat.le_of_ble_eq_true rfl)⟩ rfl (by first | exact Nat.le_of_ble_eq_true rfl | simp [x_crf, Value.category]) rfl rfl D_X9_remove_0.2.2.2.2.2.1 ⟨(Nat.le_of_ble_eq_true rfl), (Nat.le_of_ble_eq_true rfl)⟩ (fun r_7 S_7 h_7 => ?_)
  obtain ⟨rfl, rfl⟩ := h_7
  refine x_eqi (oI (some k)) (by rw [show (fun i => decide (I2 (ar 5) i = x)) = (fun i => decide (I (ar 5) i = x)) by rw [i2 _ hm5], hnd]) ?_
  refine x_istore_n C (lv' := [_, _, _]) D_X9_remove_0.2.2.2.2.2.2.1 rfl (Nat.le_of_ble_eq_true rfl) (by first | rfl | exact x_ok_q rfl) rfl ?_
  refine x_iload_n C D_X9_remove_0.2.2.2.2.2.2.2.1 rfl rfl ?_
  refine x_iconst C (v := (-1)) D_X9_remove_0.2.2.2.2.2.2.2.2.1 (by decide +kernel) ?_
  refine x_icmp_eq C 25 D_X9_remove_0.2.2.2.2.2.2.2.2.2.1 (by decide) (fun c_13 => ?_) (fun c_13 => ?_)
  · skip
    exact absurd (oI_none c_13 (fun k hk => by cases hk; omega)) (by simp)
    --end
  · skip
    refine x_aload_n C D_X9_remove_0.2.2.2.2.2.2.2.2.2.2.1 rfl rfl (by first | exact Or.inr ⟨_, rfl⟩ | exact va_rf_or _ | exact Or.inl rfl) ?_
    refine x_getQ C (ci := 8) (k0 := 6) (by assumption) (by decide) rfl (by decide) in_X9 k_908 rfl rfl D_X9_remove_0.2.2.2.2.2.2.2.2.2.2.2 ?_
    refine x_eqr (hM.2.1 6 (by decide)).1 ?_
    refine x_iload_n C D_X9_remove_1.1 rfl rfl ?_
    refine x_zald C _ (by first | assumption | exact (hM.2.1 _ (by decide)).2.1) rfl (by first | omega | (rw [hM.nk _ (by decide)]; omega) | (rw [hM.np _ (by decide)]; omega)) (by first | omega | (rw [hM.nk _ (by decide)]; omega) | (rw [hM.np _ (by decide)]; omega)) D_X9_remove_1.2.1 ?_
    refine x_eqi _ (show I2 (ar 6) k = xb true by rw [i2 _ hm6, hk6 k hkn, hal]) ?_
    refine x_if_ne C 27 D_X9_remove_1.2.2.1 (by decide) (fun c_22 => ?_) (fun c_22 => ?_)
    · skip
      first
      | have d_22 := cz_ne c_22 (by omega)
      | have d_22 := cb_ne c_22
      | skip
      refine x_aload_n C D_X9_remove_1.2.2.2.2.2.1 rfl rfl (by first | exact Or.inr ⟨_, rfl⟩ | exact va_rf_or _ | exact Or.inl rfl) ?_
      refine x_getQ C (ci := 8) (k0 := 6) (by assumption) (by decide) rfl (by decide) in_X9 k_908 rfl rfl D_X9_remove_1.2.2.2.2.2.2.1 ?_
      refine x_eqr (hM.2.1 6 (by decide)).1 ?_
      refine x_iload_n C D_X9_remove_1.2.2.2.2.2.2.2.1 rfl rfl ?_
      refine x_iconst C (v := nI 0) D_X9_remove_1.2.2.2.2.2.2.2.2.1 (by decide +kernel) ?_
      refine x_zast C _ false rfl (by first | assumption | exact (hM.2.1 _ (by decide)).2.1) rfl (by first | omega | (rw [hM.nk _ (by decide)]; omega) | (rw [hM.np _ (by decide)]; omega)) (by first | omega | (rw [hM.nk _ (by decide)]; omega) | (rw [hM.np _ (by decide)]; omega)) D_X9_remove_1.2.2.2.2.2.2.2.2.2.1 (fun I3 eI3 => ?_)
      have i3 : ∀ a, a ≠ m → a ≠ ar 6 → I3 a = I a := fun a h1 h2 => by rw [eI3, x_u2_a _ _ h2, i2 a h1]
      have i3m : ∀ j, j ≠ 18 → I3 m j = I m j := fun j hj => by rw [eI3, x_u2_a _ _ hm6.symm, eI2, x_u2_j _ _ hj]
      have i3n : I3 m 0 = nI n := by rw [i3m 0 (by omega)]; exact hn
      have i36 : ∀ i, i < n → I3 (ar 6) i = xb (x_up al k false i) := fun i hi => by
        rw [eI3]
        by_cases e : i = k
        · subst e; rw [x_u2_s, x_up_s]; rfl
        · rw [x_u2_j _ _ e, x_up_n _ _ e, i2 _ hm6]; exact hk6 i hi
      refine x_aload_n C D_X9_remove_1.2.2.2.2.2.2.2.2.2.2.1 rfl rfl (by first | exact Or.inr ⟨_, rfl⟩ | exact va_rf_or _ | exact Or.inl rfl) ?_
      refine x_iload_n C D_X9_remove_1.2.2.2.2.2.2.2.2.2.2.2 rfl rfl ?_
      refine x_callVv C (y := yX9_leaves) (c_X9_leaves l G m n k ar tu hM i3n (by omega) (fun i hi => ⟨by rw [i3 _ hm8 n86]; exact hk8 i hi, htb i hi⟩) hkn htk hBO) (ci := 8) hM.1 (by decide) rfl rfl k_1050 k_1052 k_49 k_67 k_1053 hd_X9_leaves ⟨(Nat.le_of_ble_eq_true rfl), (Nat.le_of_ble_eq_true rfl)⟩ rfl (by first | exact Nat.le_of_ble_eq_true rfl | simp [x_crf, Value.category]) rfl rfl D_X9_remove_2.1 ⟨(Nat.le_of_ble_eq_true rfl), (Nat.le_of_ble_eq_true rfl)⟩ (fun _ S_36 h_36 => ?_)
      obtain ⟨I4, rfl, f1, f2, f3⟩ := h_36
      have g4 : ∀ a, a ≠ m → a ≠ ar 8 → I4 a = I3 a := fun a h1 h2 => by funext j; exact f3 a j (fun e => h2 e.1) (fun e => h1 e.1)
      have g4m : ∀ j, j ≠ 3 → I4 m j = I3 m j := fun j hj => f3 m j (fun e => hm8 e.1.symm) (fun e => hj e.2)
      have g4n : I4 m 0 = nI n := by rw [g4m 0 (by omega)]; exact i3n
      have hKV : KV I4 m ar n kc (x_up al k false) sp (balsM n 26 (mvuM n (levM n tu k).1 (levM n tu k).2) ((levM n tu k).2 / 2)).1 pt := ⟨g4n, hn201, fun i hi => by rw [g4 _ hm5 n58, i3 _ hm5 n56]; exact hk5 i hi, fun i hi => by rw [g4 _ hm6 n68]; exact i36 i hi, fun i hi => by rw [g4 _ hm7 n78, i3 _ hm7 n76]; exact hk7 i hi, f1, fun i hi => by rw [g4 _ hm9 n98, i3 _ hm9 n96]; exact hk9_ i hi⟩
      have hF4 : KFR I I4 m ar := fun a h1 h5 h6 h7 h8 h9 => by rw [g4 a h1 h8, i3 a h1 h6]
      have h418 : I4 m 18 = nI 0 := by rw [g4m 18 (by omega), eI3, x_u2_a _ _ hm6.symm, eI2, x_u2_s]
      have h43 : I4 m 3 = I m 3 + nI (balsM n 26 (mvuM n (levM n tu k).1 (levM n tu k).2) ((levM n tu k).2 / 2)).2 := by rw [f2, i3m 3 (by omega)]
      have h4o : ∀ j, j ≠ 18 → j ≠ 3 → I4 m j = I m j := fun j h1 h2 => by rw [g4m j h2, i3m j h1]
      refine x_aload_n C D_X9_remove_2.2.1 rfl rfl (by first | exact Or.inr ⟨_, rfl⟩ | exact va_rf_or _ | exact Or.inl rfl) ?_
      refine x_getI C (ci := 8) (k0 := 0) (by assumption) (by decide) rfl (by decide) in_X9 k_902 rfl rfl D_X9_remove_2.2.2.1 ?_
      refine x_eqi _ g4n ?_
      refine x_aload_n C D_X9_remove_2.2.2.2.1 rfl rfl (by first | exact Or.inr ⟨_, rfl⟩ | exact va_rf_or _ | exact Or.inl rfl) ?_
      refine x_callVi C (y := yX9_living) (c_X9_living l G m n ar (x_up al k false) hM g4n (by omega) hKV.2.2.2.1) (ci := 8) hM.1 (by decide) rfl rfl k_974 k_976 k_36 k_67 k_977 hd_X9_living ⟨(Nat.le_of_ble_eq_true rfl), (Nat.le_of_ble_eq_true rfl)⟩ rfl (by first | exact Nat.le_of_ble_eq_true rfl | simp [x_crf, Value.category]) rfl rfl D_X9_remove_2.2.2.2.2.1 ⟨(Nat.le_of_ble_eq_true rfl), (Nat.le_of_ble_eq_true rfl)⟩ (fun r_44 S_44 h_44 => ?_)
      obtain ⟨rfl, rfl⟩ := h_44
      refine x_isub C D_X9_remove_2.2.2.2.2.2.1 ?_
      first
      | refine x_eqi _ (pk_sub (by omega)) ?_
      | skip
      refine x_aload_n C D_X9_remove_2.2.2.2.2.2.2.1 rfl rfl (by first | exact Or.inr ⟨_, rfl⟩ | exact va_rf_or _ | exact Or.inl rfl) ?_
      refine x_callVi C (y := yX9_living) (c_X9_living l G m n ar (x_up al k false) hM g4n (by omega) hKV.2.2.2.1) (ci := 8) hM.1 (by decide) rfl rfl k_974 k_976 k_36 k_67 k_977 hd_X9_living ⟨(Nat.le_of_ble_eq_true rfl), (Nat.le_of_ble_eq_true rfl)⟩ rfl (by first | exact Nat.le_of_ble_eq_true rfl | simp [x_crf, Value.category]) rfl rfl D_X9_remove_2.2.2.2.2.2.2.2.1 ⟨(Nat.le_of_ble_eq_true rfl), (Nat.le_of_ble_eq_true rfl)⟩ (fun r_49 S_49 h_49 => ?_)
      obtain ⟨rfl, rfl⟩ := h_49
      refine x_icmp_le C 59 D_X9_remove_2.2.2.2.2.2.2.2.2.1 (by decide) (fun c_52 => ?_) (fun c_52 => ?_)
      · skip
        first
        | have d_52 := cv_le c_52 (by omega) (by omega)
        | skip
        refine x_iconst C (v := nI 1) D_X9_remove_2.2.2.2.2.2.2.2.2.2.2.2 (by decide +kernel) ?_
        refine ret _ _ _ _ _ _ true rfl D_X9_remove_3 (Nat.le_of_ble_eq_true rfl) (Nat.le_of_ble_eq_true rfl) rfl ?_
        exact ⟨rfl, I4, rfl, hKV, hF4, h418, h43, h4o⟩
      · skip
        first
        | have d_52 := cv_nle c_52 (by omega) (by omega)
        | skip
        exfalso; omega
        --end
    · skip
      exact absurd c_22 (by decide)
abbrev rm_X9_removeD : Room := { frames := 7, cells := 0, slots := 0, locals := 161 }
theorem hd_X9_drop : yX9_drop.cls ≠ "java/lang/invoke/MethodHandle" ∧ yX9_drop.cls ≠ "java/lang/invoke/VarHandle" ∧ (parseMethodDescriptor yX9_drop.desc).map (fun d => d.parameters.length) = some 0 := by decide +kernel
set_option maxHeartbeats 4000000 in
set_option maxRecDepth 100000 in
theorem c_X9_removeD (l : Launch) (G : xG) {K N : Nat → Nat} {I : Nat → Nat → Int32} {Q : Nat → Nat → Option Nat} {J : Nat → Nat → Int64} (m n : Nat) (ar kc sp tu pt : Nat → Nat) (al : Nat → Bool) (x : Int32) (k : Nat) (hM : MZ K N Q m ar) (hK : KV I m ar n kc al sp tu pt) (hnd : lastF (fun i => decide (I (ar 5) i = x)) n = some k) (hal : al k = true) (htb : ∀ i, i < n → tu i < 2 ^ 24) (htk : 0 < tu k) (hBO : balOK n 26 (mvuM n (levM n tu k).1 (levM n tu k).2) ((levM n tu k).2 / 2)) (hcond : (cn (x_up al k false) n) < n - (cn (x_up al k false) n)) : XM l yX9_remove cX9_remove 3 (some .boolean) rm_X9_removeD G Rz [.ref m, .int x] (K, N, I, Q, J) (fun r S1 => r = true ∧ ∃ I1, S1 = (K, N, I1, Q, J) ∧ KV I1 m ar ((cn (x_up al k false) n)) ((fun j => kc (selF (x_up al k false) n j))) (fun _ => true) (fun j => layA 8 j 0 (cn (x_up al k false) n) 1) ((fun j => (balsM n 26 (mvuM n (levM n tu k).1 (levM n tu k).2) ((levM n tu k).2 / 2)).1 (selF (x_up al k false) n j))) (fun j => (dls (cn (x_up al k false) n) 8).getD j 0) ∧ KFR I I1 m ar ∧ I1 m 18 = nI 0 ∧ I1 m 3 = I m 3 + nI (balsM n 26 (mvuM n (levM n tu k).1 (levM n tu k).2) ((levM n tu k).2 / 2)).2 ∧ I1 m 1 = I m 1 + nI 1 ∧ (∀ j, j ≠ 18 → j ≠ 3 → j ≠ 0 → j ≠ 1 → I1 m j = I m j)) := by
  refine x_metz (lv := [_, _, _]) (by decide +kernel) (x_cc (by first | rfl | exact x_crf _) (x_cc (by first | rfl | exact x_crf _) x_cn)) (Nat.le_of_ble_eq_true rfl) rfl ?_
  intro pP eE sS mM aA bB hH cC Z C hini ret
  have hk9 := hM.1
  obtain ⟨hn, hn201, hk5, hk6, hk7, hk8, hk9_⟩ := hK
  have h202 := hM.nk 6 (by decide)
  have n56 := hM.ne 5 6 (by decide)
  have n57 := hM.ne 5 7 (by decide)
  have n58 := hM.ne 5 8 (by decide)
  have n59 := hM.ne 5 9 (by decide)
  have n65 := hM.ne 6 5 (by decide)
  have n67 := hM.ne 6 7 (by decide)
  have n68 := hM.ne 6 8 (by decide)
  have n69 := hM.ne 6 9 (by decide)
  have n75 := hM.ne 7 5 (by decide)
  have n76 := hM.ne 7 6 (by decide)
  have n78 := hM.ne 7 8 (by decide)
  have n79 := hM.ne 7 9 (by decide)
  have n85 := hM.ne 8 5 (by decide)
  have n86 := hM.ne 8 6 (by decide)
  have n87 := hM.ne 8 7 (by decide)
  have n89 := hM.ne 8 9 (by decide)
  have n95 := hM.ne 9 5 (by decide)
  have n96 := hM.ne 9 6 (by decide)
  have n97 := hM.ne 9 7 (by decide)
  have n98 := hM.ne 9 8 (by decide)
  have hm5 := hM.nm 5 (by decide)
  have hm6 := hM.nm 6 (by decide)
  have hm7 := hM.nm 7 (by decide)
  have hm8 := hM.nm 8 (by decide)
  have hm9 := hM.nm 9 (by decide)
  have hkn := (lastF_lt hnd).1
  have hcl := cn_le (x_up al k false) n
  refine x_aload_n C D_X9_remove_0.1 rfl rfl (by first | exact Or.inr ⟨_, rfl⟩ | exact va_rf_or _ | exact Or.inl rfl) ?_
  refine x_iconst C (v := nI 0) D_X9_remove_0.2.1 (by decide +kernel) ?_
  refine x_putI C (ci := 8) (k0 := 18) (by assumption) (by decide) rfl (by decide) in_X9 k_920 rfl tyX9 tyX9_ok nmX9 rfl (by rfl) rfl rfl rfl D_X9_remove_0.2.2.1 (fun I2 eI2 => ?_)
  have i2 : ∀ a, a ≠ m → I2 a = I a := fun a ha => by rw [eI2, x_u2_a _ _ ha]
  have hn1 : I2 m 0 = nI n := by rw [eI2, x_u2_j _ _ (by omega)]; exact hn
  refine x_aload_n C D_X9_remove_0.2.2.2.1 rfl rfl (by first | exact Or.inr ⟨_, rfl⟩ | exact va_rf_or _ | exact Or.inl rfl) ?_
  refine x_iload_n C D_X9_remove_0.2.2.2.2.1 rfl rfl ?_
  refine x_callVi C (y := yX9_nodeOf) (c_X9_nodeOf l G m n ar (x) hM hn1 (by omega)) (ci := 8) hM.1 (by decide) rfl rfl k_970 k_972 k_35 k_67 k_973 hd_X9_nodeOf ⟨(Nat.le_of_ble_eq_true rfl), (Nat.le_of_ble_eq_true rfl)⟩ rfl (by first | exact Nat.le_of_ble_eq_true rfl | simp [x_crf, Value.category]) rfl rfl D_X9_remove_0.2.2.2.2.2.1 ⟨(Nat.le_of_ble_eq_true rfl), (Nat.le_of_ble_eq_true rfl)⟩ (fun r_7 S_7 h_7 => ?_)
  obtain ⟨rfl, rfl⟩ := h_7
  refine x_eqi (oI (some k)) (by rw [show (fun i => decide (I2 (ar 5) i = x)) = (fun i => decide (I (ar 5) i = x)) by rw [i2 _ hm5], hnd]) ?_
  refine x_istore_n C (lv' := [_, _, _]) D_X9_remove_0.2.2.2.2.2.2.1 rfl (Nat.le_of_ble_eq_true rfl) (by first | rfl | exact x_ok_q rfl) rfl ?_
  refine x_iload_n C D_X9_remove_0.2.2.2.2.2.2.2.1 rfl rfl ?_
  refine x_iconst C (v := (-1)) D_X9_remove_0.2.2.2.2.2.2.2.2.1 (by decide +kernel) ?_
  refine x_icmp_eq C 25 D_X9_remove_0.2.2.2.2.2.2.2.2.2.1 (by decide) (fun c_13 => ?_) (fun c_13 => ?_)
  · skip
    exact absurd (oI_none c_13 (fun k hk => by cases hk; omega)) (by simp)
    --end
  · skip
    refine x_aload_n C D_X9_remove_0.2.2.2.2.2.2.2.2.2.2.1 rfl rfl (by first | exact Or.inr ⟨_, rfl⟩ | exact va_rf_or _ | exact Or.inl rfl) ?_
    refine x_getQ C (ci := 8) (k0 := 6) (by assumption) (by decide) rfl (by decide) in_X9 k_908 rfl rfl D_X9_remove_0.2.2.2.2.2.2.2.2.2.2.2 ?_
    refine x_eqr (hM.2.1 6 (by decide)).1 ?_
    refine x_iload_n C D_X9_remove_1.1 rfl rfl ?_
    refine x_zald C _ (by first | assumption | exact (hM.2.1 _ (by decide)).2.1) rfl (by first | omega | (rw [hM.nk _ (by decide)]; omega) | (rw [hM.np _ (by decide)]; omega)) (by first | omega | (rw [hM.nk _ (by decide)]; omega) | (rw [hM.np _ (by decide)]; omega)) D_X9_remove_1.2.1 ?_
    refine x_eqi _ (show I2 (ar 6) k = xb true by rw [i2 _ hm6, hk6 k hkn, hal]) ?_
    refine x_if_ne C 27 D_X9_remove_1.2.2.1 (by decide) (fun c_22 => ?_) (fun c_22 => ?_)
    · skip
      first
      | have d_22 := cz_ne c_22 (by omega)
      | have d_22 := cb_ne c_22
      | skip
      refine x_aload_n C D_X9_remove_1.2.2.2.2.2.1 rfl rfl (by first | exact Or.inr ⟨_, rfl⟩ | exact va_rf_or _ | exact Or.inl rfl) ?_
      refine x_getQ C (ci := 8) (k0 := 6) (by assumption) (by decide) rfl (by decide) in_X9 k_908 rfl rfl D_X9_remove_1.2.2.2.2.2.2.1 ?_
      refine x_eqr (hM.2.1 6 (by decide)).1 ?_
      refine x_iload_n C D_X9_remove_1.2.2.2.2.2.2.2.1 rfl rfl ?_
      refine x_iconst C (v := nI 0) D_X9_remove_1.2.2.2.2.2.2.2.2.1 (by decide +kernel) ?_
      refine x_zast C _ false rfl (by first | assumption | exact (hM.2.1 _ (by decide)).2.1) rfl (by first | omega | (rw [hM.nk _ (by decide)]; omega) | (rw [hM.np _ (by decide)]; omega)) (by first | omega | (rw [hM.nk _ (by decide)]; omega) | (rw [hM.np _ (by decide)]; omega)) D_X9_remove_1.2.2.2.2.2.2.2.2.2.1 (fun I3 eI3 => ?_)
      have i3 : ∀ a, a ≠ m → a ≠ ar 6 → I3 a = I a := fun a h1 h2 => by rw [eI3, x_u2_a _ _ h2, i2 a h1]
      have i3m : ∀ j, j ≠ 18 → I3 m j = I m j := fun j hj => by rw [eI3, x_u2_a _ _ hm6.symm, eI2, x_u2_j _ _ hj]
      have i3n : I3 m 0 = nI n := by rw [i3m 0 (by omega)]; exact hn
      have i36 : ∀ i, i < n → I3 (ar 6) i = xb (x_up al k false i) := fun i hi => by
        rw [eI3]
        by_cases e : i = k
        · subst e; rw [x_u2_s, x_up_s]; rfl
        · rw [x_u2_j _ _ e, x_up_n _ _ e, i2 _ hm6]; exact hk6 i hi
      refine x_aload_n C D_X9_remove_1.2.2.2.2.2.2.2.2.2.2.1 rfl rfl (by first | exact Or.inr ⟨_, rfl⟩ | exact va_rf_or _ | exact Or.inl rfl) ?_
      refine x_iload_n C D_X9_remove_1.2.2.2.2.2.2.2.2.2.2.2 rfl rfl ?_
      refine x_callVv C (y := yX9_leaves) (c_X9_leaves l G m n k ar tu hM i3n (by omega) (fun i hi => ⟨by rw [i3 _ hm8 n86]; exact hk8 i hi, htb i hi⟩) hkn htk hBO) (ci := 8) hM.1 (by decide) rfl rfl k_1050 k_1052 k_49 k_67 k_1053 hd_X9_leaves ⟨(Nat.le_of_ble_eq_true rfl), (Nat.le_of_ble_eq_true rfl)⟩ rfl (by first | exact Nat.le_of_ble_eq_true rfl | simp [x_crf, Value.category]) rfl rfl D_X9_remove_2.1 ⟨(Nat.le_of_ble_eq_true rfl), (Nat.le_of_ble_eq_true rfl)⟩ (fun _ S_36 h_36 => ?_)
      obtain ⟨I4, rfl, f1, f2, f3⟩ := h_36
      have g4 : ∀ a, a ≠ m → a ≠ ar 8 → I4 a = I3 a := fun a h1 h2 => by funext j; exact f3 a j (fun e => h2 e.1) (fun e => h1 e.1)
      have g4m : ∀ j, j ≠ 3 → I4 m j = I3 m j := fun j hj => f3 m j (fun e => hm8 e.1.symm) (fun e => hj e.2)
      have g4n : I4 m 0 = nI n := by rw [g4m 0 (by omega)]; exact i3n
      have hKV : KV I4 m ar n kc (x_up al k false) sp (balsM n 26 (mvuM n (levM n tu k).1 (levM n tu k).2) ((levM n tu k).2 / 2)).1 pt := ⟨g4n, hn201, fun i hi => by rw [g4 _ hm5 n58, i3 _ hm5 n56]; exact hk5 i hi, fun i hi => by rw [g4 _ hm6 n68]; exact i36 i hi, fun i hi => by rw [g4 _ hm7 n78, i3 _ hm7 n76]; exact hk7 i hi, f1, fun i hi => by rw [g4 _ hm9 n98, i3 _ hm9 n96]; exact hk9_ i hi⟩
      have hF4 : KFR I I4 m ar := fun a h1 h5 h6 h7 h8 h9 => by rw [g4 a h1 h8, i3 a h1 h6]
      have h418 : I4 m 18 = nI 0 := by rw [g4m 18 (by omega), eI3, x_u2_a _ _ hm6.symm, eI2, x_u2_s]
      have h43 : I4 m 3 = I m 3 + nI (balsM n 26 (mvuM n (levM n tu k).1 (levM n tu k).2) ((levM n tu k).2 / 2)).2 := by rw [f2, i3m 3 (by omega)]
      have h4o : ∀ j, j ≠ 18 → j ≠ 3 → I4 m j = I m j := fun j h1 h2 => by rw [g4m j h2, i3m j h1]
      refine x_aload_n C D_X9_remove_2.2.1 rfl rfl (by first | exact Or.inr ⟨_, rfl⟩ | exact va_rf_or _ | exact Or.inl rfl) ?_
      refine x_getI C (ci := 8) (k0 := 0) (by assumption) (by decide) rfl (by decide) in_X9 k_902 rfl rfl D_X9_remove_2.2.2.1 ?_
      refine x_eqi _ g4n ?_
      refine x_aload_n C D_X9_remove_2.2.2.2.1 rfl rfl (by first | exact Or.inr ⟨_, rfl⟩ | exact va_rf_or _ | exact Or.inl rfl) ?_
      refine x_callVi C (y := yX9_living) (c_X9_living l G m n ar (x_up al k false) hM g4n (by omega) hKV.2.2.2.1) (ci := 8) hM.1 (by decide) rfl rfl k_974 k_976 k_36 k_67 k_977 hd_X9_living ⟨(Nat.le_of_ble_eq_true rfl), (Nat.le_of_ble_eq_true rfl)⟩ rfl (by first | exact Nat.le_of_ble_eq_true rfl | simp [x_crf, Value.category]) rfl rfl D_X9_remove_2.2.2.2.2.1 ⟨(Nat.le_of_ble_eq_true rfl), (Nat.le_of_ble_eq_true rfl)⟩ (fun r_44 S_44 h_44 => ?_)
      obtain ⟨rfl, rfl⟩ := h_44
      refine x_isub C D_X9_remove_2.2.2.2.2.2.1 ?_
      first
      | refine x_eqi _ (pk_sub (by omega)) ?_
      | skip
      refine x_aload_n C D_X9_remove_2.2.2.2.2.2.2.1 rfl rfl (by first | exact Or.inr ⟨_, rfl⟩ | exact va_rf_or _ | exact Or.inl rfl) ?_
      refine x_callVi C (y := yX9_living) (c_X9_living l G m n ar (x_up al k false) hM g4n (by omega) hKV.2.2.2.1) (ci := 8) hM.1 (by decide) rfl rfl k_974 k_976 k_36 k_67 k_977 hd_X9_living ⟨(Nat.le_of_ble_eq_true rfl), (Nat.le_of_ble_eq_true rfl)⟩ rfl (by first | exact Nat.le_of_ble_eq_true rfl | simp [x_crf, Value.category]) rfl rfl D_X9_remove_2.2.2.2.2.2.2.2.1 ⟨(Nat.le_of_ble_eq_true rfl), (Nat.le_of_ble_eq_true rfl)⟩ (fun r_49 S_49 h_49 => ?_)
      obtain ⟨rfl, rfl⟩ := h_49
      refine x_icmp_le C 59 D_X9_remove_2.2.2.2.2.2.2.2.2.1 (by decide) (fun c_52 => ?_) (fun c_52 => ?_)
      · skip
        first
        | have d_52 := cv_le c_52 (by omega) (by omega)
        | skip
        exfalso; omega
        --end
      · skip
        first
        | have d_52 := cv_nle c_52 (by omega) (by omega)
        | skip
        refine x_aload_n C D_X9_remove_2.2.2.2.2.2.2.2.2.2.1 rfl rfl (by first | exact Or.inr ⟨_, rfl⟩ | exact va_rf_or _ | exact Or.inl rfl) ?_
        refine x_callVv C (y := yX9_drop) (c_X9_drop l G m n ar kc sp (balsM n 26 (mvuM n (levM n tu k).1 (levM n tu k).2) ((levM n tu k).2 / 2)).1 pt (x_up al k false) hM hKV) (ci := 8) hM.1 (by decide) rfl rfl k_1054 k_1056 k_50 k_67 k_1057 hd_X9_drop ⟨(Nat.le_of_ble_eq_true rfl), (Nat.le_of_ble_eq_true rfl)⟩ rfl (by first | exact Nat.le_of_ble_eq_true rfl | simp [x_crf, Value.category]) rfl rfl D_X9_remove_2.2.2.2.2.2.2.2.2.2.2.1 ⟨(Nat.le_of_ble_eq_true rfl), (Nat.le_of_ble_eq_true rfl)⟩ (fun _ S_56 h_56 => ?_)
        obtain ⟨I5, rfl, e1, e2, e3, e4⟩ := h_56
        refine x_iconst C (v := nI 1) D_X9_remove_2.2.2.2.2.2.2.2.2.2.2.2 (by decide +kernel) ?_
        refine ret _ _ _ _ _ _ true rfl D_X9_remove_3 (Nat.le_of_ble_eq_true rfl) (Nat.le_of_ble_eq_true rfl) rfl ?_
        refine ⟨rfl, I5, rfl, e1, fun a h1 h5 h6 h7 h8 h9 => by rw [e2 a h1 h5 h6 h7 h8 h9, hF4 a h1 h5 h6 h7 h8 h9], ?_, ?_, ?_, fun j h1 h2 h3 h4 => ?_⟩
        · rw [e4 18 (by omega) (by omega)]; exact h418
        · rw [e4 3 (by omega) (by omega)]; exact h43
        · rw [e3, h4o 1 (by omega) (by omega)]
        · rw [e4 j h3 h4]; exact h4o j h1 h2
    · skip
      exact absurd c_22 (by decide)
