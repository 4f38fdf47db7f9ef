theorem lz_ni {s : State} {args : Array Value} {C : String} {x y : MethodName} (h : (Cond.selects C x y).before args s = true) : ∃ (c : ClassId) (k : Class), s.vm.findClass y.cls = some c ∧ s.vm.classes[c]? = some k ∧ k.isInterface = false := by
  obtain ⟨c, r, m, h1, h2, h3, h4, mk, h5, h6⟩ := Cond.selects_spec h
  exact ⟨m.cls, mk, findClass_of_methodNamed h3, h5, h6⟩
theorem lz_same {s : State} {args : Array Value} {y : MethodName} {c : ClassId} {k : Class} (hy : y.cls ≠ "java/lang/invoke/MethodHandle" ∧ y.cls ≠ "java/lang/invoke/VarHandle") (hinst : (Cond.instanceMethod y).before args s = true) (hc : s.vm.findClass y.cls = some c) (hk : s.vm.classes[c]? = some k) (hni : k.isInterface = false) : (Cond.sameMethod y.cls y.cls y.name y.desc).before args s = true := by
  obtain ⟨mk, methM, hnamed, hmethM, -, -⟩ := Cond.instanceMethod_spec hinst
  have hfound : s.methodFound? y.cls y.name y.desc = some mk := State.methodFound?_of_named hnamed hy
  have hn2 : s.methodNamed? ⟨y.cls, y.name, y.desc⟩ = some mk := hnamed
  simp only [Cond.before, Cond.holds, Cond.value, hc, hfound, hn2, hk]
  simp
  exact hni
theorem lz_sel {s : State} {args : Array Value} {y : MethodName} {C : String} {n : Nat} {c : ClassId} {k : Class} (hy : y.cls ≠ "java/lang/invoke/MethodHandle" ∧ y.cls ≠ "java/lang/invoke/VarHandle") (hins : (Cond.instantiable C n).before args s = true) (hpriv : (Cond.privateMethod y).before args s = true) (hinst : (Cond.instanceMethod y).before args s = true) (hc : s.vm.findClass y.cls = some c) (hk : s.vm.classes[c]? = some k) (hni : k.isInterface = false) : (Cond.selects C y y).before args s = true := by
  obtain ⟨c0, k0, hc0, hk0, -⟩ := Cond.instantiable_spec hins
  obtain ⟨mk, methM, hnamed, hmethM, -, -⟩ := Cond.instanceMethod_spec hinst
  have hfound : s.methodFound? y.cls y.name y.desc = some mk := State.methodFound?_of_named hnamed hy
  have hcls : mk.cls = c := Option.some.inj ((findClass_of_methodNamed hnamed).symm.trans hc)
  have hsel : selectMethod {} s.vm c0 mk = .method mk := selectMethod_private hmethM (Cond.privateMethod_at hpriv mk methM hnamed hmethM)
  simp only [Cond.before, Cond.holds, Cond.value, hc0, hfound, hnamed, hsel, hcls, hk]
  simp
  exact hni
theorem str_ok {s : State} {args : Array Value} {own tx nm : String} {k : Nat} (h1 : (Cond.stringRef own k tx).before args s = true) (h2 : (Cond.exactly (.string own k) nm).before args s = true) : ∃ a, vk_R own k tx a s := by
  obtain ⟨a, c, cell, kk, q1, -⟩ := Cond.exactly_spec h2
  exact ⟨a, vk_R.of h1 q1⟩
/-- the words that follow from the tables -/
theorem xtra_ok {s : State} {args : Array Value} (hts : ∀ w ∈ lw_tbl, w.before args s = true) : ∀ w ∈ x_xtra, w.before args s = true := by
  obtain ⟨c, k, hc, hk, hni⟩ := lz_ni (hts (.selects "ScapegoatSpur$KeyTree" ⟨"ScapegoatSpur$LazyTree", "nodeCount", "()I"⟩ ⟨"ScapegoatSpur$LazyTree", "nodeCount", "()I"⟩) (by decide +kernel))
  have hc : s.vm.findClass "ScapegoatSpur$LazyTree" = some c := hc
  have i1 := hts (.instantiable "ScapegoatSpur$KeyTree" 6) (by decide +kernel)
  have i5 := hts (.instantiable "ScapegoatSpur$PointTree" 6) (by decide +kernel)
  have hy0 : "ScapegoatSpur$LazyTree" ≠ "java/lang/invoke/MethodHandle" ∧ "ScapegoatSpur$LazyTree" ≠ "java/lang/invoke/VarHandle" := ⟨by decide, by decide⟩
  have key : ∀ n d : String, Cond.privateMethod ⟨"ScapegoatSpur$LazyTree", n, d⟩ ∈ lw_tbl → Cond.instanceMethod ⟨"ScapegoatSpur$LazyTree", n, d⟩ ∈ lw_tbl → (Cond.sameMethod "ScapegoatSpur$LazyTree" "ScapegoatSpur$LazyTree" n d).before args s = true ∧ (Cond.selects "ScapegoatSpur$KeyTree" ⟨"ScapegoatSpur$LazyTree", n, d⟩ ⟨"ScapegoatSpur$LazyTree", n, d⟩).before args s = true ∧ (Cond.selects "ScapegoatSpur$PointTree" ⟨"ScapegoatSpur$LazyTree", n, d⟩ ⟨"ScapegoatSpur$LazyTree", n, d⟩).before args s = true := fun n d h1 h2 =>
    ⟨lz_same (y := ⟨"ScapegoatSpur$LazyTree", n, d⟩) hy0 (hts _ h2) hc hk hni, lz_sel (y := ⟨"ScapegoatSpur$LazyTree", n, d⟩) hy0 i1 (hts _ h1) (hts _ h2) hc hk hni, lz_sel (y := ⟨"ScapegoatSpur$LazyTree", n, d⟩) hy0 i5 (hts _ h1) (hts _ h2) hc hk hni⟩
  have a0 := key "belongsLeft" "(ILScapegoatSpur$Node;I)Z" (by decide +kernel) (by decide +kernel)
  have a1 := key "addLeaf" "(I)V" (by decide +kernel) (by decide +kernel)
  have a2 := key "rebuild" "(I)V" (by decide +kernel) (by decide +kernel)
  have a3 := key "dropDead" "()V" (by decide +kernel) (by decide +kernel)
  have a4 := key "gather" "(LScapegoatSpur$Node;Z)V" (by decide +kernel) (by decide +kernel)
  have a5 := key "sortRow" "(III)V" (by decide +kernel) (by decide +kernel)
  have a6 := key "sinkInRow" "(III)V" (by decide +kernel) (by decide +kernel)
  intro w hw
  simp only [x_xtra, List.mem_cons, List.not_mem_nil, or_false] at hw
  rcases hw with rfl | rfl | rfl | rfl | rfl | rfl | rfl | rfl | rfl | rfl | rfl | rfl | rfl | rfl | rfl | rfl | rfl | rfl | rfl | rfl | rfl
  · exact a0.1
  · exact a0.2.1
  · exact a0.2.2
  · exact a1.1
  · exact a1.2.1
  · exact a1.2.2
  · exact a2.1
  · exact a2.2.1
  · exact a2.2.2
  · exact a3.1
  · exact a3.2.1
  · exact a3.2.2
  · exact a4.1
  · exact a4.2.1
  · exact a4.2.2
  · exact a5.1
  · exact a5.2.1
  · exact a5.2.2
  · exact a6.1
  · exact a6.2.1
  · exact a6.2.2
set_option maxRecDepth 100000 in
/-- the classes and array classes as the tables have them -/
theorem gk_ok {s : State} {args : Array Value} (hts : ∀ w ∈ lw_tbl, w.before args s = true) (hall : ∀ w ∈ ALL, w.before args s = true) : ∃ G : xG, G.2.2 = s.heap.size ∧ gK G s := by
  obtain ⟨c0, s0, h0⟩ := u_known (C := RX0) (T := TX0) (N := 4) (n := 4) hall in_X0 (hall _ k_673)
  obtain ⟨c1, s1, h1⟩ := u_known (C := RX1) (T := TX1) (N := 6) (n := 6) hall in_X1 (hall _ k_87)
  obtain ⟨c2, s2, h2⟩ := u_known (C := RX3) (T := TX3) (N := 5) (n := 5) hall in_X3 (hall _ k_603)
  obtain ⟨c3, s3, h3⟩ := u_known (C := RX4) (T := TX4) (N := 2) (n := 2) hall in_X4 (hall _ k_96)
  obtain ⟨c4, s4, h4⟩ := u_known (C := RX5) (T := TX5) (N := 6) (n := 6) hall in_X5 (hall _ k_167)
  obtain ⟨c5, s5, h5⟩ := u_known (C := RX6) (T := TX6) (N := 4) (n := 4) hall in_X6 (hall _ k_148)
  obtain ⟨c6, s6, h6⟩ := u_known (C := RX7) (T := TX7) (N := 3) (n := 3) hall in_X7 (hall _ k_130)
  obtain ⟨c7, s7, h7⟩ := u_known (C := RX8) (T := TX8) (N := 4) (n := 4) hall in_X8 (hall _ k_79)
  obtain ⟨c8, s8, h8⟩ := u_known (C := RX9) (T := TX9) (N := 19) (n := 19) hall in_X9 (hall _ k_897)
  obtain ⟨a1, k1, p1, f1, g1, e1⟩ := Cond.arrayClass_spec (hall _ k_960)
  obtain ⟨a2, k2, p2, f2, g2, e2⟩ := Cond.arrayClass_spec (hall _ k_961)
  obtain ⟨a4, k4, p4, f4, g4, e4⟩ := Cond.arrayClass_spec (hall _ k_1209)
  have hao := hts (.arrayOver (.object "ScapegoatSpur$Node")) (by decide +kernel)
  obtain ⟨p3, a3, k3, q1, q2, g3, e3, f3⟩ := Cond.arrayOver_spec hao
  refine ⟨((fun k => match k with | 0 => c0 | 1 => c1 | 2 => c2 | 3 => c3 | 4 => c4 | 5 => c5 | 6 => c6 | 7 => c7 | _ => c8, fun k => match k with | 0 => s0 | 1 => s1 | 2 => s2 | 3 => s3 | 4 => s4 | 5 => s5 | 6 => s6 | 7 => s7 | _ => s8), (fun k => match k with | 21 => a1 | 22 => a2 | 23 => a3 | _ => a4), s.heap.size), rfl, ⟨fun k q hq => ?_, fun k q hq => ?_⟩, va_Nw.of rfl (hts _ (by decide +kernel)), va_Nw.of rfl (hts _ (by decide +kernel)), va_AO.of hao, va_Nw.of rfl (hts _ (by decide +kernel)), va_Nw.of rfl (hts _ (by decide +kernel))⟩
  · match k, hq with
    | 0, hq => cases hq; exact h0
    | 1, hq => cases hq; exact h1
    | 2, hq => cases hq; exact h2
    | 3, hq => cases hq; exact h3
    | 4, hq => cases hq; exact h4
    | 5, hq => cases hq; exact h5
    | 6, hq => cases hq; exact h6
    | 7, hq => cases hq; exact h7
    | 8, hq => cases hq; exact h8
    | k + 9, hq => simp [vwCl] at hq
  · match k, hq with
    | 0, hq => cases hq; exact ⟨fun n z => ⟨fun k h => (by cases h), k1, g1, p1, e1⟩, f1⟩
    | 1, hq => cases hq; exact ⟨fun n z => ⟨fun k h => (by cases h), k2, g2, p2, e2⟩, f2⟩
    | 2, hq => cases hq; exact ⟨fun n z => ⟨fun k h => (by cases h), k3, g3, p3, e3⟩, k3, p3, g3, e3, q1, f3⟩
    | 3, hq => cases hq; exact ⟨fun n z => ⟨fun k h => (by cases h), k4, g4, p4, e4⟩, f4⟩
    | k + 4, hq => simp [x_tys] at hq
set_option maxRecDepth 100000 in
/-- what a throw needs -/
theorem gx_ok {s : State} {args : Array Value} {G : xG} (hG : G.2.2 = s.heap.size) (hts : ∀ w ∈ lw_tbl, w.before args s = true) (hgv : (Jvm.Cond.and given_1 narrow_1).before args s = true) : gX G s s.heap := by
  have hs := flat_of_before _ hgv
  have hA : ∀ a : Nat, a < s.heap.size → ¬ gA G a := fun a h => by
    show ¬ G.2.2 ≤ a
    omega
  have st := hts (.initialized Bundle.tN) (by decide +kernel)
  refine ⟨vx_Zqof (hts _ (by decide +kernel)) st (hs _ (by decide +kernel)) hA, vx_Zqof (hts _ (by decide +kernel)) st (hs _ (by decide +kernel)) hA, fun x hx => ?_, fun w hw => ?_, va_Nc.of (args := args) (hs _ (by decide +kernel)), va_Nc.of (args := args) (hs _ (by decide +kernel)), va_Nc.of (args := args) (hs _ (by decide +kernel))⟩
  · simp only [thS, List.mem_cons, List.not_mem_nil, or_false] at hx
    rcases hx with rfl | rfl | rfl | rfl | rfl | rfl | rfl | rfl | rfl | rfl | rfl | rfl | rfl | rfl
    · exact str_ok (hts (.stringRef RX8 39 "key is out of range") (by decide +kernel)) (hs (.exactly (.string RX8 39) "java/lang/String") (by decide +kernel))
    · exact str_ok (hts (.stringRef RX8 54 "there is no room for one more key") (by decide +kernel)) (hs (.exactly (.string RX8 54) "java/lang/String") (by decide +kernel))
    · exact str_ok (hts (.stringRef RX8 82 "no key has this rank") (by decide +kernel)) (hs (.exactly (.string RX8 82) "java/lang/String") (by decide +kernel))
    · exact str_ok (hts (.stringRef RX8 105 "no node has this key") (by decide +kernel)) (hs (.exactly (.string RX8 105) "java/lang/String") (by decide +kernel))
    · exact str_ok (hts (.stringRef RX8 127 "the key is not there") (by decide +kernel)) (hs (.exactly (.string RX8 127) "java/lang/String") (by decide +kernel))
    · exact str_ok (hts (.stringRef RX8 133 "there are no keys") (by decide +kernel)) (hs (.exactly (.string RX8 133) "java/lang/String") (by decide +kernel))
    · exact str_ok (hts (.stringRef RX8 144 "no entry has this key") (by decide +kernel)) (hs (.exactly (.string RX8 144) "java/lang/String") (by decide +kernel))
    · exact str_ok (hts (.stringRef RX8 152 "no part has this number") (by decide +kernel)) (hs (.exactly (.string RX8 152) "java/lang/String") (by decide +kernel))
    · exact str_ok (hts (.stringRef RX8 158 "the part has no entry at this place") (by decide +kernel)) (hs (.exactly (.string RX8 158) "java/lang/String") (by decide +kernel))
    · exact str_ok (hts (.stringRef RX8 167 "x or y is out of range") (by decide +kernel)) (hs (.exactly (.string RX8 167) "java/lang/String") (by decide +kernel))
    · exact str_ok (hts (.stringRef RX8 175 "there is no room for one more point") (by decide +kernel)) (hs (.exactly (.string RX8 175) "java/lang/String") (by decide +kernel))
    · exact str_ok (hts (.stringRef RX8 181 "no node has this point") (by decide +kernel)) (hs (.exactly (.string RX8 181) "java/lang/String") (by decide +kernel))
    · exact str_ok (hts (.stringRef RX8 184 "an edge of the box is out of range") (by decide +kernel)) (hs (.exactly (.string RX8 184) "java/lang/String") (by decide +kernel))
    · exact str_ok (hts (.stringRef RX8 193 "there are no points") (by decide +kernel)) (hs (.exactly (.string RX8 193) "java/lang/String") (by decide +kernel))
  · simp only [thW, List.mem_cons, List.not_mem_nil, or_false] at hw
    rcases hw with rfl | rfl | rfl | rfl | rfl | rfl | rfl <;> exact va_Nw.of rfl (hts _ (by decide +kernel))
