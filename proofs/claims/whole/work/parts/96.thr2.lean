def xThr (p : Program) (l : Launch) (e : Env) (rm : Room) (s : State) (m : MethodId) (args : Array Value) (below : List Frame) (meth : Method) (c : Code) (G : xG) (Z : State → Prop) (cc : ByteArray) (maxL : Nat) (px : String → xS → Prop) : Prop :=
  ∀ (k n : Nat) (S : xS) (pc : Nat) (lv : List (Option Value)) (st : List Value) (ik is ic : Nat) (cls text : String), thr_ok ik ic cls → (is, text) ∈ thS → decode cc pc = .ok (.new ik, 3) → decode cc (pc + 3) = .ok (.dup, 1) → decode cc (pc + 4) = .ok (.ldc is, 2) → decode cc (pc + 6) = .ok (.invokespecial ic, 3) → decode cc (pc + 9) = .ok (.athrow, 1) → (st.map fun v => v.category).sum ≤ 8 → lv.length = maxL → k + 1 ≤ rm.cells → n + 6 ≤ rm.slots → px cls S → XW p l e rm s m args below meth c G Z k n S pc lv st
theorem x_metTi {l : Launch} {y : MethodName} {rm : Room} {G : xG} {av : List Value} {S : xS} {post : Int32 → xS → Prop} {px : String → xS → Prop} {cc : ByteArray} {maxL : Nat} {ret : Option FieldType} {lv : List (Option Value)} (hl : l.stackTraces = false) (hyc : y.cls = RX8) (hrm : 5 < rm.frames ∧ 90 ≤ rm.locals)
    (hy : plainName y.cls = true) (hc : x_cat1 av) (hn : av.length ≤ maxL) (hlv : av.map some ++ List.replicate (maxL - av.length) none = lv)
    (body : ∀ (p : Program) (e : Env) (s : State) (m : MethodId) (args : Array Value) (below : List Frame) (meth : Method) (c : Code) (Z : State → Prop), XC p s m args meth c cc maxL y.cls ret G → (y.name = "<init>" → meth.name = "<init>") → (∀ (k n : Nat) (S : xS) (pc : Nat) (lv : List (Option Value)) (v : Int32), ret = some .int → decode cc pc = .ok (.ireturn, 1) → k ≤ rm.cells → n ≤ rm.slots → post v S → XW p l e rm s m args below meth c G Z k n S pc lv [.int v]) → xThr p l e rm s m args below meth c G Z cc maxL px → XW p l e rm s m args below meth c G Z 0 0 S 0 lv []) : XMT l y cc maxL ret rm G Ri av S post px := by
  refine vx_ofW (cc := cc) (maxL := maxL) (ret := ret) hy rfl ?_
  intro p e s m args below meth c s₁ B hml hnt hv
  obtain ⟨⟨rfl, hW, hK⟩, hX⟩ := hv
  have hts0 := atoms_spec (ws := Cond.code y cc maxL ret :: ALL) B.pre
  have hts : ∀ w ∈ ALL, w.before av.toArray s = true := fun w hw => hts0 w (List.mem_cons_of_mem _ hw)
  rw [lg_entry_eq]
  have C : XC p s m av.toArray meth c cc maxL y.cls ret G := ⟨B.exec, B.bytes, hml, findClass_of_methodNamed B.named, hts, hK, hW.1, B.notSynchronized, B.returns⟩
  have C8 : XC p s m av.toArray meth c cc maxL RX8 ret G := by rw [← hyc]; exact C
  exact body p e s m _ below meth c _ C (fun h => by rw [← h]; exact (name_of_methodNamed B.named B.method).1) (fun k n S pc lv v h1 h2 h3 h4 h5 => x_retT (x_iret C h1 h3 h4 h2 h5)) (fun k n S pc lv st ik is ic cls text h1 h2 h3 h4 h5 h6 h7 h8 h9 ha hb hc2 => x_throw C8 hl hX hnt h1 h2 h3 h4 h5 h6 h7 ⟨hrm.1, by have := hrm.2; show _ ≤ rm.locals; omega, ha, hb⟩ ha hb h9 hc2) s.heap [] _ hW va_S.rf (x_ls_entry hc hn hlv)
theorem x_metTz {l : Launch} {y : MethodName} {rm : Room} {G : xG} {av : List Value} {S : xS} {post : Bool → xS → Prop} {px : String → xS → Prop} {cc : ByteArray} {maxL : Nat} {ret : Option FieldType} {lv : List (Option Value)} (hl : l.stackTraces = false) (hyc : y.cls = RX8) (hrm : 5 < rm.frames ∧ 90 ≤ rm.locals)
    (hy : plainName y.cls = true) (hc : x_cat1 av) (hn : av.length ≤ maxL) (hlv : av.map some ++ List.replicate (maxL - av.length) none = lv)
    (body : ∀ (p : Program) (e : Env) (s : State) (m : MethodId) (args : Array Value) (below : List Frame) (meth : Method) (c : Code) (Z : State → Prop), XC p s m args meth c cc maxL y.cls ret G → (y.name = "<init>" → meth.name = "<init>") → (∀ (k n : Nat) (S : xS) (pc : Nat) (lv : List (Option Value)) (v : Int32) (bb : Bool), ret = some .boolean → decode cc pc = .ok (.ireturn, 1) → k ≤ rm.cells → n ≤ rm.slots → v = xb bb → post bb S → XW p l e rm s m args below meth c G Z k n S pc lv [.int v]) → xThr p l e rm s m args below meth c G Z cc maxL px → XW p l e rm s m args below meth c G Z 0 0 S 0 lv []) : XMT l y cc maxL ret rm G Rz av S post px := by
  refine vx_ofW (cc := cc) (maxL := maxL) (ret := ret) hy rfl ?_
  intro p e s m args below meth c s₁ B hml hnt hv
  obtain ⟨⟨rfl, hW, hK⟩, hX⟩ := hv
  have hts0 := atoms_spec (ws := Cond.code y cc maxL ret :: ALL) B.pre
  have hts : ∀ w ∈ ALL, w.before av.toArray s = true := fun w hw => hts0 w (List.mem_cons_of_mem _ hw)
  rw [lg_entry_eq]
  have C : XC p s m av.toArray meth c cc maxL y.cls ret G := ⟨B.exec, B.bytes, hml, findClass_of_methodNamed B.named, hts, hK, hW.1, B.notSynchronized, B.returns⟩
  have C8 : XC p s m av.toArray meth c cc maxL RX8 ret G := by rw [← hyc]; exact C
  exact body p e s m _ below meth c _ C (fun h => by rw [← h]; exact (name_of_methodNamed B.named B.method).1) (fun k n S pc lv v bb h1 h2 h3 h4 h5 h6 => x_retT (x_zret C bb h1 h5 h3 h4 h2 h6)) (fun k n S pc lv st ik is ic cls text h1 h2 h3 h4 h5 h6 h7 h8 h9 ha hb hc2 => x_throw C8 hl hX hnt h1 h2 h3 h4 h5 h6 h7 ⟨hrm.1, by have := hrm.2; show _ ≤ rm.locals; omega, ha, hb⟩ ha hb h9 hc2) s.heap [] _ hW va_S.rf (x_ls_entry hc hn hlv)
/-! the law's wrappers -/
def XMW (l : Launch) (y : MethodName) (cc : ByteArray) (maxL : Nat) (ret : Option FieldType) (hh : List (Nat × Nat × Nat × Nat)) (rm : Room) (G : xG) (av : List Value) (S : xS) (post : Int32 → xS → Prop) : Prop :=
  vx_Met l y (Cond.codeWith y cc maxL ret hh :: ALL) rm (XPT G av S) (XQ Ri G post) (XX G (fun _ _ => False)) rm.cells rm.slots (gA G)
theorem x_metW {l : Launch} {y : MethodName} {rm : Room} {G : xG} {av : List Value} {S : xS} {post : Int32 → xS → Prop} {cc : ByteArray} {maxL : Nat} {ret : Option FieldType} {hh : List (Nat × Nat × Nat × Nat)} {lv : List (Option Value)}
    (hy : plainName y.cls = true) (hc : x_cat1 av) (hn : av.length ≤ maxL) (hlv : av.map some ++ List.replicate (maxL - av.length) none = lv)
    (body : ∀ (p : Program) (e : Env) (s : State) (m : MethodId) (args : Array Value) (below : List Frame) (meth : Method) (c : Code) (Z : State → Prop), XC p s m args meth c cc maxL y.cls ret G → gX G s s.heap → c.exceptionTable.toList = tableOf hh → (∀ (k n : Nat) (S : xS) (pc : Nat) (lv : List (Option Value)) (v : Int32), ret = some .int → decode cc pc = .ok (.ireturn, 1) → k ≤ rm.cells → n ≤ rm.slots → post v S → XW p l e rm s m args below meth c G Z k n S pc lv [.int v]) → XW p l e rm s m args below meth c G Z 0 0 S 0 lv []) : XMW l y cc maxL ret hh rm G av S post := by
  refine vx_ofWH (cc := cc) (maxL := maxL) (ret := ret) (hh := hh) hy rfl ?_
  intro p e s m args below meth c s₁ B hml hv
  obtain ⟨⟨rfl, hW, hK⟩, hX⟩ := hv
  have hts0 := atoms_spec (ws := Cond.codeWith y cc maxL ret hh :: ALL) B.pre
  have hts : ∀ w ∈ ALL, w.before av.toArray s = true := fun w hw => hts0 w (List.mem_cons_of_mem _ hw)
  have htb := vx_table (x := y) B (hts0 _ List.mem_cons_self)
  rw [lg_entry_eq]
  have C : XC p s m av.toArray meth c cc maxL y.cls ret G := ⟨B.exec, B.bytes, hml, findClass_of_methodNamed B.named, hts, hK, hW.1, B.notSynchronized, B.returns⟩
  exact body p e s m _ below meth c _ C hX htb (fun k n S pc lv v h1 h2 h3 h4 h5 => x_retT (x_iret C h1 h3 h4 h2 h5)) s.heap [] _ hW va_S.rf (x_ls_entry hc hn hlv)
section XU
variable {p : Program} {l : Launch} {e : Env} {R : Room} {s : State} {m : MethodId} {args : Array Value} {below : List Frame} {meth : Method} {c : Code} {G : xG} {Z : State → Prop} {k n : Nat} {S : xS} {pc : Nat} {lv : List (Option Value)} {st : List Value} {cc : ByteArray} {nL : Nat} {own : String} {rt : Option FieldType}
def xCat (s : State) (c : Code) (own : String) (E : String) (pc : Nat) (hpc : Nat) : Prop := ∃ (name : String) (pre : List ExceptionTableEntry) (x : ExceptionTableEntry) (suf : List ExceptionTableEntry), c.exceptionTable.toList = pre ++ x :: suf ∧ (∀ z ∈ pre, covers z pc = false ∨ (z.catchType ≠ 0 ∧ ∃ nm : String, Cond.classLink own z.catchType nm ∈ ALL ∧ va_Nc E nm s)) ∧ covers x pc = true ∧ x.catchType ≠ 0 ∧ Cond.classLink own x.catchType name ∈ ALL ∧ va_Nw (.castable E name) s ∧ x.handlerPc = hpc
theorem x_callTV {α : Type} {ρ : α → Option Value} (C : XC p s m args meth c cc nL own rt G) (hX : gX G s s.heap) {post : α → xS → Prop} {px : String → xS → Prop} {y : MethodName} {rm : Room} {bytes : ByteArray} {maxL nn index : Nat} {ret : Option FieldType} {As rest st0 : List Value} {b ci N0 : Nat} {T : u_T} {Cn : String} (hM : XMT l y bytes maxL ret rm G ρ (.ref b :: As) S post px) (hb : S.1 b = ci + 1) (hci : ci < 9) (hcl : vwCl[ci]? = some (Cn, T, N0)) (hyc : y.cls = Cn) (hl : Cond.methodLink own index y ∈ ALL) (hi : Cond.instanceMethod y ∈ ALL) (hse : Cond.selects Cn y y ∈ ALL) (hini : Cond.initialized Cn ∈ ALL) (hcd : Cond.code y bytes maxL ret ∈ ALL) (hd : y.cls ≠ "java/lang/invoke/MethodHandle" ∧ y.cls ≠ "java/lang/invoke/VarHandle" ∧ (parseMethodDescriptor y.desc).map (fun d => d.parameters.length) = some nn) (hR : rm.frames + 1 ≤ R.frames ∧ 8 + (maxL + 11) + rm.locals ≤ R.locals) (hnn : As.length = nn) (hcat : (rest.map fun v => v.category).sum ≤ 8) (hnL : lv.length = nL) (hst : st0 = As.reverse ++ .ref b :: rest) (hdg : decode cc pc = .ok (.invokevirtual index, 3)) (hf : k + rm.cells ≤ R.cells ∧ n + rm.slots ≤ R.slots)
    (kx : ∀ (E : String) (S' : xS), px E S' → ∃ hpc, xCat s c own E pc hpc ∧ ∀ q : Nat, XW p l e R s m args below meth c G Z (k + rm.cells) (n + rm.slots) S' hpc lv [.ref q])
    (kk : ∀ (r : α) (S' : xS), post r S' → XW p l e R s m args below meth c G Z (k + rm.cells) (n + rm.slots) S' (pc + 3) lv ((ρ r).toList ++ rest)) : XW p l e R s m args below meth c G Z k n S pc lv st0 :=
  x_callT C (fun H locs w z ls hls => vx_runV ⟨C.1, C.2.1, C.2.2.1, C.2.2.2.1, C.2.2.2.2.1⟩ hM (cwV nn C.2.2.2.2.1 (all_goodIn (all_c4 hl hi hse hini (all_code hcd))) rfl rfl rfl ⟨hyc, hd⟩ hR) ⟨XPT_blind _ _ _, va_recv C.2.2.2.2.2.1.1 (x_P1 w (x_cell_obj hb hci)) hcl (q0 := 0) rfl, fun U hU hW => ⟨⟨rfl, by rw [hU]; exact w, gK.warm hW C.2.2.2.2.2.1⟩, by rw [hU]; exact gX.warm hW (gX.kept hX z.2.1)⟩⟩ rfl hnn (hls.trans hnL) hst (lv_room hcat) hdg hf)
    (fun E S' h => by
      obtain ⟨hpc, ⟨name, pre, x, suf, h1, h2, h3, h4, h5, h6, h7⟩, h8⟩ := kx E S' h
      exact ⟨name, pre, x, suf, h1, h2, h3, h4, h5, h6, fun q => by rw [h7]; exact h8 q⟩) kk
theorem x_callW (C : XC p s m args meth c cc nL own rt G) (hX : gX G s s.heap) {post : Int32 → xS → Prop} {y : MethodName} {rm : Room} {bytes : ByteArray} {maxL nn index : Nat} {ret : Option FieldType} {hh : List (Nat × Nat × Nat × Nat)} {As rest st0 : List Value} (hM : XMW l y bytes maxL ret hh rm G As S post) (hl : Cond.methodLink own index y ∈ ALL) (hi : Cond.static y ∈ ALL) (hini : Cond.initialized y.cls ∈ ALL) (hcd : Cond.codeWith y bytes maxL ret hh ∈ ALL) (hd : y.cls ≠ "java/lang/invoke/MethodHandle" ∧ y.cls ≠ "java/lang/invoke/VarHandle" ∧ (parseMethodDescriptor y.desc).map (fun d => d.parameters.length) = some nn) (hR : rm.frames + 1 ≤ R.frames ∧ 8 + (maxL + 11) + rm.locals ≤ R.locals) (hnn : As.length = nn) (hcat : (rest.map fun v => v.category).sum ≤ 8) (hnL : lv.length = nL) (hst : st0 = As.reverse ++ rest) (hdg : decode cc pc = .ok (.invokestatic index, 3)) (hf : k + rm.cells ≤ R.cells ∧ n + rm.slots ≤ R.slots)
    (kk : ∀ (r : Int32) (S' : xS), post r S' → XW p l e R s m args below meth c G Z (k + rm.cells) (n + rm.slots) S' (pc + 3) lv (.int r :: rest)) : XW p l e R s m args below meth c G Z k n S pc lv st0 :=
  x_callT (px := fun _ _ => False) C (fun H locs w z ls hls => vx_runSX ⟨C.1, C.2.1, C.2.2.1, C.2.2.2.1, C.2.2.2.2.1⟩ hM (vx_cwSW nn C.2.2.2.2.1 (all_goodIn (fun w hw => by
      simp only [va_wsS, List.cons_append, List.nil_append, List.mem_cons] at hw
      rcases hw with rfl | rfl | rfl | hw
      · exact hl
      · exact hi
      · exact hini
      · rcases hw with rfl | hw
        · exact hcd
        · exact hw)) rfl rfl rfl hd hR) ⟨XPT_blind _ _ _, fun U hU hW => ⟨⟨rfl, by rw [hU]; exact w, gK.warm hW C.2.2.2.2.2.1⟩, by rw [hU]; exact gX.warm hW (gX.kept hX z.2.1)⟩⟩ rfl hnn (hls.trans hnL) hst (lv_room hcat) hdg hf)
    (fun _ _ h => h.elim) kk
end XU
