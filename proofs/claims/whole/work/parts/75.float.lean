/-! floats: no draw is made, as no result is a NaN -/
def Rf (x : UInt32) : Option Value := some (.float x)
theorem fl_bits {a : UInt32} (h : Jvm.FP.Core.fIsNaN a = false) : vf_n32 a := by
  unfold vf_n32
  have h1 : ¬ 2139095040 < a.toNat % 2 ^ 31 := fun z => by
    rw [(Jvm.FP.Core.isNaN_bits32 a).mpr z] at h
    cases h
  rw [UInt32.le_iff_toNat_le, UInt32.toNat_and]
  show a.toNat &&& (2 ^ 31 - 1) ≤ 2139095040
  rw [Nat.and_two_pow_sub_one_eq_mod]
  omega
theorem fl_avg (a b : Int32) (hb : b ≠ 0) : vf_n32 (FP.fdiv (FP.i2f a) (FP.i2f b)) := by
  refine fl_bits ?_
  rw [FP.fdiv_core, FP.i2f_core]
  refine Jvm.FP.Core.fdiv_out ?_ (Jvm.FP.Core.i2f_fin b) (fun z => Jvm.FP.Core.i2f_ne_zero hb ((Jvm.FP.Core.zero_bits232 _).mp z))
  rw [Jvm.FP.Core.notNaN_iff32]
  exact (Jvm.FP.Core.i2f_fin a).ne_nan
section XF
variable {p : Program} {l : Launch} {e : Env} {R : Room} {s : State} {m : MethodId} {args : Array Value} {below : List Frame} {meth : Method} {c : Code} {G : xG} {Z : State → Prop} {k n : Nat} {S : xS} {pc : Nat} {lv : List (Option Value)} {st : List Value} {cc : ByteArray} {nL : Nat} {own : String} {rt : Option FieldType}
theorem x_fconst0 (C : XC p s m args meth c cc nL own rt G) (hdg : decode cc pc = .ok (.fconst 0, 1)) (kk : XW p l e R s m args below meth c G Z k n S (pc + 1) lv (.float FP.fconst0 :: st)) : XW p l e R s m args below meth c G Z k n S pc lv st := fun H locs ls w z h => lv_fconst0 C.1 C.2.1 hdg (kk H locs ls w z h)
theorem x_fdiv (C : XC p s m args meth c cc nL own rt G) {x y : UInt32} (hdg : decode cc pc = .ok (.fdiv, 1)) (hne : vf_n32 (FP.fdiv x y)) (kk : XW p l e R s m args below meth c G Z k n S (pc + 1) lv (.float (FP.fdiv x y) :: st)) : XW p l e R s m args below meth c G Z k n S pc lv (.float y :: .float x :: st) := fun H locs ls w z h => lv_fdiv C.1 C.2.1 hdg hne (kk H locs ls w z h)
theorem x_fret (C : XC p s m args meth c cc nL own rt G) {post : UInt32 → xS → Prop} {mc ms : Nat} {v : UInt32} (hr : rt = some .float) (hk : k ≤ mc) (hn : n ≤ ms) (hdg : decode cc pc = .ok (.freturn, 1)) (hp : post v S) : XW p l e R s m args below meth c G (MQ below (XQ Rf G post) args s mc ms (gA G)) k n S pc lv [.float v] := fun H locs ls w z h => W.widen hk hn (W.fret C.1 C.2.1 (C.2.2.2.2.2.2.2.2.trans hr) (fun t ht hW => ⟨⟨v, S, rfl, hp, by rw [ht]; exact w⟩, z.F ht⟩) z.2.2 hdg C.2.2.2.2.2.2.2.1)
theorem x_callVf (C : XC p s m args meth c cc nL own rt G) {post : UInt32 → xS → Prop} {y : MethodName} {rm : Room} {bytes : ByteArray} {maxL nn index : Nat} {ret : Option FieldType} {As rest st0 : List Value} {b ci N0 : Nat} {T : u_T} {Cn : String} (hM : XM l y bytes maxL ret rm G Rf (.ref b :: As) S post) (hb : S.1 b = ci + 1) (hci : ci < 9) (hcl : vwCl[ci]? = some (Cn, T, N0)) (hyc : y.cls = Cn) (hl : Cond.methodLink own index y ∈ ALL) (hi : Cond.instanceMethod y ∈ ALL) (hse : Cond.selects Cn y y ∈ ALL) (hini : Cond.initialized Cn ∈ ALL) (hcd : Cond.code y bytes maxL ret ∈ ALL) (hd : y.cls ≠ "java/lang/invoke/MethodHandle" ∧ y.cls ≠ "java/lang/invoke/VarHandle" ∧ (parseMethodDescriptor y.desc).map (fun d => d.parameters.length) = some nn) (hR : rm.frames + 1 ≤ R.frames ∧ 8 + (maxL + 11) + rm.locals ≤ R.locals) (hnn : As.length = nn) (hcat : (rest.map fun v => v.category).sum ≤ 8) (hnL : lv.length = nL) (hst : st0 = As.reverse ++ .ref b :: rest) (hdg : decode cc pc = .ok (.invokevirtual index, 3)) (hf : k + rm.cells ≤ R.cells ∧ n + rm.slots ≤ R.slots) (kk : ∀ (r : UInt32) (S' : xS), post r S' → XW p l e R s m args below meth c G Z (k + rm.cells) (n + rm.slots) S' (pc + 3) lv (.float r :: rest)) : XW p l e R s m args below meth c G Z k n S pc lv st0 :=
  x_callG (fun H locs w z ls hls => va_runV ⟨C.1, C.2.1, C.2.2.1, C.2.2.2.1, C.2.2.2.2.1⟩ hM (cwV nn C.2.2.2.2.1 (all_goodIn (all_c4 hl hi hse hini (all_code hcd))) rfl rfl rfl ⟨hyc, hd⟩ hR) ⟨XP_blind _ _ _, va_recv C.2.2.2.2.2.1.1 (x_P1 w (x_cell_obj hb hci)) hcl (q0 := 0) rfl, fun U hU hW => ⟨rfl, by rw [hU]; exact w, gK.warm hW C.2.2.2.2.2.1⟩⟩ rfl hnn (hls.trans hnL) hst (lv_room hcat) hdg hf) kk
end XF
theorem x_metf {l : Launch} {y : MethodName} {rm : Room} {G : xG} {av : List Value} {S : xS} {post : UInt32 → xS → Prop} {cc : ByteArray} {maxL : Nat} {ret : Option FieldType} {lv : List (Option Value)}
    (hy : plainName y.cls = true) (hc : x_cat1 av) (hn : av.length ≤ maxL) (hlv : av.map some ++ List.replicate (maxL - av.length) none = lv)
    (body : ∀ (p : Program) (e : Env) (s : State) (m : MethodId) (args : Array Value) (below : List Frame) (meth : Method) (c : Code) (Z : State → Prop), XC p s m args meth c cc maxL y.cls ret G → (y.name = "<init>" → meth.name = "<init>") → (∀ (k n : Nat) (S : xS) (pc : Nat) (lv : List (Option Value)) (v : UInt32), ret = some .float → decode cc pc = .ok (.freturn, 1) → k ≤ rm.cells → n ≤ rm.slots → post v S → XW p l e rm s m args below meth c G Z k n S pc lv [.float v]) → XW p l e rm s m args below meth c G Z 0 0 S 0 lv []) : XM l y cc maxL ret rm G Rf av S post := by
  refine Met.ofW (cc := cc) (maxL := maxL) (ret := ret) hy rfl ?_
  intro p e s m args below meth c s₁ B hml hv
  obtain ⟨rfl, hW, hK⟩ := hv
  have hts0 := atoms_spec (ws := Cond.code y cc maxL ret :: ALL) B.pre
  have hts : ∀ w ∈ ALL, w.before av.toArray s = true := fun w hw => hts0 w (List.mem_cons_of_mem _ hw)
  rw [lg_entry_eq]
  have C : XC p s m av.toArray meth c cc maxL y.cls ret G := ⟨B.exec, B.bytes, hml, findClass_of_methodNamed B.named, hts, hK, hW.1, B.notSynchronized, B.returns⟩
  exact body p e s m _ below meth c _ C (fun h => by rw [← h]; exact (name_of_methodNamed B.named B.method).1) (fun k n S pc lv v h1 h2 h3 h4 h5 => x_fret C h1 h3 h4 h2 h5) s.heap [] _ hW va_S.rf (x_ls_entry hc hn hlv)
/-- the sum of the depths of so many places -/
def smd (f : Nat → Nat) : Nat → Nat
  | 0 => 0
  | k + 1 => smd f k + dep (f k)
theorem smd_le {f : Nat → Nat} : ∀ {n : Nat}, (∀ i, i < n → f i < 2 ^ 30) → smd f n ≤ 30 * n
  | 0, _ => Nat.le_refl _
  | k + 1, h => by
    have h1 := smd_le (f := f) (n := k) (fun i hi => h i (by omega))
    have h2 := dep_lt30 (h k (by omega))
    simp only [smd]; omega
def avgF (s n : Nat) : UInt32 := if n = 0 then FP.fconst0 else FP.fdiv (FP.i2f (nI s)) (FP.i2f (nI n))
