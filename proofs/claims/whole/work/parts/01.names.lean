-- ===== PART A: goes FIRST, ahead of the names: the tables' words, and 'selects' of the private methods out of them =====
/-- a private method of a class that the tables say can be made, by its rows of tables_1 -/
def lw_okq (q : MethodName × Nat) : Prop := (q.1.cls ≠ "java/lang/invoke/MethodHandle" ∧ q.1.cls ≠ "java/lang/invoke/VarHandle") ∧ Cond.instantiable q.1.cls q.2 ∈ tables_1 ∧ Cond.privateMethod q.1 ∈ tables_1 ∧ Cond.instanceMethod q.1 ∈ tables_1
theorem lw_p0 : lw_okq (⟨"ScapegoatSpur$TurningTree", "find", "(I)LScapegoatSpur$Node;"⟩, 3) := ⟨⟨by decide +kernel, by decide +kernel⟩, List.mem_of_getElem? (i := 71) (by decide +kernel), List.mem_of_getElem? (i := 226) (by decide +kernel), List.mem_of_getElem? (i := 227) (by decide +kernel)⟩
theorem lw_p1 : lw_okq (⟨"ScapegoatSpur$TurningTree", "walkToHeir", "(LScapegoatSpur$Node;)LScapegoatSpur$Node;"⟩, 3) := ⟨⟨by decide +kernel, by decide +kernel⟩, List.mem_of_getElem? (i := 71) (by decide +kernel), List.mem_of_getElem? (i := 232) (by decide +kernel), List.mem_of_getElem? (i := 233) (by decide +kernel)⟩
theorem lw_p2 : lw_okq (⟨"ScapegoatSpur$TurningTree", "replace", "(LScapegoatSpur$Node;LScapegoatSpur$Node;LScapegoatSpur$Node;)V"⟩, 3) := ⟨⟨by decide +kernel, by decide +kernel⟩, List.mem_of_getElem? (i := 71) (by decide +kernel), List.mem_of_getElem? (i := 239) (by decide +kernel), List.mem_of_getElem? (i := 240) (by decide +kernel)⟩
theorem lw_p3 : lw_okq (⟨"ScapegoatSpur$TurningTree", "balanceUpFrom", "(I)V"⟩, 3) := ⟨⟨by decide +kernel, by decide +kernel⟩, List.mem_of_getElem? (i := 71) (by decide +kernel), List.mem_of_getElem? (i := 243) (by decide +kernel), List.mem_of_getElem? (i := 244) (by decide +kernel)⟩
theorem lw_p4 : lw_okq (⟨"ScapegoatSpur$TurningTree", "balanced", "(LScapegoatSpur$Node;)LScapegoatSpur$Node;"⟩, 3) := ⟨⟨by decide +kernel, by decide +kernel⟩, List.mem_of_getElem? (i := 71) (by decide +kernel), List.mem_of_getElem? (i := 250) (by decide +kernel), List.mem_of_getElem? (i := 251) (by decide +kernel)⟩
theorem lw_p5 : lw_okq (⟨"ScapegoatSpur$TurningTree", "turnedRight", "(LScapegoatSpur$Node;)LScapegoatSpur$Node;"⟩, 3) := ⟨⟨by decide +kernel, by decide +kernel⟩, List.mem_of_getElem? (i := 71) (by decide +kernel), List.mem_of_getElem? (i := 257) (by decide +kernel), List.mem_of_getElem? (i := 258) (by decide +kernel)⟩
theorem lw_p6 : lw_okq (⟨"ScapegoatSpur$TurningTree", "turnedLeft", "(LScapegoatSpur$Node;)LScapegoatSpur$Node;"⟩, 3) := ⟨⟨by decide +kernel, by decide +kernel⟩, List.mem_of_getElem? (i := 71) (by decide +kernel), List.mem_of_getElem? (i := 261) (by decide +kernel), List.mem_of_getElem? (i := 262) (by decide +kernel)⟩
theorem lw_p7 : lw_okq (⟨"ScapegoatSpur$SortedParts", "dropDead", "()V"⟩, 4) := ⟨⟨by decide +kernel, by decide +kernel⟩, List.mem_of_getElem? (i := 89) (by decide +kernel), List.mem_of_getElem? (i := 269) (by decide +kernel), List.mem_of_getElem? (i := 270) (by decide +kernel)⟩
theorem lw_p8 : lw_okq (⟨"ScapegoatSpur$SortedParts", "dealOut", "()V"⟩, 4) := ⟨⟨by decide +kernel, by decide +kernel⟩, List.mem_of_getElem? (i := 89) (by decide +kernel), List.mem_of_getElem? (i := 273) (by decide +kernel), List.mem_of_getElem? (i := 274) (by decide +kernel)⟩
theorem lw_p9 : lw_okq (⟨"java/lang/Throwable", "fillInStackTrace", "(I)Ljava/lang/Throwable;"⟩, 6) := ⟨⟨by decide +kernel, by decide +kernel⟩, List.mem_of_getElem? (i := 488) (by decide +kernel), List.mem_of_getElem? (i := 486) (by decide +kernel), List.mem_of_getElem? (i := 487) (by decide +kernel)⟩
theorem lw_p10 : lw_okq (⟨"ScapegoatSpur$SortedParts", "insert", "(LScapegoatSpur$Entry;)V"⟩, 4) := ⟨⟨by decide +kernel, by decide +kernel⟩, List.mem_of_getElem? (i := 89) (by decide +kernel), List.mem_of_getElem? (i := 638) (by decide +kernel), List.mem_of_getElem? (i := 639) (by decide +kernel)⟩
theorem lw_p11 : lw_okq (⟨"ScapegoatSpur$SortedParts", "mergeEqualParts", "()V"⟩, 4) := ⟨⟨by decide +kernel, by decide +kernel⟩, List.mem_of_getElem? (i := 89) (by decide +kernel), List.mem_of_getElem? (i := 642) (by decide +kernel), List.mem_of_getElem? (i := 643) (by decide +kernel)⟩
theorem lw_p12 : lw_okq (⟨"ScapegoatSpur$SortedParts", "sizeOf", "(I)I"⟩, 4) := ⟨⟨by decide +kernel, by decide +kernel⟩, List.mem_of_getElem? (i := 89) (by decide +kernel), List.mem_of_getElem? (i := 646) (by decide +kernel), List.mem_of_getElem? (i := 647) (by decide +kernel)⟩
theorem lw_p13 : lw_okq (⟨"ScapegoatSpur$SortedParts", "renumber", "(II)V"⟩, 4) := ⟨⟨by decide +kernel, by decide +kernel⟩, List.mem_of_getElem? (i := 89) (by decide +kernel), List.mem_of_getElem? (i := 650) (by decide +kernel), List.mem_of_getElem? (i := 651) (by decide +kernel)⟩
theorem lw_p14 : lw_okq (⟨"ScapegoatSpurModel", "nodeOf", "(I)I"⟩, 19) := ⟨⟨by decide +kernel, by decide +kernel⟩, List.mem_of_getElem? (i := 838) (by decide +kernel), List.mem_of_getElem? (i := 912) (by decide +kernel), List.mem_of_getElem? (i := 913) (by decide +kernel)⟩
theorem lw_p15 : lw_okq (⟨"ScapegoatSpurModel", "living", "()I"⟩, 19) := ⟨⟨by decide +kernel, by decide +kernel⟩, List.mem_of_getElem? (i := 838) (by decide +kernel), List.mem_of_getElem? (i := 916) (by decide +kernel), List.mem_of_getElem? (i := 917) (by decide +kernel)⟩
def lw_privs_1 : List (MethodName × Nat) := [(⟨"ScapegoatSpur$TurningTree", "find", "(I)LScapegoatSpur$Node;"⟩, 3), (⟨"ScapegoatSpur$TurningTree", "walkToHeir", "(LScapegoatSpur$Node;)LScapegoatSpur$Node;"⟩, 3), (⟨"ScapegoatSpur$TurningTree", "replace", "(LScapegoatSpur$Node;LScapegoatSpur$Node;LScapegoatSpur$Node;)V"⟩, 3), (⟨"ScapegoatSpur$TurningTree", "balanceUpFrom", "(I)V"⟩, 3), (⟨"ScapegoatSpur$TurningTree", "balanced", "(LScapegoatSpur$Node;)LScapegoatSpur$Node;"⟩, 3), (⟨"ScapegoatSpur$TurningTree", "turnedRight", "(LScapegoatSpur$Node;)LScapegoatSpur$Node;"⟩, 3), (⟨"ScapegoatSpur$TurningTree", "turnedLeft", "(LScapegoatSpur$Node;)LScapegoatSpur$Node;"⟩, 3), (⟨"ScapegoatSpur$SortedParts", "dropDead", "()V"⟩, 4), (⟨"ScapegoatSpur$SortedParts", "dealOut", "()V"⟩, 4), (⟨"java/lang/Throwable", "fillInStackTrace", "(I)Ljava/lang/Throwable;"⟩, 6), (⟨"ScapegoatSpur$SortedParts", "insert", "(LScapegoatSpur$Entry;)V"⟩, 4), (⟨"ScapegoatSpur$SortedParts", "mergeEqualParts", "()V"⟩, 4), (⟨"ScapegoatSpur$SortedParts", "sizeOf", "(I)I"⟩, 4), (⟨"ScapegoatSpur$SortedParts", "renumber", "(II)V"⟩, 4), (⟨"ScapegoatSpurModel", "nodeOf", "(I)I"⟩, 19), (⟨"ScapegoatSpurModel", "living", "()I"⟩, 19)]
theorem lw_r1 : ∀ q ∈ lw_privs_1, lw_okq q := List.forall_mem_cons.mpr ⟨lw_p0, List.forall_mem_cons.mpr ⟨lw_p1, List.forall_mem_cons.mpr ⟨lw_p2, List.forall_mem_cons.mpr ⟨lw_p3, List.forall_mem_cons.mpr ⟨lw_p4, List.forall_mem_cons.mpr ⟨lw_p5, List.forall_mem_cons.mpr ⟨lw_p6, List.forall_mem_cons.mpr ⟨lw_p7, List.forall_mem_cons.mpr ⟨lw_p8, List.forall_mem_cons.mpr ⟨lw_p9, List.forall_mem_cons.mpr ⟨lw_p10, List.forall_mem_cons.mpr ⟨lw_p11, List.forall_mem_cons.mpr ⟨lw_p12, List.forall_mem_cons.mpr ⟨lw_p13, List.forall_mem_cons.mpr ⟨lw_p14, List.forall_mem_cons.mpr ⟨lw_p15, fun _ h => absurd h List.not_mem_nil⟩⟩⟩⟩⟩⟩⟩⟩⟩⟩⟩⟩⟩⟩⟩⟩
theorem lw_p16 : lw_okq (⟨"ScapegoatSpurModel", "can", "(I)Z"⟩, 19) := ⟨⟨by decide +kernel, by decide +kernel⟩, List.mem_of_getElem? (i := 838) (by decide +kernel), List.mem_of_getElem? (i := 920) (by decide +kernel), List.mem_of_getElem? (i := 921) (by decide +kernel)⟩
theorem lw_p17 : lw_okq (⟨"ScapegoatSpurModel", "grows", "(I)V"⟩, 19) := ⟨⟨by decide +kernel, by decide +kernel⟩, List.mem_of_getElem? (i := 838) (by decide +kernel), List.mem_of_getElem? (i := 924) (by decide +kernel), List.mem_of_getElem? (i := 925) (by decide +kernel)⟩
theorem lw_p18 : lw_okq (⟨"ScapegoatSpurModel", "leaf", "([II)I"⟩, 19) := ⟨⟨by decide +kernel, by decide +kernel⟩, List.mem_of_getElem? (i := 838) (by decide +kernel), List.mem_of_getElem? (i := 928) (by decide +kernel), List.mem_of_getElem? (i := 929) (by decide +kernel)⟩
theorem lw_p19 : lw_okq (⟨"ScapegoatSpurModel", "balancesAbove", "(I)V"⟩, 19) := ⟨⟨by decide +kernel, by decide +kernel⟩, List.mem_of_getElem? (i := 838) (by decide +kernel), List.mem_of_getElem? (i := 935) (by decide +kernel), List.mem_of_getElem? (i := 936) (by decide +kernel)⟩
theorem lw_p20 : lw_okq (⟨"ScapegoatSpurModel", "balance", "(I)V"⟩, 19) := ⟨⟨by decide +kernel, by decide +kernel⟩, List.mem_of_getElem? (i := 838) (by decide +kernel), List.mem_of_getElem? (i := 939) (by decide +kernel), List.mem_of_getElem? (i := 940) (by decide +kernel)⟩
theorem lw_p21 : lw_okq (⟨"ScapegoatSpurModel", "load", "(I)I"⟩, 19) := ⟨⟨by decide +kernel, by decide +kernel⟩, List.mem_of_getElem? (i := 838) (by decide +kernel), List.mem_of_getElem? (i := 943) (by decide +kernel), List.mem_of_getElem? (i := 944) (by decide +kernel)⟩
theorem lw_p22 : lw_okq (⟨"ScapegoatSpurModel", "turn", "(IZ)V"⟩, 19) := ⟨⟨by decide +kernel, by decide +kernel⟩, List.mem_of_getElem? (i := 838) (by decide +kernel), List.mem_of_getElem? (i := 956) (by decide +kernel), List.mem_of_getElem? (i := 957) (by decide +kernel)⟩
theorem lw_p23 : lw_okq (⟨"ScapegoatSpurModel", "copies", "(II)V"⟩, 19) := ⟨⟨by decide +kernel, by decide +kernel⟩, List.mem_of_getElem? (i := 838) (by decide +kernel), List.mem_of_getElem? (i := 963) (by decide +kernel), List.mem_of_getElem? (i := 964) (by decide +kernel)⟩
theorem lw_p24 : lw_okq (⟨"ScapegoatSpurModel", "growTree", "(I)V"⟩, 19) := ⟨⟨by decide +kernel, by decide +kernel⟩, List.mem_of_getElem? (i := 838) (by decide +kernel), List.mem_of_getElem? (i := 967) (by decide +kernel), List.mem_of_getElem? (i := 968) (by decide +kernel)⟩
theorem lw_p25 : lw_okq (⟨"ScapegoatSpurModel", "layOut", "(I)V"⟩, 19) := ⟨⟨by decide +kernel, by decide +kernel⟩, List.mem_of_getElem? (i := 838) (by decide +kernel), List.mem_of_getElem? (i := 976) (by decide +kernel), List.mem_of_getElem? (i := 977) (by decide +kernel)⟩
theorem lw_p26 : lw_okq (⟨"ScapegoatSpurModel", "growParts", "()V"⟩, 19) := ⟨⟨by decide +kernel, by decide +kernel⟩, List.mem_of_getElem? (i := 838) (by decide +kernel), List.mem_of_getElem? (i := 980) (by decide +kernel), List.mem_of_getElem? (i := 981) (by decide +kernel)⟩
theorem lw_p27 : lw_okq (⟨"ScapegoatSpurModel", "inPart", "(I)I"⟩, 19) := ⟨⟨by decide +kernel, by decide +kernel⟩, List.mem_of_getElem? (i := 838) (by decide +kernel), List.mem_of_getElem? (i := 984) (by decide +kernel), List.mem_of_getElem? (i := 985) (by decide +kernel)⟩
theorem lw_p28 : lw_okq (⟨"ScapegoatSpurModel", "leaves", "(I)V"⟩, 19) := ⟨⟨by decide +kernel, by decide +kernel⟩, List.mem_of_getElem? (i := 838) (by decide +kernel), List.mem_of_getElem? (i := 992) (by decide +kernel), List.mem_of_getElem? (i := 993) (by decide +kernel)⟩
theorem lw_p29 : lw_okq (⟨"ScapegoatSpurModel", "drop", "()V"⟩, 19) := ⟨⟨by decide +kernel, by decide +kernel⟩, List.mem_of_getElem? (i := 838) (by decide +kernel), List.mem_of_getElem? (i := 996) (by decide +kernel), List.mem_of_getElem? (i := 997) (by decide +kernel)⟩
theorem lw_p30 : lw_okq (⟨"ScapegoatSpurModel", "isNode", "(I)Z"⟩, 19) := ⟨⟨by decide +kernel, by decide +kernel⟩, List.mem_of_getElem? (i := 838) (by decide +kernel), List.mem_of_getElem? (i := 1035) (by decide +kernel), List.mem_of_getElem? (i := 1036) (by decide +kernel)⟩
theorem lw_p31 : lw_okq (⟨"ScapegoatSpurModel", "pointOf", "(II)I"⟩, 19) := ⟨⟨by decide +kernel, by decide +kernel⟩, List.mem_of_getElem? (i := 838) (by decide +kernel), List.mem_of_getElem? (i := 1087) (by decide +kernel), List.mem_of_getElem? (i := 1088) (by decide +kernel)⟩
def lw_privs_2 : List (MethodName × Nat) := [(⟨"ScapegoatSpurModel", "can", "(I)Z"⟩, 19), (⟨"ScapegoatSpurModel", "grows", "(I)V"⟩, 19), (⟨"ScapegoatSpurModel", "leaf", "([II)I"⟩, 19), (⟨"ScapegoatSpurModel", "balancesAbove", "(I)V"⟩, 19), (⟨"ScapegoatSpurModel", "balance", "(I)V"⟩, 19), (⟨"ScapegoatSpurModel", "load", "(I)I"⟩, 19), (⟨"ScapegoatSpurModel", "turn", "(IZ)V"⟩, 19), (⟨"ScapegoatSpurModel", "copies", "(II)V"⟩, 19), (⟨"ScapegoatSpurModel", "growTree", "(I)V"⟩, 19), (⟨"ScapegoatSpurModel", "layOut", "(I)V"⟩, 19), (⟨"ScapegoatSpurModel", "growParts", "()V"⟩, 19), (⟨"ScapegoatSpurModel", "inPart", "(I)I"⟩, 19), (⟨"ScapegoatSpurModel", "leaves", "(I)V"⟩, 19), (⟨"ScapegoatSpurModel", "drop", "()V"⟩, 19), (⟨"ScapegoatSpurModel", "isNode", "(I)Z"⟩, 19), (⟨"ScapegoatSpurModel", "pointOf", "(II)I"⟩, 19)]
theorem lw_r2 : ∀ q ∈ lw_privs_2, lw_okq q := List.forall_mem_cons.mpr ⟨lw_p16, List.forall_mem_cons.mpr ⟨lw_p17, List.forall_mem_cons.mpr ⟨lw_p18, List.forall_mem_cons.mpr ⟨lw_p19, List.forall_mem_cons.mpr ⟨lw_p20, List.forall_mem_cons.mpr ⟨lw_p21, List.forall_mem_cons.mpr ⟨lw_p22, List.forall_mem_cons.mpr ⟨lw_p23, List.forall_mem_cons.mpr ⟨lw_p24, List.forall_mem_cons.mpr ⟨lw_p25, List.forall_mem_cons.mpr ⟨lw_p26, List.forall_mem_cons.mpr ⟨lw_p27, List.forall_mem_cons.mpr ⟨lw_p28, List.forall_mem_cons.mpr ⟨lw_p29, List.forall_mem_cons.mpr ⟨lw_p30, List.forall_mem_cons.mpr ⟨lw_p31, fun _ h => absurd h List.not_mem_nil⟩⟩⟩⟩⟩⟩⟩⟩⟩⟩⟩⟩⟩⟩⟩⟩
theorem lw_p32 : lw_okq (⟨"ScapegoatSpurModel", "livingPoints", "()I"⟩, 19) := ⟨⟨by decide +kernel, by decide +kernel⟩, List.mem_of_getElem? (i := 838) (by decide +kernel), List.mem_of_getElem? (i := 1091) (by decide +kernel), List.mem_of_getElem? (i := 1092) (by decide +kernel)⟩
theorem lw_p33 : lw_okq (⟨"ScapegoatSpurModel", "growPoints", "(I)V"⟩, 19) := ⟨⟨by decide +kernel, by decide +kernel⟩, List.mem_of_getElem? (i := 838) (by decide +kernel), List.mem_of_getElem? (i := 1098) (by decide +kernel), List.mem_of_getElem? (i := 1099) (by decide +kernel)⟩
theorem lw_p34 : lw_okq (⟨"ScapegoatSpurModel", "pointWeight", "(I)I"⟩, 19) := ⟨⟨by decide +kernel, by decide +kernel⟩, List.mem_of_getElem? (i := 838) (by decide +kernel), List.mem_of_getElem? (i := 1102) (by decide +kernel), List.mem_of_getElem? (i := 1103) (by decide +kernel)⟩
theorem lw_p35 : lw_okq (⟨"ScapegoatSpurModel", "layOutPoints", "(I)V"⟩, 19) := ⟨⟨by decide +kernel, by decide +kernel⟩, List.mem_of_getElem? (i := 838) (by decide +kernel), List.mem_of_getElem? (i := 1106) (by decide +kernel), List.mem_of_getElem? (i := 1107) (by decide +kernel)⟩
theorem lw_p36 : lw_okq (⟨"ScapegoatSpurModel", "pointsBefore", "(I)I"⟩, 19) := ⟨⟨by decide +kernel, by decide +kernel⟩, List.mem_of_getElem? (i := 838) (by decide +kernel), List.mem_of_getElem? (i := 1110) (by decide +kernel), List.mem_of_getElem? (i := 1111) (by decide +kernel)⟩
theorem lw_p37 : lw_okq (⟨"ScapegoatSpurModel", "pointsWith", "(I)I"⟩, 19) := ⟨⟨by decide +kernel, by decide +kernel⟩, List.mem_of_getElem? (i := 838) (by decide +kernel), List.mem_of_getElem? (i := 1114) (by decide +kernel), List.mem_of_getElem? (i := 1115) (by decide +kernel)⟩
def lw_privs_3 : List (MethodName × Nat) := [(⟨"ScapegoatSpurModel", "livingPoints", "()I"⟩, 19), (⟨"ScapegoatSpurModel", "growPoints", "(I)V"⟩, 19), (⟨"ScapegoatSpurModel", "pointWeight", "(I)I"⟩, 19), (⟨"ScapegoatSpurModel", "layOutPoints", "(I)V"⟩, 19), (⟨"ScapegoatSpurModel", "pointsBefore", "(I)I"⟩, 19), (⟨"ScapegoatSpurModel", "pointsWith", "(I)I"⟩, 19)]
theorem lw_r3 : ∀ q ∈ lw_privs_3, lw_okq q := List.forall_mem_cons.mpr ⟨lw_p32, List.forall_mem_cons.mpr ⟨lw_p33, List.forall_mem_cons.mpr ⟨lw_p34, List.forall_mem_cons.mpr ⟨lw_p35, List.forall_mem_cons.mpr ⟨lw_p36, List.forall_mem_cons.mpr ⟨lw_p37, fun _ h => absurd h List.not_mem_nil⟩⟩⟩⟩⟩⟩
def lw_privs : List (MethodName × Nat) := lw_privs_1 ++ (lw_privs_2 ++ (lw_privs_3))
def lw_tbl : List Cond := k2_sels lw_privs ++ tables_1
theorem lw_privs_ok : ∀ q ∈ lw_privs, lw_okq q := by
  show ∀ q ∈ lw_privs_1 ++ (lw_privs_2 ++ (lw_privs_3)), lw_okq q
  exact List.forall_mem_append.mpr ⟨lw_r1, List.forall_mem_append.mpr ⟨lw_r2, lw_r3⟩⟩
/-- the streams that the claim lets the run draw from -/
abbrev lw_cs : List Choice := [Jvm.Choice.named "NaN.bits"]
theorem lw_bits : nanBits ∈ lw_cs := by first | decide | exact List.mem_cons_self | simp [lw_cs, nanBits]
-- ===== end of PART A; then your names; then what follows =====
/-! ===== BEGIN words of one list among another's, by their places ===== -/
theorem goodIn_r {big : List Cond} (ws : List Cond) (ps : List Nat) (hp : ws = ps.filterMap (fun i => big[i]?)) (h : ws.all goodWord = true) : GoodIn big ws := by
  intro w hw
  have h1 := List.all_eq_true.mp h w hw
  rw [hp] at hw
  obtain ⟨i, -, hi⟩ := List.mem_filterMap.mp hw
  have hm : w ∈ big := by first | exact List.mem_of_getElem? hi | exact List.getElem?_mem hi
  exact ⟨hm, good_of_word h1⟩
theorem goodIn_app {big a b : List Cond} (ha : GoodIn big a) (hb : GoodIn big b) : GoodIn big (a ++ b) := fun w h => (List.mem_append.mp h).elim (ha w) (hb w)
theorem goodIn_ca {big a b : List Cond} {c : Cond} (ha : GoodIn big (c :: a)) (hb : GoodIn big b) : GoodIn big (c :: (a ++ b)) := fun w h => (List.mem_cons.mp h).elim (fun e => ha w (List.mem_cons.mpr (Or.inl e))) (fun h => (List.mem_append.mp h).elim (fun h => ha w (List.mem_cons.mpr (Or.inr h))) (hb w))
theorem goodIn_sub {big ws : List Cond} (hm : ∀ w ∈ ws, w ∈ big) (h : ws.all goodWord = true) : GoodIn big ws := fun w hw => ⟨hm w hw, good_of_word (List.all_eq_true.mp h w hw)⟩
/-! ===== END ===== -/

/-! ===== BEGIN exceptions that leave a method, and their catching by the caller (launches without stack traces) ===== -/
section VXA
/-! The laws vx_back, vx_callV, vx_callS, vx_callSW, vx_throw0, vx_throwS follow proofs of the library, with one case more: JvmDerived/Free/Laws.lean (Back.of_free), Shelf42/LK1.lean (callV, callS), Shelf/KitTraced.lean (throwNew0V, throwNewS). -/
/-- where a method has thrown q: the class by its name, the cell, what was written, the world -/
def vx_T (XC : String → State → State → Prop) (st : State) (q : Addr) (t : State) (mc ms : Nat) (free : Addr → Prop) : Prop :=
  ∃ (E : String) (ce : Cell) (L : List Loc), XC E st t ∧ t.heap[q]? = some ce ∧ ce.vm = .none ∧ st.vm.findClass E = some ce.cls ∧ st.WarmedH t.vm ∧ st.sameButNew ({ t with vm := st.vm } : State) L mc ms ∧ ∀ z ∈ L, free z.base
def vx_Q (Qc : Array Value → State → Outcome → State → Prop) (XC : String → State → State → Prop) (mc ms : Nat) (free : Addr → Prop) : Array Value → State → Outcome → State → Prop := fun a st o t =>
  (Qc a st o t ∧ ∃ L, FrameEnd st o t L mc ms ∧ ∀ q ∈ L, free q.base) ∨ ∃ q, o = .threw q ∧ vx_T XC st q t mc ms free
/-- a callee that returns or throws -/
def vx_Met (l : Launch) (y : MethodName) (ws : List Cond) (rm : Room) (Pc : Array Value → State → Prop) (Qc : Array Value → State → Outcome → State → Prop) (XC : String → State → State → Prop) (mc ms : Nat) (free : Addr → Prop) : Prop :=
  MetFree l y (headSpec ws rm) Pc (fun _ _ _ _ _ => True) (vx_Q Qc XC mc ms free)
def vx_Post (XC : String → State → State → Prop) (mc ms : Nat) (free : Addr → Prop) : Pt → Array Value → Addr → Pt → Prop := fun A a q B =>
  ∃ (g : JFrame) (mk : MethodId) (t : State) (L : List Loc) (E : String) (ce : Cell), B.U.heap = t.heap ∧ B.U.vm = t.vm ∧ XC E (A.U.calling g mk a) t ∧ t.heap[q]? = some ce ∧ ce.vm = .none ∧ A.U.vm.findClass E = some ce.cls ∧ B.locs = A.locs ++ L ∧ (∀ z ∈ L, free z.base) ∧ B.cells = A.cells + mc ∧ B.slots = A.slots + ms
def vx_Back (l : Launch) (R : Room) (p : Program) (e : Env) (below : List Frame) (s : State) (sargs : Array Value) (y : MethodName) (len W9 : Nat)
    (Pre : Pt → Array Value → Prop) (Post : Pt → Array Value → Option Value → Pt → Prop) (PostX : Pt → Array Value → Addr → Pt → Prop) : Prop :=
  ∀ (m : MethodId) (meth : Method) (c : Code) (A : Pt) (g : JFrame) (ig : Instr) (mk : MethodId) (a : Array Value),
    Stand p l e R s m sargs below meth c A.U A.locs A.cells A.slots → g.method = m → g.locals.size = c.maxLocals → decode c.code g.pc = .ok (ig, len) →
    2 * g.monitorRoom + (g.stack.map fun v => v.category).sum ≤ W9 → A.U.methodNamed? y = some mk → Pre A a →
    (∃ (v : Option Value) (B : Pt), Stand p l e R s m sargs below meth c B.U B.locs B.cells B.slots ∧ Post A a v B ∧
      Steps p.tables e below (doInvoke e (A.U.setTop g) [] mk a).1 (B.U.setTop { g with pc := g.pc + len, stack := v.toList ++ g.stack })) ∨
    (∃ (q : Addr) (B : Pt), Stand p l e R s m sargs below meth c B.U B.locs B.cells B.slots ∧ PostX A a q B ∧
      Steps p.tables e below (doInvoke e (A.U.setTop g) [] mk a).1 ((B.U.setTop g).pushFrame (.throwing q)))
section Payer
variable {l : Launch} {R : Room} {p : Program} {e : Env} {below : List Frame} {s : State} {sargs : Array Value} {y : MethodName} {len W9 : Nat}
theorem vx_back {ws : List Cond} {rm : Room} {Pc : Array Value → State → Prop} {Qc : Array Value → State → Outcome → State → Prop} {XC : String → State → State → Prop} {mc ms : Nat} {free : Addr → Prop} {bytes : ByteArray} {maxL : Nat} {ret : Option FieldType}
    (hM : vx_Met l y ws rm Pc Qc XC mc ms free) (hblind : FrameBlind Pc) (hrc : rm.cells = mc) (hrs : rm.slots = ms)
    (hframes : rm.frames + 1 ≤ R.frames) (hlocals : W9 + (maxL + 11) + rm.locals ≤ R.locals)
    (hws : ∀ w ∈ ws, ∀ a' U, s.WarmedH U.vm → w.before a' U = true) (hcode : Cond.code y bytes maxL ret ∈ ws) (hinit : ∀ a' U, s.WarmedH U.vm → (Cond.initialized y.cls).before a' U = true) :
    vx_Back l R p e below s sargs y len W9 (PreOf R mc ms Pc) (PostOf Qc mc ms free) (vx_Post XC mc ms free) := by
  intro m meth c A g ig mk a X hg hsize hdg hW hn hp
  have h1 : (headSpec ws rm).pre.before a A.U = true := atoms_intro fun w hw => hws w hw _ _ X.warmed
  have h2 : (Cond.code y bytes maxL ret).before a A.U = true := hws _ hcode _ _ X.warmed
  have h3 : (Cond.initialized y.cls).before a A.U = true := hinit _ _ X.warmed
  have h4 : A.cells + (headSpec ws rm).room.cells ≤ R.cells := by rw [show (headSpec ws rm).room.cells = mc from hrc]; exact hp.1
  have h5 : A.slots + (headSpec ws rm).room.slots ≤ R.slots := by rw [show (headSpec ws rm).room.slots = ms from hrs]; exact hp.2.1
  have hPc : Pc a (A.U.calling g mk a) := hblind _ _ _ _ hp.2.2
  obtain ⟨U, Ls, c0, s0⟩ := A
  dsimp only [Pt.U, Pt.locs, Pt.cells, Pt.slots] at h1 h2 h3 h4 h5 X hn hPc ⊢
  obtain ⟨methY, cY, hmY, hcY, -, hlY, -, -, -, -⟩ := Cond.code_spec hn h2
  obtain ⟨kY, hkY, -⟩ := className_of_methodNamed hn
  have hinitY : kY.init = .initialized := Cond.initialized_spec (findClass_of_methodNamed hn) hkY h3
  have h : At U g.method c below := by rw [hg]; exact X.here
  have hlocals9 : W9 + (maxL + 11) + (headSpec ws rm).room.locals ≤ R.locals := hlocals
  have happ : (headSpec ws rm).appliesLoose y e.platform (U.calling g mk a) = true :=
    Spec.appliesLoose_calling (g := g) h hdg hn hkY hinitY
      (X.room_calling (g := g) (R' := (headSpec ws rm).room) hsize hmY hcY hframes (by rw [hlY]; omega) h4 h5) h1
  obtain ⟨mid, hmid⟩ := h.above
  have hfr : (U.setTop g).frames = (.java g :: mid) ++ below := by rw [State.frames_setTop' g h.top, hmid]; rfl
  obtain ⟨o, s₂, hsteps, -, hend, hq⟩ := Steps.callFree hM p X.admits X.cas X.clock (acts := []) hfr happ hPc trivial
  have hq' : vx_Q Qc XC mc ms free a (U.calling g mk a) o s₂ := hq
  rw [State.frames_setTop' g h.top] at hend
  obtain ⟨g₀, hg0⟩ := Option.isSome_iff_exists.mp h.top
  obtain ⟨r, hr⟩ := State.topJava?_eq_some.mp hg0
  have hr' : (({ U with heap := s₂.heap, slotsUsed := s₂.slotsUsed } : State).setVm s₂.vm).frames = .java g₀ :: r := hr
  rcases hq' with ⟨hqc, L, hfe, hL⟩ | ⟨q, rfl, E, ce, L, hx, hce, hcv, hcl, hW₂, hsm, hL⟩
  · obtain ⟨⟨v, rfl⟩, hW₂, e2, q2, q3, q4, q5, q6⟩ := id hfe
    have e3 : s₂ = ({ (U.calling g mk a).setFrames s₂.frames with heap := s₂.heap, slotsUsed := s₂.slotsUsed } : State).setVm s₂.vm := by
      have : s₂ = ({ s₂ with vm := (U.calling g mk a).vm } : State).setVm s₂.vm := rfl
      rw [e2] at this
      exact this
    obtain ⟨c₂, i₂, len₂, hc₂, hd₂, hf₂⟩ := hend
    have hW' : U.WarmedH s₂.vm := hW₂
    have hcc : c₂ = c := by
      have h1 : s₂.code? g.method = U.code? g.method := by
        rw [State.code?_eq, State.code?_eq, hW'.alike.method?]
      exact Option.some.inj (hc₂.symm.trans (h1.trans h.code))
    subst hcc
    have hlen : len₂ = len := by rw [hdg] at hd₂; cases hd₂; rfl
    subst hlen
    have hs₂ : s₂ = (({ U with heap := s₂.heap, slotsUsed := s₂.slotsUsed } : State).setVm s₂.vm).setTop { g with pc := g.pc + len₂, stack := v.toList ++ g.stack } := by
      refine e3.trans ?_
      rw [hf₂, State.calling_eq h.top, State.setFrames_setFrames, State.setTop_of_frames _ hr', hr]
      rfl
    have hsame : U.sameButNew ({ U with heap := s₂.heap, slotsUsed := s₂.slotsUsed } : State) L mc ms := by
      refine ⟨?_, q2, q3, q4, q5, q6⟩
      obtain ⟨t, ht, -⟩ := State.frames_cons hr
      show ({ U with heap := s₂.heap, slotsUsed := s₂.slotsUsed } : State) = { U.setFrames U.frames with heap := s₂.heap, slotsUsed := s₂.slotsUsed }
      rw [State.setFrames_self ht]
    subst hg
    refine Or.inl ⟨v, ⟨(({ U with heap := s₂.heap, slotsUsed := s₂.slotsUsed } : State).setVm s₂.vm), Ls ++ L, c0 + mc, s0 + ms⟩,
      ⟨X.admits, X.cas, X.clock, X.frames, X.room, X.hears, X.method, X.code, (X.here.setHeapUsed s₂.heap s₂.slotsUsed).setVm hW'.alike, X.tail, State.WarmedH.trans X.warmed hW', X.limits, X.bytes, X.same.trans (hsame.setVm s.vm)⟩,
      ⟨g, mk, s₂, L, rfl, rfl, hqc, rfl, hL, rfl, rfl⟩, ?_⟩
    show Steps p.tables e below _ ((({ U with heap := s₂.heap, slotsUsed := s₂.slotsUsed } : State).setVm s₂.vm).setTop { g with pc := g.pc + len₂, stack := v.toList ++ g.stack })
    rw [← hs₂]
    exact hsteps
  · obtain ⟨e2, q2, q3, q4, q5, q6⟩ := id hsm
    have e3 : s₂ = ({ (U.calling g mk a).setFrames s₂.frames with heap := s₂.heap, slotsUsed := s₂.slotsUsed } : State).setVm s₂.vm := by
      have : s₂ = ({ s₂ with vm := (U.calling g mk a).vm } : State).setVm s₂.vm := rfl
      rw [e2] at this
      exact this
    have hf₂ : s₂.frames = .throwing q :: .java g :: U.frames.tail := hend
    have hW' : U.WarmedH s₂.vm := hW₂
    have hs₂ : s₂ = ((({ U with heap := s₂.heap, slotsUsed := s₂.slotsUsed } : State).setVm s₂.vm).setTop g).pushFrame (.throwing q) := by
      refine e3.trans ?_
      rw [hf₂, State.calling_eq h.top, State.setFrames_setFrames, State.pushFrame, State.frames_setTop _ hr', State.setTop_of_frames _ hr', State.setFrames_setFrames, hr]
      rfl
    have hsame : U.sameButNew ({ U with heap := s₂.heap, slotsUsed := s₂.slotsUsed } : State) L mc ms := by
      refine ⟨?_, q2, q3, q4, q5, q6⟩
      obtain ⟨t, ht, -⟩ := State.frames_cons hr
      show ({ U with heap := s₂.heap, slotsUsed := s₂.slotsUsed } : State) = { U.setFrames U.frames with heap := s₂.heap, slotsUsed := s₂.slotsUsed }
      rw [State.setFrames_self ht]
    subst hg
    refine Or.inr ⟨q, ⟨(({ U with heap := s₂.heap, slotsUsed := s₂.slotsUsed } : State).setVm s₂.vm), Ls ++ L, c0 + mc, s0 + ms⟩,
      ⟨X.admits, X.cas, X.clock, X.frames, X.room, X.hears, X.method, X.code, (X.here.setHeapUsed s₂.heap s₂.slotsUsed).setVm hW'.alike, X.tail, State.WarmedH.trans X.warmed hW', X.limits, X.bytes, X.same.trans (hsame.setVm s.vm)⟩,
      ⟨g, mk, s₂, L, E, ce, rfl, rfl, hx, hce, hcv, hcl, rfl, hL, rfl, rfl⟩, ?_⟩
    show Steps p.tables e below _ (((({ U with heap := s₂.heap, slotsUsed := s₂.slotsUsed } : State).setVm s₂.vm).setTop g).pushFrame (.throwing q))
    rw [← hs₂]
    exact hsteps
end Payer
section Calls
variable {p : Program} {l : Launch} {e : Env} {R : Room} {s : State} {m : MethodId} {args : Array Value} {below : List Frame} {meth : Method} {c : Code} {T : State} {locs : List Loc} {cells slots : Nat}
theorem vx_callV (X : Stand p l e R s m args below meth c T locs cells slots) (hexec : p.tables.exec = Jvm.exec) {own C : String} {index : Nat} {y : MethodName} {bytes : ByteArray} {maxL : Nat} {ret : Option FieldType}
    (hown : s.vm.findClass own = some m.cls) (hlink : (Cond.methodLink own index y).before args s = true) (hinst : (Cond.instanceMethod y).before args s = true) (hsel : (Cond.selects C y y).before args s = true)
    (hcode : (Cond.code y bytes maxL ret).before args s = true) (hy : y.cls ≠ "java/lang/invoke/MethodHandle" ∧ y.cls ≠ "java/lang/invoke/VarHandle")
    {W9 : Nat} {Pre : Pt → Array Value → Prop} {Post : Pt → Array Value → Option Value → Pt → Prop} {PostX : Pt → Array Value → Addr → Pt → Prop} (hK : vx_Back l R p e below s args y 3 W9 Pre Post PostX)
    {b : Addr} {cellB : Cell} (hcell : T.heap[b]? = some cellB) (hobj : cellB.vm.isStatics = false) (hcls : s.vm.findClass C = some cellB.cls)
    {g : JFrame} (hg : g.method = m) (hsize : g.locals.size = c.maxLocals) {argsL rest : List Value} (hlen : ∀ sig, parseMethodDescriptor y.desc = some sig → argsL.length = sig.parameters.length)
    (hstack : g.stack = argsL.reverse ++ .ref b :: rest) (hW : 2 * g.monitorRoom + (rest.map fun v => v.category).sum ≤ W9) (hdg : decode c.code g.pc = .ok (.invokevirtual index, 3))
    (hpre : ∀ vm₁, s.WarmedH vm₁ → Pre ⟨T.setVm vm₁, locs, cells, slots⟩ (Value.ref b :: argsL).toArray) :
    (∃ (v : Option Value) (vm₁ : Vm) (B : Pt), s.WarmedH vm₁ ∧ Stand p l e R s m args below meth c B.U B.locs B.cells B.slots ∧ Post ⟨T.setVm vm₁, locs, cells, slots⟩ (Value.ref b :: argsL).toArray v B ∧
      ∀ target, Steps p.tables e below (B.U.setTop { g with pc := g.pc + 3, stack := v.toList ++ rest }) target → Steps p.tables e below (T.setTop g) target) ∨
    (∃ (q : Addr) (vm₁ : Vm) (B : Pt), s.WarmedH vm₁ ∧ Stand p l e R s m args below meth c B.U B.locs B.cells B.slots ∧ PostX ⟨T.setVm vm₁, locs, cells, slots⟩ (Value.ref b :: argsL).toArray q B ∧
      Steps p.tables e below (T.setTop g) ((B.U.setTop { g with stack := rest }).pushFrame (.throwing q))) := by
  obtain ⟨mk, methM, hnamed, hmethM, hstM, habM⟩ := Cond.instanceMethod_spec hinst
  obtain ⟨methM', cM, hmethM', -, -, -, -, -, -, hsigM⟩ := Cond.code_spec hnamed hcode
  cases hmethM.symm.trans hmethM'
  obtain ⟨c2, r2, m2, q1, q2, q3, q4, kP, hkP, hkPi⟩ := Cond.selects_spec hsel
  cases hcls.symm.trans q1
  cases (State.methodFound?_of_named hnamed hy).symm.trans q2
  cases hnamed.symm.trans q3
  have hselP : selectMethod e.platform s.vm cellB.cls mk = .method mk := by rw [Launch.admits_selectMethod X.admits]; exact q4
  obtain ⟨vm₁, X₁, hstep₁⟩ := X.invokevirtual hexec hown hlink hnamed hmethM hstM hkP hkPi hy (a := b) (cell := cellB) hcell
    (fun z h => by rw [h] at hobj; cases hobj) hselP hmethM habM hkP hkPi (g := g) hg (argsL := argsL) (rest := rest) (hlen _ hsigM) hstack hdg
  rcases hK m meth c ⟨T.setVm vm₁, locs, cells, slots⟩ { g with stack := rest } (.invokevirtual index) mk (Value.ref b :: argsL).toArray X₁ hg hsize hdg hW (X₁.named hnamed) (hpre vm₁ X₁.warmed) with ⟨v, B, X', hpost, hsteps⟩ | ⟨q, B, X', hpost, hsteps⟩
  · exact Or.inl ⟨v, vm₁, B, X₁.warmed, X', hpost, fun target h => hstep₁ _ fun acts => by rw [doInvoke_state]; exact hsteps.trans h⟩
  · exact Or.inr ⟨q, vm₁, B, X₁.warmed, X', hpost, hstep₁ _ fun acts => by rw [doInvoke_state]; exact hsteps⟩
theorem vx_callS (X : Stand p l e R s m args below meth c T locs cells slots) (hexec : p.tables.exec = Jvm.exec) {own : String} {index : Nat} {y : MethodName} {bytes : ByteArray} {maxL : Nat} {ret : Option FieldType}
    (hown : s.vm.findClass own = some m.cls) (hlink : (Cond.methodLink own index y).before args s = true) (hstat : (Cond.static y).before args s = true) (hinit : (Cond.initialized y.cls).before args s = true)
    (hcode : (Cond.code y bytes maxL ret).before args s = true) (hy : y.cls ≠ "java/lang/invoke/MethodHandle" ∧ y.cls ≠ "java/lang/invoke/VarHandle")
    {W9 : Nat} {Pre : Pt → Array Value → Prop} {Post : Pt → Array Value → Option Value → Pt → Prop} {PostX : Pt → Array Value → Addr → Pt → Prop} (hK : vx_Back l R p e below s args y 3 W9 Pre Post PostX)
    {g : JFrame} (hg : g.method = m) (hsize : g.locals.size = c.maxLocals) {argsL rest : List Value} (hlen : ∀ sig, parseMethodDescriptor y.desc = some sig → argsL.length = sig.parameters.length)
    (hstack : g.stack = argsL.reverse ++ rest) (hW : 2 * g.monitorRoom + (rest.map fun v => v.category).sum ≤ W9) (hdg : decode c.code g.pc = .ok (.invokestatic index, 3))
    (hpre : ∀ vm₁, s.WarmedH vm₁ → Pre ⟨T.setVm vm₁, locs, cells, slots⟩ argsL.toArray) :
    (∃ (v : Option Value) (vm₁ : Vm) (B : Pt), s.WarmedH vm₁ ∧ Stand p l e R s m args below meth c B.U B.locs B.cells B.slots ∧ Post ⟨T.setVm vm₁, locs, cells, slots⟩ argsL.toArray v B ∧
      ∀ target, Steps p.tables e below (B.U.setTop { g with pc := g.pc + 3, stack := v.toList ++ rest }) target → Steps p.tables e below (T.setTop g) target) ∨
    (∃ (q : Addr) (vm₁ : Vm) (B : Pt), s.WarmedH vm₁ ∧ Stand p l e R s m args below meth c B.U B.locs B.cells B.slots ∧ PostX ⟨T.setVm vm₁, locs, cells, slots⟩ argsL.toArray q B ∧
      Steps p.tables e below (T.setTop g) ((B.U.setTop { g with stack := rest }).pushFrame (.throwing q))) := by
  obtain ⟨mk, hnamed⟩ := Cond.code_named hcode
  obtain ⟨methM, cM, hmethM, -, -, -, -, -, -, hsigM⟩ := Cond.code_spec hnamed hcode
  have hstatic : methM.isStatic = true := Cond.static_spec hnamed hmethM hstat
  obtain ⟨kP, hkP, -⟩ := className_of_methodNamed hnamed
  have hinitP : kP.init = .initialized := Cond.initialized_spec (findClass_of_methodNamed hnamed) hkP hinit
  obtain ⟨vm₁, X₁, hstep₁⟩ := X.invokestatic hexec hown hlink hnamed hmethM hstatic hkP hinitP hy (g := g) hg (argsL := argsL) (rest := rest) (hlen _ hsigM) hstack hdg
  rcases hK m meth c ⟨T.setVm vm₁, locs, cells, slots⟩ { g with stack := rest } (.invokestatic index) mk argsL.toArray X₁ hg hsize hdg hW (X₁.named hnamed) (hpre vm₁ X₁.warmed) with ⟨v, B, X', hpost, hsteps⟩ | ⟨q, B, X', hpost, hsteps⟩
  · exact Or.inl ⟨v, vm₁, B, X₁.warmed, X', hpost, fun target h => hstep₁ _ fun acts => by rw [doInvoke_state]; exact hsteps.trans h⟩
  · exact Or.inr ⟨q, vm₁, B, X₁.warmed, X', hpost, hstep₁ _ fun acts => by rw [doInvoke_state]; exact hsteps⟩
end Calls
theorem vx_cls {s : State} {T : State} {vm₁ : Vm} {E : String} {k : ClassId} (hW : s.WarmedH vm₁) (h : (T.setVm vm₁).vm.findClass E = some k) : s.vm.findClass E = some k := by
  have h1 : vm₁.findClass E = some k := h
  rw [hW.alike.findClass] at h1
  exact h1
/-- the method's frame g, with q thrown over it -/
def vx_W (p : Program) (l : Launch) (e : Env) (R : Room) (s : State) (m : MethodId) (args : Array Value) (below : List Frame) (meth : Method) (c : Code) (H : Heap) (locs : List Loc) (cells slots : Nat) (Q : State → Prop) (g : JFrame) (q : Addr) : Prop :=
  ∀ T : State, T.heap = H → Stand p l e R s m args below meth c T locs cells slots → ∃ t, Steps p.tables e below ((T.setTop g).pushFrame (.throwing q)) t ∧ Q t
def vx_Run (p : Program) (l : Launch) (e : Env) (R : Room) (s : State) (m : MethodId) (args : Array Value) (below : List Frame) (meth : Method) (c : Code) (H : Heap) (locs : List Loc) (cells slots mc ms : Nat) (g : JFrame) (rest : List Value) (Qa : State → Outcome → State → Prop) (XC : String → State → State → Prop) (free : Addr → Prop) : Prop :=
  ∀ T : State, T.heap = H → Stand p l e R s m args below meth c T locs cells slots →
    (∃ (v : Option Value) (st₀ t T' : State) (L : List Loc), st₀.heap = H ∧ Stand p l e R s m args below meth c T' (locs ++ L) (cells + mc) (slots + ms) ∧ (∀ q ∈ L, free q.base) ∧ T'.heap = t.heap ∧ T'.vm = t.vm ∧ Qa st₀ (.returned v) t ∧
      Goes p e below T g T' { g with pc := g.pc + 3, stack := v.toList ++ rest }) ∨
    (∃ (q : Addr) (st₀ t T' : State) (L : List Loc) (E : String) (ce : Cell), st₀.heap = H ∧ Stand p l e R s m args below meth c T' (locs ++ L) (cells + mc) (slots + ms) ∧ (∀ z ∈ L, free z.base) ∧ T'.heap = t.heap ∧ T'.vm = t.vm ∧ XC E st₀ t ∧ t.heap[q]? = some ce ∧ ce.vm = .none ∧ s.vm.findClass E = some ce.cls ∧
      Steps p.tables e below (T.setTop g) ((T'.setTop { g with stack := rest }).pushFrame (.throwing q)))
def vx_X {S : Type} (px : S → Prop) (B : String → S → State → Prop) (A : Nat → Prop) : String → State → State → Prop := fun E st t => ∃ u : S, px u ∧ B E u t ∧ va_F A st t
section Runs
variable {p : Program} {l : Launch} {e : Env} {R : Room} {s : State} {m : MethodId} {args : Array Value} {below : List Frame} {meth : Method} {c : Code} {H : Heap} {locs : List Loc} {cells slots : Nat}
variable {y : MethodName} {bytes cc : ByteArray} {maxL nL mc ms n index : Nat} {ret : Option FieldType} {ws : List Cond} {rm : Room} {Pc : Array Value → State → Prop} {Qc : Array Value → State → Outcome → State → Prop} {XC : String → State → State → Prop} {free : Addr → Prop} {Ts : List Cond} {own C : String} {b : Addr} {As rest : List Value} {g : JFrame}
theorem vx_callBack (cb : CallB R s args own index y bytes maxL ret ws rm mc ms n) (hM : vx_Met l y ws rm Pc Qc XC mc ms free) (hbl : FrameBlind Pc) : vx_Back l R p e below s args y 3 8 (PreOf R mc ms Pc) (PostOf Qc mc ms free) (vx_Post XC mc ms free) := by
  obtain ⟨hrc, hrs, hfr, hlo, hws, hcw, -, hini, -⟩ := cb
  exact vx_back (bytes := bytes) (maxL := maxL) (ret := ret) hM hbl hrc hrs hfr hlo hws hcw (fun a' U hW => word_at hW (Or.inl (by first | rfl | simp [Cond.onTables, Cond.keeps, Cond.steady])) hini)
theorem vx_runV (S : CallFix p m c cc nL s args Ts own) (hM : vx_Met l y ws rm Pc Qc XC mc ms free) (cw : CallW R s args own C index y bytes maxL ret ws rm mc ms n) (hp : PreV s H C b Pc As)
    (hg : g.method = m) (hn : As.length = n) (hsize : g.locals.size = nL) (hstack : g.stack = As.reverse ++ .ref b :: rest) (hW : 2 * g.monitorRoom + (rest.map fun v => v.category).sum ≤ 8) (hdg : decode cc g.pc = .ok (.invokevirtual index, 3)) (hf : cells + mc ≤ R.cells ∧ slots + ms ≤ R.slots) :
    vx_Run p l e R s m args below meth c H locs cells slots mc ms g rest (Qc (Value.ref b :: As).toArray) XC free := by
  have hK : vx_Back l R p e below s args y 3 8 (PreOf R mc ms Pc) (PostOf Qc mc ms free) (vx_Post XC mc ms free) := vx_callBack cw.1 hM hp.1
  obtain ⟨⟨-, -, -, -, -, -, hcode, -, hy, hlen, hl⟩, hin, hse⟩ := cw
  obtain ⟨hx, hb, hml, ho, -⟩ := S
  obtain ⟨-, ⟨cellB, hcB, hoB, hclB⟩, hPc⟩ := hp
  intro T hT X
  rcases vx_callV X hx (C := C) (bytes := bytes) (maxL := maxL) (ret := ret) ho hl hin hse hcode hy hK (by rw [hT]; exact hcB) hoB hclB hg (hsize.trans hml.symm) (argsL := As) (rest := rest) (fun sig h => hn.trans (hlen sig h)) hstack hW (by rw [hb]; exact hdg)
    (fun vm₁ hW₁ => ⟨hf.1, hf.2, hPc (T.setVm vm₁) hT hW₁⟩) with ⟨v, vm₁, ⟨U', l2, c2, s2⟩, hW₁, X', ⟨g', mk, t, L, e1, e2, hq, h1, hL, h2, h3⟩, st⟩ | ⟨q, vm₁, ⟨U', l2, c2, s2⟩, hW₁, X', ⟨g', mk, t, L, E, ce, e1, e2, hq, hce, hcv, hcl, h1, hL, h2, h3⟩, st⟩
  · dsimp only [Pt.U, Pt.locs, Pt.cells, Pt.slots] at X' e1 e2 h1 h2 h3 st
    subst h1; subst h2; subst h3
    exact Or.inl ⟨v, (T.setVm vm₁).calling g' mk (Value.ref b :: As).toArray, t, U', L, hT, X', hL, e1, e2, hq, st⟩
  · dsimp only [Pt.U, Pt.locs, Pt.cells, Pt.slots] at X' e1 e2 h1 h2 h3 st hcl
    subst h1; subst h2; subst h3
    exact Or.inr ⟨q, (T.setVm vm₁).calling g' mk (Value.ref b :: As).toArray, t, U', L, E, ce, hT, X', hL, e1, e2, hq, hce, hcv, vx_cls hW₁ hcl, st⟩
theorem vx_runS (S : CallFix p m c cc nL s args Ts own) (hM : vx_Met l y ws rm Pc Qc XC mc ms free) (cw : CallB R s args own index y bytes maxL ret ws rm mc ms n ∧ (Cond.static y).before args s = true) (hp : PreS s H Pc As)
    (hg : g.method = m) (hn : As.length = n) (hsize : g.locals.size = nL) (hstack : g.stack = As.reverse ++ rest) (hW : 2 * g.monitorRoom + (rest.map fun v => v.category).sum ≤ 8) (hdg : decode cc g.pc = .ok (.invokestatic index, 3)) (hf : cells + mc ≤ R.cells ∧ slots + ms ≤ R.slots) :
    vx_Run p l e R s m args below meth c H locs cells slots mc ms g rest (Qc As.toArray) XC free := by
  have hK : vx_Back l R p e below s args y 3 8 (PreOf R mc ms Pc) (PostOf Qc mc ms free) (vx_Post XC mc ms free) := vx_callBack cw.1 hM hp.1
  obtain ⟨⟨-, -, -, -, -, -, hcode, hini, hy, hlen, hl⟩, hstt⟩ := cw
  obtain ⟨hx, hb, hml, ho, -⟩ := S
  intro T hT X
  rcases vx_callS X hx (bytes := bytes) (maxL := maxL) (ret := ret) ho hl hstt hini hcode hy hK hg (hsize.trans hml.symm) (argsL := As) (rest := rest) (fun sig h => hn.trans (hlen sig h)) hstack hW (by rw [hb]; exact hdg)
    (fun vm₁ hW₁ => ⟨hf.1, hf.2, hp.2 (T.setVm vm₁) hT hW₁⟩) with ⟨v, vm₁, ⟨U', l2, c2, s2⟩, hW₁, X', ⟨g', mk, t, L, e1, e2, hq, h1, hL, h2, h3⟩, st⟩ | ⟨q, vm₁, ⟨U', l2, c2, s2⟩, hW₁, X', ⟨g', mk, t, L, E, ce, e1, e2, hq, hce, hcv, hcl, h1, hL, h2, h3⟩, st⟩
  · dsimp only [Pt.U, Pt.locs, Pt.cells, Pt.slots] at X' e1 e2 h1 h2 h3 st
    subst h1; subst h2; subst h3
    exact Or.inl ⟨v, (T.setVm vm₁).calling g' mk As.toArray, t, U', L, hT, X', hL, e1, e2, hq, st⟩
  · dsimp only [Pt.U, Pt.locs, Pt.cells, Pt.slots] at X' e1 e2 h1 h2 h3 st hcl
    subst h1; subst h2; subst h3
    exact Or.inr ⟨q, (T.setVm vm₁).calling g' mk As.toArray, t, U', L, E, ce, hT, X', hL, e1, e2, hq, hce, hcv, vx_cls hW₁ hcl, st⟩
end Runs
section Rows
variable {p : Program} {l : Launch} {e : Env} {R : Room} {s : State} {m : MethodId} {args : Array Value} {below : List Frame} {meth : Method} {c : Code} {H : Heap} {locs : List Loc} {cells slots : Nat} {Q : State → Prop}
variable {mc ms : Nat} {free : Addr → Prop} {A0 A1 : Nat → Prop} {H0 : Heap} {a : Array Value} {pc : Nat} {ls : Array Slot} {st0 rest : List Value}
theorem vx_keep {st₀ t T' : State} {L : List Loc} (h0 : st₀.heap = H) (e1 : T'.heap = t.heap) (hS : va_S A0 H0 H locs) (hA : ∀ q, q < H.size → A1 q → A0 q) (hf : ∀ q, free q → A0 q) (hL : ∀ q ∈ L, free q.base) (hF : va_F A1 st₀ t) :
    H.size ≤ T'.heap.size ∧ (∀ q : Nat, q < H.size → ¬ A1 q → T'.heap[q]? = H[q]?) ∧ va_S A0 H0 T'.heap (locs ++ L) := by
  obtain ⟨hz, hk⟩ := hF
  rw [h0] at hz hk
  exact ⟨by rw [e1]; exact hz, fun q h1 h2 => by rw [e1]; exact hk q h1 h2,
    ⟨Nat.le_trans hS.1 (by rw [e1]; exact hz), fun q h1 h2 => by rw [e1, hk q (Nat.lt_of_lt_of_le h1 hS.1) (fun z => h2 (hA q (Nat.lt_of_lt_of_le h1 hS.1) z))]; exact hS.2.1 q h1 h2, fun q hq => by
      rcases List.mem_append.mp hq with h | h
      · exact hS.2.2 q h
      · exact hf _ (hL q h)⟩⟩
theorem vx_calli {S SX : Type} {post : Int32 → S → Prop} {px : SX → Prop} {B : S → State → Prop} {BX : String → SX → State → Prop} {AX : Nat → Prop} (hr : vx_Run p l e R s m args below meth c H locs cells slots mc ms (F0 m pc ls st0) rest (va_Qi post B A1 a) (vx_X px BX AX) free) (hS : va_S A0 H0 H locs) (hA : ∀ q, q < H.size → A1 q → A0 q) (hf : ∀ q, free q → A0 q) (hAX : ∀ q, q < H.size → AX q → A0 q)
    (kx : ∀ (E : String) (ce : Cell) (q9 : Addr) (u : SX) (t : State) (H1 : Heap) (locs1 : List Loc), t.heap = H1 → s.vm.Alike t.vm → px u → BX E u t → H.size ≤ H1.size → (∀ q : Nat, q < H.size → ¬ AX q → H1[q]? = H[q]?) → va_S A0 H0 H1 locs1 → H1[q9]? = some ce → ce.vm = .none → s.vm.findClass E = some ce.cls → vx_W p l e R s m args below meth c H1 locs1 (cells + mc) (slots + ms) Q (F0 m pc ls rest) q9)
    (kk : ∀ (r : Int32) (u : S) (t : State) (H1 : Heap) (locs1 : List Loc), t.heap = H1 → s.vm.Alike t.vm → post r u → B u t → H.size ≤ H1.size → (∀ q : Nat, q < H.size → ¬ A1 q → H1[q]? = H[q]?) → va_S A0 H0 H1 locs1 → W p l e R s m args below meth c H1 locs1 (cells + mc) (slots + ms) Q (F0 m (pc + 3) ls (.int r :: rest))) : W p l e R s m args below meth c H locs cells slots Q (F0 m pc ls st0) := by
  intro T hT X
  rcases hr T hT X with ⟨v, st₀, t, T', L, h0, X', hL, e1, e2, ⟨⟨r, u, hv, hp, hb⟩, hF⟩, st⟩ | ⟨q, st₀, t, T', L, E, ce, h0, X', hL, e1, e2, ⟨u, hp, hb, hF⟩, hce, hcv, hcl, st⟩
  · cases hv
    obtain ⟨k1, k2, k3⟩ := vx_keep h0 e1 hS hA hf hL hF
    obtain ⟨t2, a1, b1⟩ := kk r u t T'.heap (locs ++ L) e1.symm (by rw [← e2]; exact X'.warmed.alike) hp hb k1 k2 k3 T' rfl X'
    exact ⟨t2, st t2 a1, b1⟩
  · obtain ⟨k1, k2, k3⟩ := vx_keep h0 e1 hS hAX hf hL hF
    obtain ⟨t2, a1, b1⟩ := kx E ce q u t T'.heap (locs ++ L) e1.symm (by rw [← e2]; exact X'.warmed.alike) hp hb k1 k2 k3 (by rw [e1]; exact hce) hcv hcl T' rfl X'
    exact ⟨t2, st.trans a1, b1⟩
theorem vx_calll {S SX : Type} {post : Int64 → S → Prop} {px : SX → Prop} {B : S → State → Prop} {BX : String → SX → State → Prop} {AX : Nat → Prop} (hr : vx_Run p l e R s m args below meth c H locs cells slots mc ms (F0 m pc ls st0) rest (va_Ql post B A1 a) (vx_X px BX AX) free) (hS : va_S A0 H0 H locs) (hA : ∀ q, q < H.size → A1 q → A0 q) (hf : ∀ q, free q → A0 q) (hAX : ∀ q, q < H.size → AX q → A0 q)
    (kx : ∀ (E : String) (ce : Cell) (q9 : Addr) (u : SX) (t : State) (H1 : Heap) (locs1 : List Loc), t.heap = H1 → s.vm.Alike t.vm → px u → BX E u t → H.size ≤ H1.size → (∀ q : Nat, q < H.size → ¬ AX q → H1[q]? = H[q]?) → va_S A0 H0 H1 locs1 → H1[q9]? = some ce → ce.vm = .none → s.vm.findClass E = some ce.cls → vx_W p l e R s m args below meth c H1 locs1 (cells + mc) (slots + ms) Q (F0 m pc ls rest) q9)
    (kk : ∀ (r : Int64) (u : S) (t : State) (H1 : Heap) (locs1 : List Loc), t.heap = H1 → s.vm.Alike t.vm → post r u → B u t → H.size ≤ H1.size → (∀ q : Nat, q < H.size → ¬ A1 q → H1[q]? = H[q]?) → va_S A0 H0 H1 locs1 → W p l e R s m args below meth c H1 locs1 (cells + mc) (slots + ms) Q (F0 m (pc + 3) ls (.long r :: rest))) : W p l e R s m args below meth c H locs cells slots Q (F0 m pc ls st0) := by
  intro T hT X
  rcases hr T hT X with ⟨v, st₀, t, T', L, h0, X', hL, e1, e2, ⟨⟨r, u, hv, hp, hb⟩, hF⟩, st⟩ | ⟨q, st₀, t, T', L, E, ce, h0, X', hL, e1, e2, ⟨u, hp, hb, hF⟩, hce, hcv, hcl, st⟩
  · cases hv
    obtain ⟨k1, k2, k3⟩ := vx_keep h0 e1 hS hA hf hL hF
    obtain ⟨t2, a1, b1⟩ := kk r u t T'.heap (locs ++ L) e1.symm (by rw [← e2]; exact X'.warmed.alike) hp hb k1 k2 k3 T' rfl X'
    exact ⟨t2, st t2 a1, b1⟩
  · obtain ⟨k1, k2, k3⟩ := vx_keep h0 e1 hS hAX hf hL hF
    obtain ⟨t2, a1, b1⟩ := kx E ce q u t T'.heap (locs ++ L) e1.symm (by rw [← e2]; exact X'.warmed.alike) hp hb k1 k2 k3 (by rw [e1]; exact hce) hcv hcl T' rfl X'
    exact ⟨t2, st.trans a1, b1⟩
theorem vx_callf {S SX : Type} {post : UInt32 → S → Prop} {px : SX → Prop} {B : S → State → Prop} {BX : String → SX → State → Prop} {AX : Nat → Prop} (hr : vx_Run p l e R s m args below meth c H locs cells slots mc ms (F0 m pc ls st0) rest (va_Qf post B A1 a) (vx_X px BX AX) free) (hS : va_S A0 H0 H locs) (hA : ∀ q, q < H.size → A1 q → A0 q) (hf : ∀ q, free q → A0 q) (hAX : ∀ q, q < H.size → AX q → A0 q)
    (kx : ∀ (E : String) (ce : Cell) (q9 : Addr) (u : SX) (t : State) (H1 : Heap) (locs1 : List Loc), t.heap = H1 → s.vm.Alike t.vm → px u → BX E u t → H.size ≤ H1.size → (∀ q : Nat, q < H.size → ¬ AX q → H1[q]? = H[q]?) → va_S A0 H0 H1 locs1 → H1[q9]? = some ce → ce.vm = .none → s.vm.findClass E = some ce.cls → vx_W p l e R s m args below meth c H1 locs1 (cells + mc) (slots + ms) Q (F0 m pc ls rest) q9)
    (kk : ∀ (r : UInt32) (u : S) (t : State) (H1 : Heap) (locs1 : List Loc), t.heap = H1 → s.vm.Alike t.vm → post r u → B u t → H.size ≤ H1.size → (∀ q : Nat, q < H.size → ¬ A1 q → H1[q]? = H[q]?) → va_S A0 H0 H1 locs1 → W p l e R s m args below meth c H1 locs1 (cells + mc) (slots + ms) Q (F0 m (pc + 3) ls (.float r :: rest))) : W p l e R s m args below meth c H locs cells slots Q (F0 m pc ls st0) := by
  intro T hT X
  rcases hr T hT X with ⟨v, st₀, t, T', L, h0, X', hL, e1, e2, ⟨⟨r, u, hv, hp, hb⟩, hF⟩, st⟩ | ⟨q, st₀, t, T', L, E, ce, h0, X', hL, e1, e2, ⟨u, hp, hb, hF⟩, hce, hcv, hcl, st⟩
  · cases hv
    obtain ⟨k1, k2, k3⟩ := vx_keep h0 e1 hS hA hf hL hF
    obtain ⟨t2, a1, b1⟩ := kk r u t T'.heap (locs ++ L) e1.symm (by rw [← e2]; exact X'.warmed.alike) hp hb k1 k2 k3 T' rfl X'
    exact ⟨t2, st t2 a1, b1⟩
  · obtain ⟨k1, k2, k3⟩ := vx_keep h0 e1 hS hAX hf hL hF
    obtain ⟨t2, a1, b1⟩ := kx E ce q u t T'.heap (locs ++ L) e1.symm (by rw [← e2]; exact X'.warmed.alike) hp hb k1 k2 k3 (by rw [e1]; exact hce) hcv hcl T' rfl X'
    exact ⟨t2, st.trans a1, b1⟩
theorem vx_calld {S SX : Type} {post : UInt64 → S → Prop} {px : SX → Prop} {B : S → State → Prop} {BX : String → SX → State → Prop} {AX : Nat → Prop} (hr : vx_Run p l e R s m args below meth c H locs cells slots mc ms (F0 m pc ls st0) rest (va_Qd post B A1 a) (vx_X px BX AX) free) (hS : va_S A0 H0 H locs) (hA : ∀ q, q < H.size → A1 q → A0 q) (hf : ∀ q, free q → A0 q) (hAX : ∀ q, q < H.size → AX q → A0 q)
    (kx : ∀ (E : String) (ce : Cell) (q9 : Addr) (u : SX) (t : State) (H1 : Heap) (locs1 : List Loc), t.heap = H1 → s.vm.Alike t.vm → px u → BX E u t → H.size ≤ H1.size → (∀ q : Nat, q < H.size → ¬ AX q → H1[q]? = H[q]?) → va_S A0 H0 H1 locs1 → H1[q9]? = some ce → ce.vm = .none → s.vm.findClass E = some ce.cls → vx_W p l e R s m args below meth c H1 locs1 (cells + mc) (slots + ms) Q (F0 m pc ls rest) q9)
    (kk : ∀ (r : UInt64) (u : S) (t : State) (H1 : Heap) (locs1 : List Loc), t.heap = H1 → s.vm.Alike t.vm → post r u → B u t → H.size ≤ H1.size → (∀ q : Nat, q < H.size → ¬ A1 q → H1[q]? = H[q]?) → va_S A0 H0 H1 locs1 → W p l e R s m args below meth c H1 locs1 (cells + mc) (slots + ms) Q (F0 m (pc + 3) ls (.double r :: rest))) : W p l e R s m args below meth c H locs cells slots Q (F0 m pc ls st0) := by
  intro T hT X
  rcases hr T hT X with ⟨v, st₀, t, T', L, h0, X', hL, e1, e2, ⟨⟨r, u, hv, hp, hb⟩, hF⟩, st⟩ | ⟨q, st₀, t, T', L, E, ce, h0, X', hL, e1, e2, ⟨u, hp, hb, hF⟩, hce, hcv, hcl, st⟩
  · cases hv
    obtain ⟨k1, k2, k3⟩ := vx_keep h0 e1 hS hA hf hL hF
    obtain ⟨t2, a1, b1⟩ := kk r u t T'.heap (locs ++ L) e1.symm (by rw [← e2]; exact X'.warmed.alike) hp hb k1 k2 k3 T' rfl X'
    exact ⟨t2, st t2 a1, b1⟩
  · obtain ⟨k1, k2, k3⟩ := vx_keep h0 e1 hS hAX hf hL hF
    obtain ⟨t2, a1, b1⟩ := kx E ce q u t T'.heap (locs ++ L) e1.symm (by rw [← e2]; exact X'.warmed.alike) hp hb k1 k2 k3 (by rw [e1]; exact hce) hcv hcl T' rfl X'
    exact ⟨t2, st.trans a1, b1⟩
theorem vx_callv {S SX : Type} {post : S → Prop} {px : SX → Prop} {B : S → State → Prop} {BX : String → SX → State → Prop} {AX : Nat → Prop} (hr : vx_Run p l e R s m args below meth c H locs cells slots mc ms (F0 m pc ls st0) rest (va_Qv post B A1 a) (vx_X px BX AX) free) (hS : va_S A0 H0 H locs) (hA : ∀ q, q < H.size → A1 q → A0 q) (hf : ∀ q, free q → A0 q) (hAX : ∀ q, q < H.size → AX q → A0 q)
    (kx : ∀ (E : String) (ce : Cell) (q9 : Addr) (u : SX) (t : State) (H1 : Heap) (locs1 : List Loc), t.heap = H1 → s.vm.Alike t.vm → px u → BX E u t → H.size ≤ H1.size → (∀ q : Nat, q < H.size → ¬ AX q → H1[q]? = H[q]?) → va_S A0 H0 H1 locs1 → H1[q9]? = some ce → ce.vm = .none → s.vm.findClass E = some ce.cls → vx_W p l e R s m args below meth c H1 locs1 (cells + mc) (slots + ms) Q (F0 m pc ls rest) q9)
    (kk : ∀ (u : S) (t : State) (H1 : Heap) (locs1 : List Loc), t.heap = H1 → s.vm.Alike t.vm → post u → B u t → H.size ≤ H1.size → (∀ q : Nat, q < H.size → ¬ A1 q → H1[q]? = H[q]?) → va_S A0 H0 H1 locs1 → W p l e R s m args below meth c H1 locs1 (cells + mc) (slots + ms) Q (F0 m (pc + 3) ls (rest))) : W p l e R s m args below meth c H locs cells slots Q (F0 m pc ls st0) := by
  intro T hT X
  rcases hr T hT X with ⟨v, st₀, t, T', L, h0, X', hL, e1, e2, ⟨⟨u, hv, hp, hb⟩, hF⟩, st⟩ | ⟨q, st₀, t, T', L, E, ce, h0, X', hL, e1, e2, ⟨u, hp, hb, hF⟩, hce, hcv, hcl, st⟩
  · cases hv
    obtain ⟨k1, k2, k3⟩ := vx_keep h0 e1 hS hA hf hL hF
    obtain ⟨t2, a1, b1⟩ := kk u t T'.heap (locs ++ L) e1.symm (by rw [← e2]; exact X'.warmed.alike) hp hb k1 k2 k3 T' rfl X'
    exact ⟨t2, st t2 a1, b1⟩
  · obtain ⟨k1, k2, k3⟩ := vx_keep h0 e1 hS hAX hf hL hF
    obtain ⟨t2, a1, b1⟩ := kx E ce q u t T'.heap (locs ++ L) e1.symm (by rw [← e2]; exact X'.warmed.alike) hp hb k1 k2 k3 (by rw [e1]; exact hce) hcv hcl T' rfl X'
    exact ⟨t2, st.trans a1, b1⟩
/-- caught by the row x of this method's table; the rows ahead don't take it -/
theorem vx_catch {own name : String} {E : String} {ce : Cell} {q : Addr} (hown : s.vm.findClass own = some m.cls) (pre : List ExceptionTableEntry) (x : ExceptionTableEntry) (suf : List ExceptionTableEntry) (hsplit : c.exceptionTable.toList = pre ++ x :: suf)
    (hpass : ∀ z ∈ pre, covers z pc = false ∨ (z.catchType ≠ 0 ∧ ∃ nm : String, (Cond.classLink own z.catchType nm).before args s = true ∧ va_Nc E nm s)) (hx : covers x pc = true) (h0 : x.catchType ≠ 0)
    (hlink : (Cond.classLink own x.catchType name).before args s = true) (hcast : (Cond.castable E name).before args s = true) (hcell : H[q]? = some ce) (hv : ce.vm = .none) (hcl : s.vm.findClass E = some ce.cls)
    (kk : W p l e R s m args below meth c H locs cells slots Q (F0 m x.handlerPc ls [.ref q])) : vx_W p l e R s m args below meth c H locs cells slots Q (F0 m pc ls rest) q := by
  intro T hT X
  have hpl : e.platform.magicAccessors = ({} : Platform).magicAccessors := by rw [X.admits.platform]
  obtain ⟨c3, c4, hc3, hc4, hasg⟩ := Cond.castable_spec hcast
  cases Option.some.inj (hc3.symm.trans hcl)
  obtain ⟨c5, hc5, hcl5⟩ := Cond.classLink_spec hown hlink e.platform hpl
  cases Option.some.inj (hc4.symm.trans hc5)
  obtain ⟨vm', X', st⟩ := X.thenCaughtThrough q (g := F0 m pc ls rest) rfl (Steps.refl _) (by rw [hT]; exact hcell) (by rw [hv]; rfl) (by obtain ⟨k9, h9, -⟩ := Vm.findClass_spec hcl; exact ⟨k9, h9⟩) pre x suf hsplit
    (fun z hz => by
      rcases hpass z hz with h | ⟨hz0, nm, hl1, hn1⟩
      · exact Or.inl h
      · obtain ⟨c6, hc6, hcl6⟩ := Cond.classLink_spec hown hl1 e.platform hpl
        obtain ⟨a8, b8, h1, h2, h3⟩ := hn1
        cases Option.some.inj (h1.symm.trans hcl)
        cases Option.some.inj (h2.symm.trans hc6)
        exact Or.inr ⟨hz0, _, hcl6, h3⟩) hx (Or.inr ⟨h0, c4, hcl5, hasg⟩)
  obtain ⟨t, a1, b1⟩ := kk (T.setVm vm') hT X'
  exact ⟨t, st.trans a1, b1⟩
end Rows
section Ends
variable {p : Program} {l : Launch} {e : Env} {R : Room} {s : State} {m : MethodId} {args : Array Value} {below : List Frame} {meth : Method} {c : Code} {H : Heap} {locs : List Loc} {cells slots : Nat} {Q : State → Prop}
variable {mc ms : Nat} {free : Addr → Prop} {A0 A1 : Nat → Prop} {H0 : Heap} {a : Array Value} {ls : Array Slot} {st0 rest : List Value}
variable {Qc : Array Value → State → Outcome → State → Prop} {XC : String → State → State → Prop}
/-- what a body that may throw owes at its end -/
def vx_MQ (below : List Frame) (Qc : Array Value → State → Outcome → State → Prop) (XC : String → State → State → Prop) (a : Array Value) (s : State) (mc ms : Nat) (free : Addr → Prop) : State → Prop := fun t =>
  ∃ o, t.status = .running ∧ Ended t below o ∧ vx_Q Qc XC mc ms free a s o t
theorem vx_ret {g : JFrame} {mc ms : Nat} (k : W p l e R s m args below meth c H locs cells slots (MQ below Qc args s mc ms free) g) : W p l e R s m args below meth c H locs cells slots (vx_MQ below Qc XC args s mc ms free) g := by
  intro T hT X
  obtain ⟨t, a1, o, b1, b2, b3, b4⟩ := k T hT X
  exact ⟨t, a1, o, b1, b2, Or.inl ⟨b3, b4⟩⟩
/-- not caught here: it goes on to the caller -/
theorem vx_widen {g : JFrame} {q : Addr} {k n : Nat} (h1 : cells ≤ k) (h2 : slots ≤ n) (kk : vx_W p l e R s m args below meth c H locs k n Q g q) : vx_W p l e R s m args below meth c H locs cells slots Q g q := fun T hT X => kk T hT (stand_widen X h1 h2)
theorem vx_out {pc : Nat} {E : String} {ce : Cell} {q : Addr} {mc ms : Nat} (hout : ∀ x ∈ c.exceptionTable.toList, covers x pc = false) (hlocks : meth.locks = false) (hcell : H[q]? = some ce) (hv : ce.vm = .none) (hcl : s.vm.findClass E = some ce.cls)
    (hx : ∀ t : State, t.heap = H → s.vm.Alike t.vm → XC E s t) (hf : ∀ z ∈ locs, free z.base) (hc : cells ≤ mc) (hs : slots ≤ ms) :
    vx_W p l e R s m args below meth c H locs cells slots (vx_MQ below Qc XC args s mc ms free) (F0 m pc ls rest) q := by
  intro T hT X
  obtain ⟨st1, hrun, hend, hW, hsm⟩ := X.leaveThrown q (g := F0 m pc ls rest) rfl rfl rfl hout hlocks
  have hcell9 : (T.setFrames (.throwing q :: below)).heap[q]? = some ce := by
    show T.heap[q]? = some ce
    rw [hT]; exact hcell
  exact ⟨_, st1, .threw q, hrun, hend, Or.inr ⟨q, rfl, E, ce, locs, hx _ hT hW.alike, hcell9, hv, hcl, hW, hsm.mono hc hs, hf⟩⟩
theorem vx_frame {U : State} {k n : Nat} (h : s.sameButNew ({ U with vm := s.vm } : State) locs k n) : s.heap.size ≤ U.heap.size ∧ ∀ q : Nat, q < s.heap.size → (∀ z ∈ locs, z.base ≠ q) → U.heap[q]? = s.heap[q]? := by
  obtain ⟨-, h2, -, -, -, h6⟩ := h
  refine ⟨h2, fun q hq hz => ?_⟩
  obtain ⟨c9, e1, e2, e3, e4⟩ := h6 q _ (Array.getElem?_eq_getElem hq)
  have hs : c9.slots = (s.heap[q]).slots := Array.ext_getElem? fun i => e4 i fun hm => hz _ hm rfl
  have h9 : c9 = s.heap[q] := by
    rw [hs] at e2
    exact e2
  have e5 : U.heap[q]? = some c9 := e1
  rw [e5, h9, Array.getElem?_eq_getElem hq]
/-- the words of a throw but the four that speak of the heap -/
def vx_no (w : Cond) : Bool := decide (w ≠ .isRef (.static Bundle.tN "UNASSIGNED_STACK" Bundle.steD)) && decide (w ≠ .isRef (.static Bundle.tN "SUPPRESSED_SENTINEL" Bundle.listD)) && decide (w ≠ .laysStatic Bundle.tN "UNASSIGNED_STACK" Bundle.steD) && decide (w ≠ .laysStatic Bundle.tN "SUPPRESSED_SENTINEL" Bundle.listD)
def vx_at0 (own : String) (ic : Nat) (X : String) (names : List String) : List Cond := (Bundle.ownAtoms0 own ic X names).filter vx_no
def vx_atS (own : String) (ic : Nat) (X : String) (names : List String) : List Cond := (Bundle.ownAtoms own ic X names).filter vx_no
/-- a word that the tables alone decide, or a good one -/
def vx_ot (w : Cond) : Bool := w.onTables || goodWord w
theorem vx_ot_at {args a' : Array Value} {s U : State} {w : Cond} (hW : s.WarmedH U.vm) (hvm : s.vm = U.vm) (hg : vx_ot w = true) (h : w.before args s = true) : w.before a' U = true := by
  simp only [vx_ot, Bool.or_eq_true] at hg
  rcases hg with hg | hg
  · exact va_tabs hg hvm h
  · exact word_at hW (good_of_word hg) h
/-- a list's words: the good ones out of the method's own list, the others by premises of their own -/
theorem vx_hat {args : Array Value} {s : State} {L B : List Cond} (h1 : ∀ w ∈ L.filter goodWord, w.before args s = true) (h2 : ∀ w ∈ L.filter (fun w => !goodWord w), w ∈ B) (h3 : ∀ w ∈ B, w.before args s = true) : ∀ w ∈ L, w.before args s = true := by
  intro w hw
  by_cases g : goodWord w = true
  · exact h1 w (List.mem_filter.mpr ⟨hw, g⟩)
  · refine h3 w (h2 w (List.mem_filter.mpr ⟨hw, ?_⟩))
    show (!goodWord w) = true
    cases hgw : goodWord w
    · rfl
    · exact absurd hgw g
theorem vx_c {args : Array Value} {s : State} {w : Cond} {B : List Cond} (h : w.before args s = true) (t : ∀ w ∈ B, w.before args s = true) : ∀ w' ∈ w :: B, w'.before args s = true := fun w' h' => (List.mem_cons.mp h').elim (fun e => by rw [e]; exact h) (t w')
theorem vx_n {args : Array Value} {s : State} : ∀ w ∈ ([] : List Cond), w.before args s = true := fun _ h => nomatch h
theorem vx_own {args : Array Value} {s : State} {L : List Cond} (h1 : ∀ w ∈ L.filter vx_no, w.before args s = true)
    (hU : (Cond.isRef (.static Bundle.tN "UNASSIGNED_STACK" Bundle.steD)).before args s = true) (hN : (Cond.isRef (.static Bundle.tN "SUPPRESSED_SENTINEL" Bundle.listD)).before args s = true)
    (lU : (Cond.laysStatic Bundle.tN "UNASSIGNED_STACK" Bundle.steD).before args s = true) (lN : (Cond.laysStatic Bundle.tN "SUPPRESSED_SENTINEL" Bundle.listD).before args s = true) : ∀ w ∈ L, w.before args s = true := by
  intro w hw
  by_cases e1 : w = .isRef (.static Bundle.tN "UNASSIGNED_STACK" Bundle.steD)
  · rw [e1]; exact hU
  · by_cases e2 : w = .isRef (.static Bundle.tN "SUPPRESSED_SENTINEL" Bundle.listD)
    · rw [e2]; exact hN
    · by_cases e3 : w = .laysStatic Bundle.tN "UNASSIGNED_STACK" Bundle.steD
      · rw [e3]; exact lU
      · by_cases e4 : w = .laysStatic Bundle.tN "SUPPRESSED_SENTINEL" Bundle.listD
        · rw [e4]; exact lN
        · exact h1 w (List.mem_filter.mpr ⟨hw, by unfold vx_no; rw [decide_eq_true e1, decide_eq_true e2, decide_eq_true e3, decide_eq_true e4]; rfl⟩)
/-- where a static field lies, its class's statics cell in H -/
def vx_L (C n d : String) (A : Nat → Prop) (U : State) (H : Heap) : Prop := ∃ (c : ClassId) (k : Class) (i : Nat) (f : Field) (a : Nat) (cell : Cell), U.vm.findClass C = some c ∧ U.fieldFound? C n d = some (c, k, i, f) ∧ f.isStatic = true ∧ k.statics = some a ∧ H[a]? = some cell ∧ cell.vm.isStatics = true ∧ cell.cls = c ∧ f.slot < cell.slots.size ∧ k.staticTypes[f.slot]? = some f.type ∧ ¬ A a
theorem vx_L.moved {C n d : String} {A : Nat → Prop} {u U : State} {H : Heap} (hvm : u.vm.Alike U.vm) (h : vx_L C n d A u H) : vx_L C n d A U H := by
  obtain ⟨c, k, i, f, a, cell, h1, h2, h3, h4, h5, h6, h7, h8, h9, h10⟩ := h
  obtain ⟨k', hi', he⟩ := State.fieldFound?_setVm hvm h2
  exact ⟨c, k', i, f, a, cell, by rw [hvm.findClass]; exact h1, hi', h3, by rw [he]; exact h4, h5, h6, h7, h8, by rw [he]; exact h9, h10⟩
theorem vx_L.kept {C n d : String} {A : Nat → Prop} {U : State} {H H1 : Heap} (h : vx_L C n d A U H) (hq : ∀ a : Nat, a < H.size → ¬ A a → H1[a]? = H[a]?) : vx_L C n d A U H1 := by
  obtain ⟨c, k, i, f, a, cell, h1, h2, h3, h4, h5, h6, h7, h8, h9, h10⟩ := h
  exact ⟨c, k, i, f, a, cell, h1, h2, h3, h4, by rw [hq a (Array.getElem?_eq_some_iff.mp h5).1 h10]; exact h5, h6, h7, h8, h9, h10⟩
theorem vx_L.narrow {C n d : String} {A B : Nat → Prop} {U : State} {H : Heap} (h : vx_L C n d A U H) (hAB : ∀ q, B q → A q) : vx_L C n d B U H := by
  obtain ⟨c, k, i, f, a, cell, h1, h2, h3, h4, h5, h6, h7, h8, h9, h10⟩ := h
  exact ⟨c, k, i, f, a, cell, h1, h2, h3, h4, h5, h6, h7, h8, h9, fun z => h10 (hAB _ z)⟩
theorem vx_L.word {C n d : String} {A : Nat → Prop} {s : State} {args : Array Value} (h : vx_L C n d A s s.heap) : (Cond.laysStatic C n d).before args s = true := by
  obtain ⟨c, k, i, f, a, cell, h1, h2, h3, h4, h5, h6, h7, h8, h9, -⟩ := h
  show (Cond.laysStatic C n d).holds args s none s [] = true
  exact Cond.laysStatic_of h1 h2 h3 h4 h5 h6 h7 h8 h9
/-- .. and what it holds: null or some reference -/
def vx_Zq (C n d : String) (A : Nat → Prop) (U : State) (H : Heap) : Prop := va_Zq C n d A U H ∧ vx_L C n d A U H
theorem vx_Zq.moved {C n d : String} {A : Nat → Prop} {u U : State} {H : Heap} (hvm : u.vm.Alike U.vm) (h : vx_Zq C n d A u H) : vx_Zq C n d A U H := ⟨va_Zq.moved hvm h.1, vx_L.moved hvm h.2⟩
theorem vx_Zq.kept {C n d : String} {A : Nat → Prop} {U : State} {H H1 : Heap} (h : vx_Zq C n d A U H) (hq : ∀ a : Nat, a < H.size → ¬ A a → H1[a]? = H[a]?) : vx_Zq C n d A U H1 := ⟨va_Zq.kept h.1 hq, vx_L.kept h.2 hq⟩
theorem vx_Zq.narrow {C n d : String} {A B : Nat → Prop} {U : State} {H : Heap} (h : vx_Zq C n d A U H) (hAB : ∀ q, B q → A q) : vx_Zq C n d B U H := ⟨va_Zq.narrow h.1 hAB, vx_L.narrow h.2 hAB⟩
theorem vx_Zqof {args : Array Value} {s : State} {C n d : String} {A : Nat → Prop} (hl : (Cond.laysStatic C n d).before args s = true) (hini : (Cond.initialized C).before args s = true) (h : (Cond.isRef (.static C n d)).before args s = true) (hA : ∀ a : Nat, a < s.heap.size → ¬ A a) : vx_Zq C n d A s s.heap := by
  refine ⟨va_Zqof hl hini h hA, ?_⟩
  obtain ⟨c, k, i, f, a, cell, h1, h2, h3, h4, h5, h6, h7, h8, h9⟩ := Cond.laysStatic_spec hl
  exact ⟨c, k, i, f, a, cell, h1, h2, h3, h4, h5, h6, h7, h8, h9, hA a (Array.getElem?_eq_some_iff.mp h5).1⟩
theorem vx_isRef {C n d : String} {v : Value} {A : Nat → Prop} {s : State} {args : Array Value} (h : va_Z C n d v A s s.heap) (hv : v.isRef = true) : (Cond.isRef (.static C n d)).before args s = true := by
  obtain ⟨cf, kf, fi, f, a, cell, h1, h2, h3, h4, h5, h6, h7, -⟩ := h
  have he : (Term.static C n d).eval args s none [] s = some v := by
    simp [Term.eval, State.fieldNamed?, h1, h2, h4, h5, h6, h7]
  simp only [Cond.before, Cond.holds, Cond.value, he]
  cases v <;> simp_all [Value.isRef]
theorem vx_isRefq {C n d : String} {A : Nat → Prop} {s : State} {args : Array Value} (h : va_Zq C n d A s s.heap) : (Cond.isRef (.static C n d)).before args s = true := by
  rcases h with h | ⟨t, h⟩
  · exact vx_isRef h rfl
  · exact vx_isRef h rfl
/-- the same frame, seen from here: as if the method were called anew in this heap -/
theorem vx_rebase {T : State} (X : Stand p l e R s m args below meth c T locs cells slots) {R' : Room} (hf : R'.frames ≤ R.frames) (hl : R'.locals ≤ R.locals) (hc : cells + R'.cells ≤ R.cells) (hs : slots + R'.slots ≤ R.slots) :
    Stand p l e R' ((T.setVm s.vm).setFrames (.invoking m args :: below)) m args below meth c T [] 0 0 := by
  have htop : (T.setVm s.vm).topJava?.isSome := X.here.top
  have hF : ((T.setVm s.vm).setFrames (.invoking m args :: below)).frames = .invoking m args :: below := State.frames_setFrames _ (State.cur_lt_of_top htop)
  obtain ⟨g₀, hg0⟩ := Option.isSome_iff_exists.mp htop
  obtain ⟨r, hr⟩ := State.topJava?_eq_some.mp hg0
  have hl9 : e.platform.stackLimits (T.setVm s.vm).me = e.platform.stackLimits s.me := X.limits
  have hb9 : (T.setVm s.vm).me.stackBytes = s.me.stackBytes := X.bytes
  refine ⟨X.admits, X.cas, X.clock, hF, ?_, X.hears, X.method, X.code, X.here, X.tail, X.warmed, ?_, ?_, ?_⟩
  · have h := X.room
    have hU : ((T.setVm s.vm).setFrames (.invoking m args :: below)).localsInUse = s.localsInUse := by
      rw [State.localsInUse_invoking hF (meth := meth) (c := c) X.method X.code, State.localsInUse_invoking X.frames X.method X.code]
    simp only [State.hasRoom, Bool.and_eq_true, decide_eq_true_eq] at h ⊢
    obtain ⟨⟨⟨⟨h1, h2, h3, h4, h5, h6⟩, h7⟩, h8⟩, h9⟩ := h
    rw [X.frames, List.length_cons] at h2 h3
    have q1 := X.heapSize
    have q2 := X.used
    simp only [hF, hU, List.length_cons, State.stackLimits_setFrames, State.stackBytes_setFrames, hl9, hb9]
    refine ⟨⟨⟨⟨by omega, by omega, by omega, by omega, by omega, h6⟩, ?_⟩, ?_⟩, X.book⟩
    · show T.heap.size + R'.cells ≤ e.platform.maxCells
      omega
    · show T.slotsUsed + R'.slots ≤ e.platform.maxSlots
      omega
  · rw [State.stackLimits_setFrames]; rfl
  · rw [State.stackBytes_setFrames]; rfl
  · refine ⟨?_, Nat.le_refl _, Nat.le_refl _, ?_, ?_, fun a c9 h9 => ⟨c9, h9, rfl, rfl, fun _ _ => rfl⟩⟩
    · obtain ⟨t, ht, -⟩ := State.frames_cons hr
      show T.setVm s.vm = { ((T.setVm s.vm).setFrames (.invoking m args :: below)).setFrames (T.setVm s.vm).frames with heap := T.heap, slotsUsed := T.slotsUsed }
      rw [State.setFrames_setFrames, State.setFrames_self ht]
      rfl
    · show T.slotsUsed = T.slotsUsed + ((T.heap.toList.drop T.heap.size).map (·.slots.size)).sum
      rw [List.drop_eq_nil_of_le (Nat.le_of_eq Array.length_toList)]
      rfl
    · show ((T.heap.toList.drop T.heap.size).map (·.slots.size)).sum ≤ 0
      rw [List.drop_eq_nil_of_le (Nat.le_of_eq Array.length_toList)]
      exact Nat.le_refl _
/-- 'throw new E()': new; dup; invokespecial; athrow -/
theorem vx_throw0 {cc : ByteArray} {pc : Nat} (hexec : p.tables.exec = Jvm.exec) (hb : c.code = cc) (hl : l.stackTraces = false) {own cls : String} {names : List String} {ik ic mc ms : Nat} {A : Nat → Prop}
    (hown : s.vm.findClass own = some m.cls) (hcls : Bundle.fit cls = true) (hnames : ∀ n ∈ names, Bundle.fit n = true)
    (hk : (Cond.classLink own ik cls).before args s = true) (hini : (Cond.initialized cls).before args s = true) (hat : ∀ w ∈ vx_at0 own ic cls names, w.before args s = true)
    (hgood : ∀ w ∈ Cond.classLink own ik cls :: Cond.initialized cls :: vx_at0 own ic cls names, vx_ot w = true)
    (hU : vx_Zq Bundle.tN "UNASSIGNED_STACK" Bundle.steD A s s.heap) (hN : vx_Zq Bundle.tN "SUPPRESSED_SENTINEL" Bundle.listD A s s.heap) (hS : va_S A s.heap H locs) (hsize : ls.size = c.maxLocals)
    (d0 : decode cc pc = .ok (.new ik, 3)) (d3 : decode cc (pc + 3) = .ok (.dup, 1)) (d4 : decode cc (pc + 4) = .ok (.invokespecial ic, 3)) (d7 : decode cc (pc + 7) = .ok (.athrow, 1))
    (hout : ∀ x ∈ c.exceptionTable.toList, covers x (pc + 7) = false)
    (hRframes : names.length + 3 < R.frames) (hRlocals : (rest.map fun v => v.category).sum + (13 * (names.length + 1) + 42) ≤ R.locals) (hRcells : cells + 1 ≤ R.cells) (hRslots : slots + 6 ≤ R.slots) (hlocks : meth.locks = false)
    (hx : ∀ t : State, s.vm.Alike t.vm → H.size ≤ t.heap.size → (∀ q : Nat, q < H.size → t.heap[q]? = H[q]?) → XC cls s t)
    (hf : ∀ z ∈ locs, free z.base) (hc : cells + 1 ≤ mc) (hs : slots + 6 ≤ ms) :
    W p l e R s m args below meth c H locs cells slots (vx_MQ below Qc XC args s mc ms free) (F0 m pc ls rest) := by
  intro T hT X
  have htr : e.platform.stackTraces = false := (show e.platform.stackTraces = l.stackTraces by rw [X.admits.platform]).trans hl
  have Y := vx_rebase X (R' := { frames := R.frames, locals := R.locals, cells := 1, slots := 6 }) (Nat.le_refl _) (Nat.le_refl _) hRcells hRslots
  obtain ⟨s', hA⟩ : ∃ z, z = (T.setVm s.vm).setFrames (.invoking m args :: below) := ⟨_, rfl⟩
  rw [← hA] at Y
  have hvm : s'.vm = s.vm := by rw [hA]; rfl
  have hhp : s'.heap = H := by rw [hA]; exact hT
  have hW0 : s.WarmedH s'.vm := by rw [hvm]; exact State.WarmedH.refl s
  have hat' : ∀ w ∈ vx_at0 own ic cls names, w.before args s' = true := fun w hw => vx_ot_at hW0 hvm.symm (hgood w (List.mem_cons_of_mem _ (List.mem_cons_of_mem _ hw))) (hat w hw)
  have hk' : (Cond.classLink own ik cls).before args s' = true := vx_ot_at hW0 hvm.symm (hgood _ List.mem_cons_self) hk
  have hini' : (Cond.initialized cls).before args s' = true := vx_ot_at hW0 hvm.symm (hgood _ (List.mem_cons_of_mem _ List.mem_cons_self)) hini
  have hU' : vx_Zq Bundle.tN "UNASSIGNED_STACK" Bundle.steD A s' s'.heap := by rw [hhp]; exact vx_Zq.moved hW0.alike (hU.kept hS.2.1)
  have hN' : vx_Zq Bundle.tN "SUPPRESSED_SENTINEL" Bundle.listD A s' s'.heap := by rw [hhp]; exact vx_Zq.moved hW0.alike (hN.kept hS.2.1)
  have h : ∀ w ∈ Bundle.ownAtoms0 own ic cls names, w.before args s' = true := vx_own hat' (vx_isRefq hU'.1) (vx_isRefq hN'.1) hU'.2.word hN'.2.word
  have hown' : s'.vm.findClass own = some m.cls := by rw [hvm]; exact hown
  have hins : (Cond.instantiable cls 6).before args s' = true := h _ (by simp [Bundle.ownAtoms0])
  obtain ⟨vm₁, cX, kX, hfX, hkX, -, -, X₁, st1⟩ := Y.newCold hexec (own := own) (C := cls) (index := ik) (n := 6) hown' hk' hins hini'
    (g := F0 m pc ls rest) rfl (by rw [hb]; exact d0) (Nat.le_refl _) (Nat.le_refl _)
  generalize hT1 : (T.setVm vm₁).pushCell { cls := cX, slots := kX.instanceTypes.map defaultValue, vm := .none } = T1 at X₁ st1
  have hcat : (Value.ref T.heap.size).category = 1 := rfl
  have hcellA : T1.heap[T.heap.size]? = some (freshCell cX kX) := by rw [← hT1]; exact State.heap_pushCell_size _ _
  have d3' : decode c.code (pc + 3) = .ok (.dup, 1) := by rw [hb]; exact d3
  obtain ⟨U, hsteps, hrun, hend, hW, hsame, ce, hce, hO⟩ := X₁.ctorThrow0 hexec htr (own := own) (cls := cls) (names := names) (ic := ic) hown' hcls hnames h (fun x hx => nomatch hx) hfX hkX hcellA (by rw [hhp, hT]; exact Nat.le_refl _)
    (g := { method := m, pc := pc + 4, locals := ls, stack := .ref T.heap.size :: .ref T.heap.size :: rest, locked := none }) rfl hsize rfl rfl (rest := rest) rfl
    (by rw [hb]; exact d4) (by rw [hb]; exact d7) hout hRframes (by simp only [List.map_cons, List.sum_cons, hcat]; omega) hlocks
  obtain ⟨f1, f2⟩ := vx_frame hsame
  rw [hhp] at f1 f2
  have hWs : s.WarmedH U.vm := State.WarmedH.trans hW0 hW
  have hcl : s.vm.findClass cls = some ce.cls := by
    have h9 := hO.cls
    rw [hvm] at h9
    exact h9
  have hall : s.sameButNew ({ U with vm := s.vm } : State) locs mc ms := by
    subst hA
    obtain ⟨e1, e2⟩ := hsame
    rw [State.setFrames_setFrames] at e1
    have h2 : (T.setVm s.vm).sameButNew ({ U with vm := s.vm } : State) [] (0 + 1) (0 + 6) := ⟨e1, e2⟩
    have h3 := X.same.trans h2
    rw [List.append_nil] at h3
    exact h3.mono hc hs
  refine ⟨U, ?_, .threw T.heap.size, hrun, hend, Or.inr ⟨T.heap.size, rfl, cls, ce, locs, hx U hWs.alike f1 (fun q hq => f2 q hq (fun z hz => nomatch hz)), hce, hO.vm, hcl, hWs, hall, hf⟩⟩
  refine st1 _ ?_
  show Steps p.tables e below (T1.setTop { method := m, pc := pc + 3, locals := ls, stack := .ref T.heap.size :: rest, locked := none }) _
  jvm_step X₁.here [X₁.here.top, hexec, d3', Value.category]
  exact hsteps
/-- 'throw new E("text")': new; dup; ldc; invokespecial; athrow -/
theorem vx_throwS {cc : ByteArray} {pc : Nat} (hexec : p.tables.exec = Jvm.exec) (hb : c.code = cc) (hl : l.stackTraces = false) {own cls text : String} {names : List String} {ik is ic mc ms sa : Nat} {A : Nat → Prop}
    (hown : s.vm.findClass own = some m.cls) (hcls : Bundle.fit cls = true) (hnames : ∀ n ∈ names, Bundle.fit n = true)
    (hk : (Cond.classLink own ik cls).before args s = true) (hini : (Cond.initialized cls).before args s = true) (hstr : vk_R own is text sa s) (hat : ∀ w ∈ vx_atS own ic cls names, w.before args s = true)
    (hgood : ∀ w ∈ Cond.classLink own ik cls :: Cond.initialized cls :: vx_atS own ic cls names, vx_ot w = true)
    (hU : vx_Zq Bundle.tN "UNASSIGNED_STACK" Bundle.steD A s s.heap) (hN : vx_Zq Bundle.tN "SUPPRESSED_SENTINEL" Bundle.listD A s s.heap) (hS : va_S A s.heap H locs) (hsize : ls.size = c.maxLocals)
    (d0 : decode cc pc = .ok (.new ik, 3)) (d3 : decode cc (pc + 3) = .ok (.dup, 1)) (d4 : decode cc (pc + 4) = .ok (.ldc is, 2)) (d6 : decode cc (pc + 6) = .ok (.invokespecial ic, 3)) (d9 : decode cc (pc + 9) = .ok (.athrow, 1))
    (hout : ∀ x ∈ c.exceptionTable.toList, covers x (pc + 9) = false)
    (hRframes : names.length + 3 < R.frames) (hRlocals : (rest.map fun v => v.category).sum + (13 * (names.length + 1) + 43) ≤ R.locals) (hRcells : cells + 1 ≤ R.cells) (hRslots : slots + 6 ≤ R.slots) (hlocks : meth.locks = false)
    (hx : ∀ t : State, s.vm.Alike t.vm → H.size ≤ t.heap.size → (∀ q : Nat, q < H.size → t.heap[q]? = H[q]?) → XC cls s t)
    (hf : ∀ z ∈ locs, free z.base) (hc : cells + 1 ≤ mc) (hs : slots + 6 ≤ ms) :
    W p l e R s m args below meth c H locs cells slots (vx_MQ below Qc XC args s mc ms free) (F0 m pc ls rest) := by
  intro T hT X
  have htr : e.platform.stackTraces = false := (show e.platform.stackTraces = l.stackTraces by rw [X.admits.platform]).trans hl
  have Y := vx_rebase X (R' := { frames := R.frames, locals := R.locals, cells := 1, slots := 6 }) (Nat.le_refl _) (Nat.le_refl _) hRcells hRslots
  obtain ⟨s', hA⟩ : ∃ z, z = (T.setVm s.vm).setFrames (.invoking m args :: below) := ⟨_, rfl⟩
  rw [← hA] at Y
  have hvm : s'.vm = s.vm := by rw [hA]; rfl
  have hhp : s'.heap = H := by rw [hA]; exact hT
  have hW0 : s.WarmedH s'.vm := by rw [hvm]; exact State.WarmedH.refl s
  have hat' : ∀ w ∈ vx_atS own ic cls names, w.before args s' = true := fun w hw => vx_ot_at hW0 hvm.symm (hgood w (List.mem_cons_of_mem _ (List.mem_cons_of_mem _ hw))) (hat w hw)
  have hk' : (Cond.classLink own ik cls).before args s' = true := vx_ot_at hW0 hvm.symm (hgood _ List.mem_cons_self) hk
  have hini' : (Cond.initialized cls).before args s' = true := vx_ot_at hW0 hvm.symm (hgood _ (List.mem_cons_of_mem _ List.mem_cons_self)) hini
  have hU' : vx_Zq Bundle.tN "UNASSIGNED_STACK" Bundle.steD A s' s'.heap := by rw [hhp]; exact vx_Zq.moved hW0.alike (hU.kept hS.2.1)
  have hN' : vx_Zq Bundle.tN "SUPPRESSED_SENTINEL" Bundle.listD A s' s'.heap := by rw [hhp]; exact vx_Zq.moved hW0.alike (hN.kept hS.2.1)
  have h : ∀ w ∈ Bundle.ownAtoms own ic cls names, w.before args s' = true := vx_own hat' (vx_isRefq hU'.1) (vx_isRefq hN'.1) hU'.2.word hN'.2.word
  have hown' : s'.vm.findClass own = some m.cls := by rw [hvm]; exact hown
  have hins : (Cond.instantiable cls 6).before args s' = true := h _ (by simp [Bundle.ownAtoms])
  obtain ⟨vm₁, cX, kX, hfX, hkX, -, -, X₁, st1⟩ := Y.newCold hexec (own := own) (C := cls) (index := ik) (n := 6) hown' hk' hins hini'
    (g := F0 m pc ls rest) rfl (by rw [hb]; exact d0) (Nat.le_refl _) (Nat.le_refl _)
  generalize hT1 : (T.setVm vm₁).pushCell { cls := cX, slots := kX.instanceTypes.map defaultValue, vm := .none } = T1 at X₁ st1
  have hcat : (Value.ref T.heap.size).category = 1 := rfl
  have hcellA : T1.heap[T.heap.size]? = some (freshCell cX kX) := by rw [← hT1]; exact State.heap_pushCell_size _ _
  have d3' : decode c.code (pc + 3) = .ok (.dup, 1) := by rw [hb]; exact d3
  have d4' : decode c.code (pc + 4) = .ok (.ldc is, 2) := by rw [hb]; exact d4
  have hstr' : vk_R own is text sa s' := vk_R.warm hW0 hstr
  obtain ⟨U, hsteps, hrun, hend, hW, hsame, ce, hce, hO⟩ := X₁.ctorThrowS hexec htr (own := own) (cls := cls) (names := names) (ic := ic) hown' hcls hnames h (fun x hx => nomatch hx) hfX hkX hcellA (by rw [hhp, hT]; exact Nat.le_refl _) (msg := .ref sa) rfl
    (g := { method := m, pc := pc + 6, locals := ls, stack := .ref sa :: .ref T.heap.size :: .ref T.heap.size :: rest, locked := none }) rfl hsize rfl rfl (rest := rest) rfl
    (by rw [hb]; exact d6) (by rw [hb]; exact d9) hout hRframes (by simp only [List.map_cons, List.sum_cons, hcat]; omega) hlocks
  obtain ⟨f1, f2⟩ := vx_frame hsame
  rw [hhp] at f1 f2
  have hWs : s.WarmedH U.vm := State.WarmedH.trans hW0 hW
  have hcl : s.vm.findClass cls = some ce.cls := by
    have h9 := hO.cls
    rw [hvm] at h9
    exact h9
  have hall : s.sameButNew ({ U with vm := s.vm } : State) locs mc ms := by
    subst hA
    obtain ⟨e1, e2⟩ := hsame
    rw [State.setFrames_setFrames] at e1
    have h2 : (T.setVm s.vm).sameButNew ({ U with vm := s.vm } : State) [] (0 + 1) (0 + 6) := ⟨e1, e2⟩
    have h3 := X.same.trans h2
    rw [List.append_nil] at h3
    exact h3.mono hc hs
  refine ⟨U, ?_, .threw T.heap.size, hrun, hend, Or.inr ⟨T.heap.size, rfl, cls, ce, locs, hx U hWs.alike f1 (fun q hq => f2 q hq (fun z hz => nomatch hz)), hce, hO.vm, hcl, hWs, hall, hf⟩⟩
  refine st1 _ ?_
  show Steps p.tables e below (T1.setTop { method := m, pc := pc + 3, locals := ls, stack := .ref T.heap.size :: rest, locked := none }) _
  jvm_step X₁.here [X₁.here.top, hexec, d3', Value.category]
  exact X₁.ldcString hexec (own := own) (text := text) (index := is) (a := sa) hown' hstr'.1 hstr'.2
    (g := { method := m, pc := pc + 4, locals := ls, stack := .ref T.heap.size :: .ref T.heap.size :: rest, locked := none }) rfl d4' _ hsteps
/-- 'throw new E("text")', the text by a wide index -/
theorem vx_throwSW {cc : ByteArray} {pc : Nat} (hexec : p.tables.exec = Jvm.exec) (hb : c.code = cc) (hl : l.stackTraces = false) {own cls text : String} {names : List String} {ik is ic mc ms sa : Nat} {A : Nat → Prop}
    (hown : s.vm.findClass own = some m.cls) (hcls : Bundle.fit cls = true) (hnames : ∀ n ∈ names, Bundle.fit n = true)
    (hk : (Cond.classLink own ik cls).before args s = true) (hini : (Cond.initialized cls).before args s = true) (hstr : vk_R own is text sa s) (hat : ∀ w ∈ vx_atS own ic cls names, w.before args s = true)
    (hgood : ∀ w ∈ Cond.classLink own ik cls :: Cond.initialized cls :: vx_atS own ic cls names, vx_ot w = true)
    (hU : vx_Zq Bundle.tN "UNASSIGNED_STACK" Bundle.steD A s s.heap) (hN : vx_Zq Bundle.tN "SUPPRESSED_SENTINEL" Bundle.listD A s s.heap) (hS : va_S A s.heap H locs) (hsize : ls.size = c.maxLocals)
    (d0 : decode cc pc = .ok (.new ik, 3)) (d3 : decode cc (pc + 3) = .ok (.dup, 1)) (d4 : decode cc (pc + 4) = .ok (.ldc_w is, 3)) (d7 : decode cc (pc + 7) = .ok (.invokespecial ic, 3)) (d10 : decode cc (pc + 10) = .ok (.athrow, 1))
    (hout : ∀ x ∈ c.exceptionTable.toList, covers x (pc + 10) = false)
    (hRframes : names.length + 3 < R.frames) (hRlocals : (rest.map fun v => v.category).sum + (13 * (names.length + 1) + 43) ≤ R.locals) (hRcells : cells + 1 ≤ R.cells) (hRslots : slots + 6 ≤ R.slots) (hlocks : meth.locks = false)
    (hx : ∀ t : State, s.vm.Alike t.vm → H.size ≤ t.heap.size → (∀ q : Nat, q < H.size → t.heap[q]? = H[q]?) → XC cls s t)
    (hf : ∀ z ∈ locs, free z.base) (hc : cells + 1 ≤ mc) (hs : slots + 6 ≤ ms) :
    W p l e R s m args below meth c H locs cells slots (vx_MQ below Qc XC args s mc ms free) (F0 m pc ls rest) := by
  intro T hT X
  have htr : e.platform.stackTraces = false := (show e.platform.stackTraces = l.stackTraces by rw [X.admits.platform]).trans hl
  have Y := vx_rebase X (R' := { frames := R.frames, locals := R.locals, cells := 1, slots := 6 }) (Nat.le_refl _) (Nat.le_refl _) hRcells hRslots
  obtain ⟨s', hA⟩ : ∃ z, z = (T.setVm s.vm).setFrames (.invoking m args :: below) := ⟨_, rfl⟩
  rw [← hA] at Y
  have hvm : s'.vm = s.vm := by rw [hA]; rfl
  have hhp : s'.heap = H := by rw [hA]; exact hT
  have hW0 : s.WarmedH s'.vm := by rw [hvm]; exact State.WarmedH.refl s
  have hat' : ∀ w ∈ vx_atS own ic cls names, w.before args s' = true := fun w hw => vx_ot_at hW0 hvm.symm (hgood w (List.mem_cons_of_mem _ (List.mem_cons_of_mem _ hw))) (hat w hw)
  have hk' : (Cond.classLink own ik cls).before args s' = true := vx_ot_at hW0 hvm.symm (hgood _ List.mem_cons_self) hk
  have hini' : (Cond.initialized cls).before args s' = true := vx_ot_at hW0 hvm.symm (hgood _ (List.mem_cons_of_mem _ List.mem_cons_self)) hini
  have hU' : vx_Zq Bundle.tN "UNASSIGNED_STACK" Bundle.steD A s' s'.heap := by rw [hhp]; exact vx_Zq.moved hW0.alike (hU.kept hS.2.1)
  have hN' : vx_Zq Bundle.tN "SUPPRESSED_SENTINEL" Bundle.listD A s' s'.heap := by rw [hhp]; exact vx_Zq.moved hW0.alike (hN.kept hS.2.1)
  have h : ∀ w ∈ Bundle.ownAtoms own ic cls names, w.before args s' = true := vx_own hat' (vx_isRefq hU'.1) (vx_isRefq hN'.1) hU'.2.word hN'.2.word
  have hown' : s'.vm.findClass own = some m.cls := by rw [hvm]; exact hown
  have hins : (Cond.instantiable cls 6).before args s' = true := h _ (by simp [Bundle.ownAtoms])
  obtain ⟨vm₁, cX, kX, hfX, hkX, -, -, X₁, st1⟩ := Y.newCold hexec (own := own) (C := cls) (index := ik) (n := 6) hown' hk' hins hini'
    (g := F0 m pc ls rest) rfl (by rw [hb]; exact d0) (Nat.le_refl _) (Nat.le_refl _)
  generalize hT1 : (T.setVm vm₁).pushCell { cls := cX, slots := kX.instanceTypes.map defaultValue, vm := .none } = T1 at X₁ st1
  have hcat : (Value.ref T.heap.size).category = 1 := rfl
  have hcellA : T1.heap[T.heap.size]? = some (freshCell cX kX) := by rw [← hT1]; exact State.heap_pushCell_size _ _
  have d3' : decode c.code (pc + 3) = .ok (.dup, 1) := by rw [hb]; exact d3
  have d4' : decode c.code (pc + 4) = .ok (.ldc_w is, 3) := by rw [hb]; exact d4
  have hstr' : vk_R own is text sa s' := vk_R.warm hW0 hstr
  obtain ⟨U, hsteps, hrun, hend, hW, hsame, ce, hce, hO⟩ := X₁.ctorThrowS hexec htr (own := own) (cls := cls) (names := names) (ic := ic) hown' hcls hnames h (fun x hx => nomatch hx) hfX hkX hcellA (by rw [hhp, hT]; exact Nat.le_refl _) (msg := .ref sa) rfl
    (g := { method := m, pc := pc + 7, locals := ls, stack := .ref sa :: .ref T.heap.size :: .ref T.heap.size :: rest, locked := none }) rfl hsize rfl rfl (rest := rest) rfl
    (by rw [hb]; exact d7) (by rw [hb]; exact d10) hout hRframes (by simp only [List.map_cons, List.sum_cons, hcat]; omega) hlocks
  obtain ⟨f1, f2⟩ := vx_frame hsame
  rw [hhp] at f1 f2
  have hWs : s.WarmedH U.vm := State.WarmedH.trans hW0 hW
  have hcl : s.vm.findClass cls = some ce.cls := by
    have h9 := hO.cls
    rw [hvm] at h9
    exact h9
  have hall : s.sameButNew ({ U with vm := s.vm } : State) locs mc ms := by
    subst hA
    obtain ⟨e1, e2⟩ := hsame
    rw [State.setFrames_setFrames] at e1
    have h2 : (T.setVm s.vm).sameButNew ({ U with vm := s.vm } : State) [] (0 + 1) (0 + 6) := ⟨e1, e2⟩
    have h3 := X.same.trans h2
    rw [List.append_nil] at h3
    exact h3.mono hc hs
  refine ⟨U, ?_, .threw T.heap.size, hrun, hend, Or.inr ⟨T.heap.size, rfl, cls, ce, locs, hx U hWs.alike f1 (fun q hq => f2 q hq (fun z hz => nomatch hz)), hce, hO.vm, hcl, hWs, hall, hf⟩⟩
  refine st1 _ ?_
  show Steps p.tables e below (T1.setTop { method := m, pc := pc + 3, locals := ls, stack := .ref T.heap.size :: rest, locked := none }) _
  jvm_step X₁.here [X₁.here.top, hexec, d3', Value.category]
  exact X₁.ldcStringW hexec (own := own) (text := text) (index := is) (a := sa) hown' hstr'.1 hstr'.2
    (g := { method := m, pc := pc + 4, locals := ls, stack := .ref T.heap.size :: .ref T.heap.size :: rest, locked := none }) rfl d4' _ hsteps
end Ends
section Bodies
variable {l : Launch}
theorem vx_ofW {y : MethodName} {ws ws' : List Cond} {rm : Room} {Pc : Array Value → State → Prop} {Qc : Array Value → State → Outcome → State → Prop} {XC : String → State → State → Prop} {mc ms : Nat} {free : Addr → Prop} {cc : ByteArray} {maxL : Nat} {ret : Option FieldType}
    (hy : plainName y.cls = true) (hw : ws = Cond.code y cc maxL ret :: ws')
    (body : ∀ p e s m args below meth c s₁, BodyLoose p l y (headSpec ws rm) cc maxL ret e s m args below meth c s₁ → c.maxLocals = maxL → (∀ x ∈ c.exceptionTable.toList, False) → Pc args s →
      W p l e (headSpec ws rm).room s m args below meth c s.heap [] 0 0 (vx_MQ below Qc XC args s mc ms free) (entryFrame m args maxL)) : vx_Met l y ws rm Pc Qc XC mc ms free := by
  refine MetFree.of_bodyS (code := cc) (maxLocals := maxL) (ret := ret) hy ?_ ?_
  · intro args s m h hn
    obtain ⟨meth, c, h1, h2, h3, h4, h5, h6, -, -⟩ := Cond.code_spec hn (atoms_spec (ws := ws) h _ (by rw [hw]; exact List.mem_cons_self))
    exact ⟨meth, c, h1, h2, h3, h4, h5, h6⟩
  · intro p e s m args below meth c s₁ B hml hP _
    have hh0 : s₁.heap = s.heap := by rw [B.state]; rfl
    have ht : ∀ x ∈ c.exceptionTable.toList, False := by
      obtain ⟨meth9, c9, h1, h2, -, -, -, -, h7, -⟩ := Cond.code_spec B.named (atoms_spec (ws := ws) B.pre _ (by rw [hw]; exact List.mem_cons_self))
      cases Option.some.inj (h1.symm.trans B.method)
      cases Option.some.inj (h2.symm.trans (Stand.of_body B).code)
      intro x hx
      rw [Array.isEmpty_iff.mp h7] at hx
      cases hx
    obtain ⟨t, a1, o, b1, b2, b3⟩ := body p e s m args below meth c s₁ B hml ht hP s₁ hh0 (Stand.of_body B)
    exact ⟨t, o, a1, b1, b2, b3⟩
/-- the table of a body with handlers -/
theorem vx_table {p : Program} {x y : MethodName} {S : Spec} {cc bytes : ByteArray} {maxL maxL' : Nat} {ret ret' : Option FieldType} {e : Env} {s s₁ : State} {m : MethodId} {args : Array Value} {below : List Frame} {meth : Method} {c : Code} {hh : List (Nat × Nat × Nat × Nat)}
    (B : BodyLoose p l y S cc maxL ret e s m args below meth c s₁) (h : (Cond.codeWith y bytes maxL' ret' hh).before args s = true) : c.exceptionTable.toList = tableOf hh := by
  obtain ⟨m9, meth9, c9, hn9, h1, h2, -, -, h6, -⟩ := Cond.codeWith_spec h
  cases Option.some.inj (hn9.symm.trans B.named)
  cases Option.some.inj (h1.symm.trans B.method)
  cases Option.some.inj (h2.symm.trans (Stand.of_body B).code)
  rw [← h6, table_eq]
end Bodies
end VXA
/-! ===== END ===== -/
/-! ===== BEGIN a static call of a method with an exception table ===== -/
section VXS
variable {p : Program} {l : Launch} {e : Env} {R : Room} {s : State} {m : MethodId} {args : Array Value} {below : List Frame} {meth : Method} {c : Code} {T : State} {H : Heap} {locs : List Loc} {cells slots : Nat}
abbrev vx_CSW (R : Room) (s : State) (args : Array Value) (own : String) (index : Nat) (y : MethodName) (bytes : ByteArray) (maxL : Nat) (ret : Option FieldType) (hh : List (Nat × Nat × Nat × Nat)) (ws : List Cond) (rm : Room) (mc ms n : Nat) : Prop :=
  (rm.cells = mc ∧ rm.slots = ms ∧ rm.frames + 1 ≤ R.frames ∧ 8 + (maxL + 11) + rm.locals ≤ R.locals ∧ (∀ w ∈ ws, ∀ (a' : Array Value) (U : State), s.WarmedH U.vm → w.before a' U = true) ∧ Cond.codeWith y bytes maxL ret hh ∈ ws) ∧
  (Cond.codeWith y bytes maxL ret hh).before args s = true ∧ (Cond.initialized y.cls).before args s = true ∧ (y.cls ≠ "java/lang/invoke/MethodHandle" ∧ y.cls ≠ "java/lang/invoke/VarHandle") ∧
  (∀ sig, parseMethodDescriptor y.desc = some sig → n = sig.parameters.length) ∧ (Cond.methodLink own index y).before args s = true ∧ (Cond.static y).before args s = true
theorem vx_cwSW {own : String} {index maxL mc ms : Nat} {y : MethodName} {bytes : ByteArray} {ret : Option FieldType} {hh : List (Nat × Nat × Nat × Nat)} {Ts ws ws' : List Cond} {rm : Room} (n : Nat) (ht : ∀ w ∈ Ts, w.before args s = true) (hT : GoodIn Ts (va_wsS own index y ws)) (hw : ws = Cond.codeWith y bytes maxL ret hh :: ws') (hrc : rm.cells = mc) (hrs : rm.slots = ms)
    (hd : y.cls ≠ "java/lang/invoke/MethodHandle" ∧ y.cls ≠ "java/lang/invoke/VarHandle" ∧ (parseMethodDescriptor y.desc).map (fun d => d.parameters.length) = some n) (hR : rm.frames + 1 ≤ R.frames ∧ 8 + (maxL + 11) + rm.locals ≤ R.locals) :
    vx_CSW R s args own index y bytes maxL ret hh ws rm mc ms n := by
  have ok : ∀ w ∈ va_wsS own index y ws, w.before args s = true := fun w h => ht w (hT w h).1
  have hG : GoodIn Ts ws := fun w h => hT w (by unfold va_wsS; exact List.mem_append_right _ h)
  have hc : Cond.codeWith y bytes maxL ret hh ∈ ws := by rw [hw]; exact List.mem_cons_self
  refine ⟨⟨hrc, hrs, hR.1, hR.2, pay_in ht hG, hc⟩, ht _ (hG _ hc).1, ok _ (by simp [va_wsS]), ⟨hd.1, hd.2.1⟩, fun sig h => ?_, ok _ (by simp [va_wsS]), ok _ (by simp [va_wsS])⟩
  have h2 := hd.2.2
  rw [h] at h2
  exact (Option.some.inj h2).symm
theorem vx_callSW (X : Stand p l e R s m args below meth c T locs cells slots) (hexec : p.tables.exec = Jvm.exec) {own : String} {index : Nat} {y : MethodName} {bytes : ByteArray} {maxL : Nat} {ret : Option FieldType} {hh : List (Nat × Nat × Nat × Nat)}
    (hown : s.vm.findClass own = some m.cls) (hlink : (Cond.methodLink own index y).before args s = true) (hstat : (Cond.static y).before args s = true) (hinit : (Cond.initialized y.cls).before args s = true)
    (hcode : (Cond.codeWith y bytes maxL ret hh).before args s = true) (hy : y.cls ≠ "java/lang/invoke/MethodHandle" ∧ y.cls ≠ "java/lang/invoke/VarHandle")
    {W9 : Nat} {Pre : Pt → Array Value → Prop} {Post : Pt → Array Value → Option Value → Pt → Prop} (hK : Back l R p e below s args y 3 W9 Pre Post)
    {g : JFrame} (hg : g.method = m) (hsize : g.locals.size = c.maxLocals) {argsL rest : List Value} (hlen : ∀ sig, parseMethodDescriptor y.desc = some sig → argsL.length = sig.parameters.length)
    (hstack : g.stack = argsL.reverse ++ rest) (hW : 2 * g.monitorRoom + (rest.map fun v => v.category).sum ≤ W9) (hdg : decode c.code g.pc = .ok (.invokestatic index, 3))
    (hpre : ∀ vm₁, s.WarmedH vm₁ → Pre ⟨T.setVm vm₁, locs, cells, slots⟩ argsL.toArray) :
    ∃ (v : Option Value) (vm₁ : Vm) (B : Pt), s.WarmedH vm₁ ∧ Stand p l e R s m args below meth c B.U B.locs B.cells B.slots ∧ Post ⟨T.setVm vm₁, locs, cells, slots⟩ argsL.toArray v B ∧
      ∀ target, Steps p.tables e below (B.U.setTop { g with pc := g.pc + 3, stack := v.toList ++ rest }) target → Steps p.tables e below (T.setTop g) target := by
  obtain ⟨mk, methM, cM, hnamed, hmethM, -, -, -, -, -, -, hsigM⟩ := Cond.codeWith_spec hcode
  have hstatic : methM.isStatic = true := Cond.static_spec hnamed hmethM hstat
  obtain ⟨kP, hkP, -⟩ := className_of_methodNamed hnamed
  have hinitP : kP.init = .initialized := Cond.initialized_spec (findClass_of_methodNamed hnamed) hkP hinit
  obtain ⟨vm₁, X₁, hstep₁⟩ := X.invokestatic hexec hown hlink hnamed hmethM hstatic hkP hinitP hy (g := g) hg (argsL := argsL) (rest := rest) (hlen _ hsigM) hstack hdg
  obtain ⟨v, B, X', hpost, hsteps⟩ := hK m meth c ⟨T.setVm vm₁, locs, cells, slots⟩ { g with stack := rest } (.invokestatic index) mk argsL.toArray X₁ hg hsize hdg hW (X₁.named hnamed) (hpre vm₁ X₁.warmed)
  exact ⟨v, vm₁, B, X₁.warmed, X', hpost, fun target h => hstep₁ _ fun acts => by rw [doInvoke_state]; exact hsteps.trans h⟩
theorem vx_runSW {y : MethodName} {bytes cc : ByteArray} {maxL nL mc ms n index : Nat} {ret : Option FieldType} {hh : List (Nat × Nat × Nat × Nat)} {ws : List Cond} {rm : Room} {Pc : Array Value → State → Prop} {Qc : Array Value → State → Outcome → State → Prop} {free : Addr → Prop} {Ts : List Cond} {own : String} {As rest : List Value} {g : JFrame}
    (S : CallFix p m c cc nL s args Ts own) (hM : Met l y ws rm Pc Qc mc ms free) (cw : vx_CSW R s args own index y bytes maxL ret hh ws rm mc ms n) (hp : PreS s H Pc As)
    (hg : g.method = m) (hn : As.length = n) (hsize : g.locals.size = nL) (hstack : g.stack = As.reverse ++ rest) (hW : 2 * g.monitorRoom + (rest.map fun v => v.category).sum ≤ 8) (hdg : decode cc g.pc = .ok (.invokestatic index, 3)) (hf : cells + mc ≤ R.cells ∧ slots + ms ≤ R.slots) :
    va_Run p l e R s m args below meth c H locs cells slots mc ms g rest (Qc As.toArray) (free) := by
  obtain ⟨⟨hrc, hrs, hfr, hlo, hws, hcw⟩, hcode, hini, hy, hlen, hl, hstt⟩ := cw
  have hK : Back l R p e below s args y 3 8 (PreOf R mc ms Pc) (PostOf Qc mc ms free) := va_backW (hh := hh) (bytes := bytes) (maxL := maxL) (ret := ret) hM hp.1 hrc hrs hfr hlo hws hcw (fun a' U hW => word_at hW (Or.inl (by first | rfl | simp [Cond.onTables, Cond.keeps, Cond.steady])) hini)
  obtain ⟨hx, hb, hml, ho, -⟩ := S
  intro T hT X
  obtain ⟨v, vm₁, ⟨U', l2, c2, s2⟩, hW₁, X', ⟨g', mk, t, L, e1, e2, hq, h1, hL, h2, h3⟩, st⟩ := vx_callSW X hx (hh := hh) (bytes := bytes) (maxL := maxL) (ret := ret) ho hl hstt hini hcode hy hK hg (hsize.trans hml.symm) (argsL := As) (rest := rest) (fun sig h => hn.trans (hlen sig h)) hstack hW (by rw [hb]; exact hdg)
    (fun vm₁ hW₁ => ⟨hf.1, hf.2, hp.2 (T.setVm vm₁) hT hW₁⟩)
  dsimp only [Pt.U, Pt.locs, Pt.cells, Pt.slots] at X' e1 e2 h1 h2 h3 st
  subst h1; subst h2; subst h3
  exact ⟨v, (T.setVm vm₁).calling g' mk As.toArray, t, U', L, hT, X', hL, e1, e2, hq, st⟩
/-- not caught here, past rows that name other classes: it goes on to the caller -/
theorem vx_outP {p : Program} {l : Launch} {e : Env} {R : Room} {s : State} {m : MethodId} {args : Array Value} {below : List Frame} {meth : Method} {c : Code} {H : Heap} {locs : List Loc} {cells slots : Nat} {free : Addr → Prop} {ls : Array Slot} {rest : List Value} {Qc : Array Value → State → Outcome → State → Prop} {XC : String → State → State → Prop}
    {pc : Nat} {own E : String} {ce : Cell} {q : Addr} {mc ms : Nat} (hown : s.vm.findClass own = some m.cls) (hlocks : meth.locks = false)
    (hpass : ∀ z ∈ c.exceptionTable.toList, covers z pc = false ∨ (z.catchType ≠ 0 ∧ ∃ nm : String, (Cond.classLink own z.catchType nm).before args s = true ∧ va_Nc E nm s)) (hcell : H[q]? = some ce) (hv : ce.vm = .none) (hcl : s.vm.findClass E = some ce.cls)
    (hx : ∀ t : State, t.heap = H → s.vm.Alike t.vm → XC E s t) (hf : ∀ z ∈ locs, free z.base) (hc : cells ≤ mc) (hs : slots ≤ ms) :
    vx_W p l e R s m args below meth c H locs cells slots (vx_MQ below Qc XC args s mc ms free) (F0 m pc ls rest) q := by
  intro T hT X
  have hpl : e.platform.magicAccessors = ({} : Platform).magicAccessors := by rw [X.admits.platform]
  obtain ⟨vm', hW', X', st⟩ := X.outThrough hlocks q (g := F0 m pc ls rest) rfl rfl rfl (cell := ce) (by rw [hT]; exact hcell) (by rw [hv]; rfl)
    (by obtain ⟨k9, h9, -⟩ := Vm.findClass_spec hcl; exact ⟨k9, h9⟩) (fun z hz => by
      rcases hpass z hz with h | ⟨hz0, nm, hl1, hn1⟩
      · exact Or.inl h
      · obtain ⟨c6, hc6, hcl6⟩ := Cond.classLink_spec hown hl1 e.platform hpl
        obtain ⟨a8, b8, h1, h2, h3⟩ := hn1
        cases Option.some.inj (h1.symm.trans hcl)
        cases Option.some.inj (h2.symm.trans hc6)
        exact Or.inr ⟨hz0, _, hcl6, h3⟩)
  obtain ⟨g₀, hfr⟩ := X'.frames_eq
  have hcell9 : ((T.setVm vm').setFrames (.throwing q :: below)).heap[q]? = some ce := by
    show T.heap[q]? = some ce
    rw [hT]; exact hcell
  have hend : Ended ((T.setVm vm').setFrames (.throwing q :: below)) below (.threw q) := State.frames_setFrames _ (State.cur_lt_of_frames hfr)
  refine ⟨(T.setVm vm').setFrames (.throwing q :: below), ?_, .threw q, X'.here.running, hend, Or.inr ⟨q, rfl, E, ce, locs, hx _ hT (X'.ends _).1.alike, hcell9, hv, hcl, (X'.ends _).1, (X'.ends _).2.mono hc hs, hf⟩⟩
  rw [X.pushThrowing_eq]
  exact st
/-- a thing of a world lies in the heap -/
theorem vx_lt {D : va_G} {cl : List vw_C} {ws : va_W} {H1 : Heap} (h : va_P D cl ws H1) {k : Nat} {q : Nat × va_E} (hk : ws[k]? = some q) : q.1 < H1.size := (h k q hk).lt
end VXS
/-! ===== END ===== -/
/-! ===== BEGIN methods with a table of their own: called by a name, returning or throwing ===== -/
section VXH
/-! vx_backW, vx_callVX, vx_callSX, vx_callVW, vx_runVW, vx_runVX, vx_runSX, vx_ofWH follow the same proofs as their sisters above (Free/Laws.lean, Shelf42/LK1.lean); vx_outP calls Shelf42/NT130.lean (outThrough). -/
section
variable {l : Launch} {R : Room} {p : Program} {e : Env} {below : List Frame} {s : State} {sargs : Array Value} {y : MethodName} {len W9 : Nat}
theorem vx_backW {ws : List Cond} {rm : Room} {Pc : Array Value → State → Prop} {Qc : Array Value → State → Outcome → State → Prop} {XC : String → State → State → Prop} {mc ms : Nat} {free : Addr → Prop} {bytes : ByteArray} {maxL : Nat} {ret : Option FieldType} {hh : List (Nat × Nat × Nat × Nat)}
    (hM : vx_Met l y ws rm Pc Qc XC mc ms free) (hblind : FrameBlind Pc) (hrc : rm.cells = mc) (hrs : rm.slots = ms)
    (hframes : rm.frames + 1 ≤ R.frames) (hlocals : W9 + (maxL + 11) + rm.locals ≤ R.locals)
    (hws : ∀ w ∈ ws, ∀ a' U, s.WarmedH U.vm → w.before a' U = true) (hcode : Cond.codeWith y bytes maxL ret hh ∈ ws) (hinit : ∀ a' U, s.WarmedH U.vm → (Cond.initialized y.cls).before a' U = true) :
    vx_Back l R p e below s sargs y len W9 (PreOf R mc ms Pc) (PostOf Qc mc ms free) (vx_Post XC mc ms free) := by
  intro m meth c A g ig mk a X hg hsize hdg hW hn hp
  have h1 : (headSpec ws rm).pre.before a A.U = true := atoms_intro fun w hw => hws w hw _ _ X.warmed
  have h2 : (Cond.codeWith y bytes maxL ret hh).before a A.U = true := hws _ hcode _ _ X.warmed
  have h3 : (Cond.initialized y.cls).before a A.U = true := hinit _ _ X.warmed
  have h4 : A.cells + (headSpec ws rm).room.cells ≤ R.cells := by rw [show (headSpec ws rm).room.cells = mc from hrc]; exact hp.1
  have h5 : A.slots + (headSpec ws rm).room.slots ≤ R.slots := by rw [show (headSpec ws rm).room.slots = ms from hrs]; exact hp.2.1
  have hPc : Pc a (A.U.calling g mk a) := hblind _ _ _ _ hp.2.2
  obtain ⟨U, Ls, c0, s0⟩ := A
  dsimp only [Pt.U, Pt.locs, Pt.cells, Pt.slots] at h1 h2 h3 h4 h5 X hn hPc ⊢
  obtain ⟨m9, methY, cY, hn9, hmY, hcY, -, hlY, -⟩ := Cond.codeWith_spec h2
  cases Option.some.inj (hn9.symm.trans hn)
  obtain ⟨kY, hkY, -⟩ := className_of_methodNamed hn
  have hinitY : kY.init = .initialized := Cond.initialized_spec (findClass_of_methodNamed hn) hkY h3
  have h : At U g.method c below := by rw [hg]; exact X.here
  have hlocals9 : W9 + (maxL + 11) + (headSpec ws rm).room.locals ≤ R.locals := hlocals
  have happ : (headSpec ws rm).appliesLoose y e.platform (U.calling g mk a) = true :=
    Spec.appliesLoose_calling (g := g) h hdg hn hkY hinitY
      (X.room_calling (g := g) (R' := (headSpec ws rm).room) hsize hmY hcY hframes (by rw [hlY]; omega) h4 h5) h1
  obtain ⟨mid, hmid⟩ := h.above
  have hfr : (U.setTop g).frames = (.java g :: mid) ++ below := by rw [State.frames_setTop' g h.top, hmid]; rfl
  obtain ⟨o, s₂, hsteps, -, hend, hq⟩ := Steps.callFree hM p X.admits X.cas X.clock (acts := []) hfr happ hPc trivial
  have hq' : vx_Q Qc XC mc ms free a (U.calling g mk a) o s₂ := hq
  rw [State.frames_setTop' g h.top] at hend
  obtain ⟨g₀, hg0⟩ := Option.isSome_iff_exists.mp h.top
  obtain ⟨r, hr⟩ := State.topJava?_eq_some.mp hg0
  have hr' : (({ U with heap := s₂.heap, slotsUsed := s₂.slotsUsed } : State).setVm s₂.vm).frames = .java g₀ :: r := hr
  rcases hq' with ⟨hqc, L, hfe, hL⟩ | ⟨q, rfl, E, ce, L, hx, hce, hcv, hcl, hW₂, hsm, hL⟩
  · obtain ⟨⟨v, rfl⟩, hW₂, e2, q2, q3, q4, q5, q6⟩ := id hfe
    have e3 : s₂ = ({ (U.calling g mk a).setFrames s₂.frames with heap := s₂.heap, slotsUsed := s₂.slotsUsed } : State).setVm s₂.vm := by
      have : s₂ = ({ s₂ with vm := (U.calling g mk a).vm } : State).setVm s₂.vm := rfl
      rw [e2] at this
      exact this
    obtain ⟨c₂, i₂, len₂, hc₂, hd₂, hf₂⟩ := hend
    have hW' : U.WarmedH s₂.vm := hW₂
    have hcc : c₂ = c := by
      have h1 : s₂.code? g.method = U.code? g.method := by
        rw [State.code?_eq, State.code?_eq, hW'.alike.method?]
      exact Option.some.inj (hc₂.symm.trans (h1.trans h.code))
    subst hcc
    have hlen : len₂ = len := by rw [hdg] at hd₂; cases hd₂; rfl
    subst hlen
    have hs₂ : s₂ = (({ U with heap := s₂.heap, slotsUsed := s₂.slotsUsed } : State).setVm s₂.vm).setTop { g with pc := g.pc + len₂, stack := v.toList ++ g.stack } := by
      refine e3.trans ?_
      rw [hf₂, State.calling_eq h.top, State.setFrames_setFrames, State.setTop_of_frames _ hr', hr]
      rfl
    have hsame : U.sameButNew ({ U with heap := s₂.heap, slotsUsed := s₂.slotsUsed } : State) L mc ms := by
      refine ⟨?_, q2, q3, q4, q5, q6⟩
      obtain ⟨t, ht, -⟩ := State.frames_cons hr
      show ({ U with heap := s₂.heap, slotsUsed := s₂.slotsUsed } : State) = { U.setFrames U.frames with heap := s₂.heap, slotsUsed := s₂.slotsUsed }
      rw [State.setFrames_self ht]
    subst hg
    refine Or.inl ⟨v, ⟨(({ U with heap := s₂.heap, slotsUsed := s₂.slotsUsed } : State).setVm s₂.vm), Ls ++ L, c0 + mc, s0 + ms⟩,
      ⟨X.admits, X.cas, X.clock, X.frames, X.room, X.hears, X.method, X.code, (X.here.setHeapUsed s₂.heap s₂.slotsUsed).setVm hW'.alike, X.tail, State.WarmedH.trans X.warmed hW', X.limits, X.bytes, X.same.trans (hsame.setVm s.vm)⟩,
      ⟨g, mk, s₂, L, rfl, rfl, hqc, rfl, hL, rfl, rfl⟩, ?_⟩
    show Steps p.tables e below _ ((({ U with heap := s₂.heap, slotsUsed := s₂.slotsUsed } : State).setVm s₂.vm).setTop { g with pc := g.pc + len₂, stack := v.toList ++ g.stack })
    rw [← hs₂]
    exact hsteps
  · obtain ⟨e2, q2, q3, q4, q5, q6⟩ := id hsm
    have e3 : s₂ = ({ (U.calling g mk a).setFrames s₂.frames with heap := s₂.heap, slotsUsed := s₂.slotsUsed } : State).setVm s₂.vm := by
      have : s₂ = ({ s₂ with vm := (U.calling g mk a).vm } : State).setVm s₂.vm := rfl
      rw [e2] at this
      exact this
    have hf₂ : s₂.frames = .throwing q :: .java g :: U.frames.tail := hend
    have hW' : U.WarmedH s₂.vm := hW₂
    have hs₂ : s₂ = ((({ U with heap := s₂.heap, slotsUsed := s₂.slotsUsed } : State).setVm s₂.vm).setTop g).pushFrame (.throwing q) := by
      refine e3.trans ?_
      rw [hf₂, State.calling_eq h.top, State.setFrames_setFrames, State.pushFrame, State.frames_setTop _ hr', State.setTop_of_frames _ hr', State.setFrames_setFrames, hr]
      rfl
    have hsame : U.sameButNew ({ U with heap := s₂.heap, slotsUsed := s₂.slotsUsed } : State) L mc ms := by
      refine ⟨?_, q2, q3, q4, q5, q6⟩
      obtain ⟨t, ht, -⟩ := State.frames_cons hr
      show ({ U with heap := s₂.heap, slotsUsed := s₂.slotsUsed } : State) = { U.setFrames U.frames with heap := s₂.heap, slotsUsed := s₂.slotsUsed }
      rw [State.setFrames_self ht]
    subst hg
    refine Or.inr ⟨q, ⟨(({ U with heap := s₂.heap, slotsUsed := s₂.slotsUsed } : State).setVm s₂.vm), Ls ++ L, c0 + mc, s0 + ms⟩,
      ⟨X.admits, X.cas, X.clock, X.frames, X.room, X.hears, X.method, X.code, (X.here.setHeapUsed s₂.heap s₂.slotsUsed).setVm hW'.alike, X.tail, State.WarmedH.trans X.warmed hW', X.limits, X.bytes, X.same.trans (hsame.setVm s.vm)⟩,
      ⟨g, mk, s₂, L, E, ce, rfl, rfl, hx, hce, hcv, hcl, rfl, hL, rfl, rfl⟩, ?_⟩
    show Steps p.tables e below _ (((({ U with heap := s₂.heap, slotsUsed := s₂.slotsUsed } : State).setVm s₂.vm).setTop g).pushFrame (.throwing q))
    rw [← hs₂]
    exact hsteps
end
variable {p : Program} {l : Launch} {e : Env} {R : Room} {s : State} {m : MethodId} {args : Array Value} {below : List Frame} {meth : Method} {c : Code} {T : State} {H : Heap} {locs : List Loc} {cells slots : Nat}
theorem vx_callVX (X : Stand p l e R s m args below meth c T locs cells slots) (hexec : p.tables.exec = Jvm.exec) {own C : String} {index : Nat} {y : MethodName} {bytes : ByteArray} {maxL : Nat} {ret : Option FieldType} {hh : List (Nat × Nat × Nat × Nat)}
    (hown : s.vm.findClass own = some m.cls) (hlink : (Cond.methodLink own index y).before args s = true) (hinst : (Cond.instanceMethod y).before args s = true) (hsel : (Cond.selects C y y).before args s = true)
    (hcode : (Cond.codeWith y bytes maxL ret hh).before args s = true) (hy : y.cls ≠ "java/lang/invoke/MethodHandle" ∧ y.cls ≠ "java/lang/invoke/VarHandle")
    {W9 : Nat} {Pre : Pt → Array Value → Prop} {Post : Pt → Array Value → Option Value → Pt → Prop} {PostX : Pt → Array Value → Addr → Pt → Prop} (hK : vx_Back l R p e below s args y 3 W9 Pre Post PostX)
    {b : Addr} {cellB : Cell} (hcell : T.heap[b]? = some cellB) (hobj : cellB.vm.isStatics = false) (hcls : s.vm.findClass C = some cellB.cls)
    {g : JFrame} (hg : g.method = m) (hsize : g.locals.size = c.maxLocals) {argsL rest : List Value} (hlen : ∀ sig, parseMethodDescriptor y.desc = some sig → argsL.length = sig.parameters.length)
    (hstack : g.stack = argsL.reverse ++ .ref b :: rest) (hW : 2 * g.monitorRoom + (rest.map fun v => v.category).sum ≤ W9) (hdg : decode c.code g.pc = .ok (.invokevirtual index, 3))
    (hpre : ∀ vm₁, s.WarmedH vm₁ → Pre ⟨T.setVm vm₁, locs, cells, slots⟩ (Value.ref b :: argsL).toArray) :
    (∃ (v : Option Value) (vm₁ : Vm) (B : Pt), s.WarmedH vm₁ ∧ Stand p l e R s m args below meth c B.U B.locs B.cells B.slots ∧ Post ⟨T.setVm vm₁, locs, cells, slots⟩ (Value.ref b :: argsL).toArray v B ∧
      ∀ target, Steps p.tables e below (B.U.setTop { g with pc := g.pc + 3, stack := v.toList ++ rest }) target → Steps p.tables e below (T.setTop g) target) ∨
    (∃ (q : Addr) (vm₁ : Vm) (B : Pt), s.WarmedH vm₁ ∧ Stand p l e R s m args below meth c B.U B.locs B.cells B.slots ∧ PostX ⟨T.setVm vm₁, locs, cells, slots⟩ (Value.ref b :: argsL).toArray q B ∧
      Steps p.tables e below (T.setTop g) ((B.U.setTop { g with stack := rest }).pushFrame (.throwing q))) := by
  obtain ⟨mk, methM, hnamed, hmethM, hstM, habM⟩ := Cond.instanceMethod_spec hinst
  obtain ⟨m8, methM', cM, hn8, hmethM', -, -, -, -, -, -, hsigM⟩ := Cond.codeWith_spec hcode
  cases Option.some.inj (hn8.symm.trans hnamed)
  cases hmethM.symm.trans hmethM'
  obtain ⟨c2, r2, m2, q1, q2, q3, q4, kP, hkP, hkPi⟩ := Cond.selects_spec hsel
  cases hcls.symm.trans q1
  cases (State.methodFound?_of_named hnamed hy).symm.trans q2
  cases hnamed.symm.trans q3
  have hselP : selectMethod e.platform s.vm cellB.cls mk = .method mk := by rw [Launch.admits_selectMethod X.admits]; exact q4
  obtain ⟨vm₁, X₁, hstep₁⟩ := X.invokevirtual hexec hown hlink hnamed hmethM hstM hkP hkPi hy (a := b) (cell := cellB) hcell
    (fun z h => by rw [h] at hobj; cases hobj) hselP hmethM habM hkP hkPi (g := g) hg (argsL := argsL) (rest := rest) (hlen _ hsigM) hstack hdg
  rcases hK m meth c ⟨T.setVm vm₁, locs, cells, slots⟩ { g with stack := rest } (.invokevirtual index) mk (Value.ref b :: argsL).toArray X₁ hg hsize hdg hW (X₁.named hnamed) (hpre vm₁ X₁.warmed) with ⟨v, B, X', hpost, hsteps⟩ | ⟨q, B, X', hpost, hsteps⟩
  · exact Or.inl ⟨v, vm₁, B, X₁.warmed, X', hpost, fun target h => hstep₁ _ fun acts => by rw [doInvoke_state]; exact hsteps.trans h⟩
  · exact Or.inr ⟨q, vm₁, B, X₁.warmed, X', hpost, hstep₁ _ fun acts => by rw [doInvoke_state]; exact hsteps⟩
theorem vx_callSX (X : Stand p l e R s m args below meth c T locs cells slots) (hexec : p.tables.exec = Jvm.exec) {own : String} {index : Nat} {y : MethodName} {bytes : ByteArray} {maxL : Nat} {ret : Option FieldType} {hh : List (Nat × Nat × Nat × Nat)}
    (hown : s.vm.findClass own = some m.cls) (hlink : (Cond.methodLink own index y).before args s = true) (hstat : (Cond.static y).before args s = true) (hinit : (Cond.initialized y.cls).before args s = true)
    (hcode : (Cond.codeWith y bytes maxL ret hh).before args s = true) (hy : y.cls ≠ "java/lang/invoke/MethodHandle" ∧ y.cls ≠ "java/lang/invoke/VarHandle")
    {W9 : Nat} {Pre : Pt → Array Value → Prop} {Post : Pt → Array Value → Option Value → Pt → Prop} {PostX : Pt → Array Value → Addr → Pt → Prop} (hK : vx_Back l R p e below s args y 3 W9 Pre Post PostX)
    {g : JFrame} (hg : g.method = m) (hsize : g.locals.size = c.maxLocals) {argsL rest : List Value} (hlen : ∀ sig, parseMethodDescriptor y.desc = some sig → argsL.length = sig.parameters.length)
    (hstack : g.stack = argsL.reverse ++ rest) (hW : 2 * g.monitorRoom + (rest.map fun v => v.category).sum ≤ W9) (hdg : decode c.code g.pc = .ok (.invokestatic index, 3))
    (hpre : ∀ vm₁, s.WarmedH vm₁ → Pre ⟨T.setVm vm₁, locs, cells, slots⟩ argsL.toArray) :
    (∃ (v : Option Value) (vm₁ : Vm) (B : Pt), s.WarmedH vm₁ ∧ Stand p l e R s m args below meth c B.U B.locs B.cells B.slots ∧ Post ⟨T.setVm vm₁, locs, cells, slots⟩ argsL.toArray v B ∧
      ∀ target, Steps p.tables e below (B.U.setTop { g with pc := g.pc + 3, stack := v.toList ++ rest }) target → Steps p.tables e below (T.setTop g) target) ∨
    (∃ (q : Addr) (vm₁ : Vm) (B : Pt), s.WarmedH vm₁ ∧ Stand p l e R s m args below meth c B.U B.locs B.cells B.slots ∧ PostX ⟨T.setVm vm₁, locs, cells, slots⟩ argsL.toArray q B ∧
      Steps p.tables e below (T.setTop g) ((B.U.setTop { g with stack := rest }).pushFrame (.throwing q))) := by
  obtain ⟨mk, methM, cM, hnamed, hmethM, -, -, -, -, -, -, hsigM⟩ := Cond.codeWith_spec hcode
  have hstatic : methM.isStatic = true := Cond.static_spec hnamed hmethM hstat
  obtain ⟨kP, hkP, -⟩ := className_of_methodNamed hnamed
  have hinitP : kP.init = .initialized := Cond.initialized_spec (findClass_of_methodNamed hnamed) hkP hinit
  obtain ⟨vm₁, X₁, hstep₁⟩ := X.invokestatic hexec hown hlink hnamed hmethM hstatic hkP hinitP hy (g := g) hg (argsL := argsL) (rest := rest) (hlen _ hsigM) hstack hdg
  rcases hK m meth c ⟨T.setVm vm₁, locs, cells, slots⟩ { g with stack := rest } (.invokestatic index) mk argsL.toArray X₁ hg hsize hdg hW (X₁.named hnamed) (hpre vm₁ X₁.warmed) with ⟨v, B, X', hpost, hsteps⟩ | ⟨q, B, X', hpost, hsteps⟩
  · exact Or.inl ⟨v, vm₁, B, X₁.warmed, X', hpost, fun target h => hstep₁ _ fun acts => by rw [doInvoke_state]; exact hsteps.trans h⟩
  · exact Or.inr ⟨q, vm₁, B, X₁.warmed, X', hpost, hstep₁ _ fun acts => by rw [doInvoke_state]; exact hsteps⟩
theorem vx_callVW (X : Stand p l e R s m args below meth c T locs cells slots) (hexec : p.tables.exec = Jvm.exec) {own C : String} {index : Nat} {y : MethodName} {bytes : ByteArray} {maxL : Nat} {ret : Option FieldType} {hh : List (Nat × Nat × Nat × Nat)}
    (hown : s.vm.findClass own = some m.cls) (hlink : (Cond.methodLink own index y).before args s = true) (hinst : (Cond.instanceMethod y).before args s = true) (hsel : (Cond.selects C y y).before args s = true)
    (hcode : (Cond.codeWith y bytes maxL ret hh).before args s = true) (hy : y.cls ≠ "java/lang/invoke/MethodHandle" ∧ y.cls ≠ "java/lang/invoke/VarHandle")
    {W9 : Nat} {Pre : Pt → Array Value → Prop} {Post : Pt → Array Value → Option Value → Pt → Prop} (hK : Back l R p e below s args y 3 W9 Pre Post)
    {b : Addr} {cellB : Cell} (hcell : T.heap[b]? = some cellB) (hobj : cellB.vm.isStatics = false) (hcls : s.vm.findClass C = some cellB.cls)
    {g : JFrame} (hg : g.method = m) (hsize : g.locals.size = c.maxLocals) {argsL rest : List Value} (hlen : ∀ sig, parseMethodDescriptor y.desc = some sig → argsL.length = sig.parameters.length)
    (hstack : g.stack = argsL.reverse ++ .ref b :: rest) (hW : 2 * g.monitorRoom + (rest.map fun v => v.category).sum ≤ W9) (hdg : decode c.code g.pc = .ok (.invokevirtual index, 3))
    (hpre : ∀ vm₁, s.WarmedH vm₁ → Pre ⟨T.setVm vm₁, locs, cells, slots⟩ (Value.ref b :: argsL).toArray) :
    ∃ (v : Option Value) (vm₁ : Vm) (B : Pt), s.WarmedH vm₁ ∧ Stand p l e R s m args below meth c B.U B.locs B.cells B.slots ∧ Post ⟨T.setVm vm₁, locs, cells, slots⟩ (Value.ref b :: argsL).toArray v B ∧
      ∀ target, Steps p.tables e below (B.U.setTop { g with pc := g.pc + 3, stack := v.toList ++ rest }) target → Steps p.tables e below (T.setTop g) target := by
  obtain ⟨mk, methM, hnamed, hmethM, hstM, habM⟩ := Cond.instanceMethod_spec hinst
  obtain ⟨m8, methM', cM, hn8, hmethM', -, -, -, -, -, -, hsigM⟩ := Cond.codeWith_spec hcode
  cases Option.some.inj (hn8.symm.trans hnamed)
  cases hmethM.symm.trans hmethM'
  obtain ⟨c2, r2, m2, q1, q2, q3, q4, kP, hkP, hkPi⟩ := Cond.selects_spec hsel
  cases hcls.symm.trans q1
  cases (State.methodFound?_of_named hnamed hy).symm.trans q2
  cases hnamed.symm.trans q3
  have hselP : selectMethod e.platform s.vm cellB.cls mk = .method mk := by rw [Launch.admits_selectMethod X.admits]; exact q4
  obtain ⟨vm₁, X₁, hstep₁⟩ := X.invokevirtual hexec hown hlink hnamed hmethM hstM hkP hkPi hy (a := b) (cell := cellB) hcell
    (fun z h => by rw [h] at hobj; cases hobj) hselP hmethM habM hkP hkPi (g := g) hg (argsL := argsL) (rest := rest) (hlen _ hsigM) hstack hdg
  obtain ⟨v, B, X', hpost, hsteps⟩ := hK m meth c ⟨T.setVm vm₁, locs, cells, slots⟩ { g with stack := rest } (.invokevirtual index) mk (Value.ref b :: argsL).toArray X₁ hg hsize hdg hW (X₁.named hnamed) (hpre vm₁ X₁.warmed)
  exact ⟨v, vm₁, B, X₁.warmed, X', hpost, fun target h => hstep₁ _ fun acts => by rw [doInvoke_state]; exact hsteps.trans h⟩
abbrev vx_CVW (R : Room) (s : State) (args : Array Value) (own C : String) (index : Nat) (y : MethodName) (bytes : ByteArray) (maxL : Nat) (ret : Option FieldType) (hh : List (Nat × Nat × Nat × Nat)) (ws : List Cond) (rm : Room) (mc ms n : Nat) : Prop :=
  (rm.cells = mc ∧ rm.slots = ms ∧ rm.frames + 1 ≤ R.frames ∧ 8 + (maxL + 11) + rm.locals ≤ R.locals ∧ (∀ w ∈ ws, ∀ (a' : Array Value) (U : State), s.WarmedH U.vm → w.before a' U = true) ∧ Cond.codeWith y bytes maxL ret hh ∈ ws) ∧
  (Cond.codeWith y bytes maxL ret hh).before args s = true ∧ (Cond.initialized y.cls).before args s = true ∧ (y.cls ≠ "java/lang/invoke/MethodHandle" ∧ y.cls ≠ "java/lang/invoke/VarHandle") ∧
  (∀ sig, parseMethodDescriptor y.desc = some sig → n = sig.parameters.length) ∧ (Cond.methodLink own index y).before args s = true ∧ (Cond.instanceMethod y).before args s = true ∧ (Cond.selects C y y).before args s = true
theorem vx_cwVW {own C : String} {index maxL mc ms : Nat} {y : MethodName} {bytes : ByteArray} {ret : Option FieldType} {hh : List (Nat × Nat × Nat × Nat)} {Ts ws ws' : List Cond} {rm : Room} (n : Nat) (ht : ∀ w ∈ Ts, w.before args s = true) (hT : GoodIn Ts (wsV own index C y ws)) (hw : ws = Cond.codeWith y bytes maxL ret hh :: ws') (hrc : rm.cells = mc) (hrs : rm.slots = ms)
    (hd : y.cls = C ∧ y.cls ≠ "java/lang/invoke/MethodHandle" ∧ y.cls ≠ "java/lang/invoke/VarHandle" ∧ (parseMethodDescriptor y.desc).map (fun d => d.parameters.length) = some n) (hR : rm.frames + 1 ≤ R.frames ∧ 8 + (maxL + 11) + rm.locals ≤ R.locals) :
    vx_CVW R s args own C index y bytes maxL ret hh ws rm mc ms n := by
  obtain ⟨hC, hd⟩ := hd
  subst hC
  have ok : ∀ w ∈ wsV own index y.cls y ws, w.before args s = true := fun w h => ht w (hT w h).1
  have hG : GoodIn Ts ws := fun w h => hT w (by unfold wsV; exact List.mem_append_right _ h)
  have hc : Cond.codeWith y bytes maxL ret hh ∈ ws := by rw [hw]; exact List.mem_cons_self
  refine ⟨⟨hrc, hrs, hR.1, hR.2, pay_in ht hG, hc⟩, ht _ (hG _ hc).1, ok _ (by simp [wsV]), ⟨hd.1, hd.2.1⟩, fun sig h => ?_, ok _ (by simp [wsV]), ok _ (by simp [wsV]), ok _ (by simp [wsV])⟩
  have h2 := hd.2.2
  rw [h] at h2
  exact (Option.some.inj h2).symm
theorem vx_runVW {y : MethodName} {bytes cc : ByteArray} {maxL nL mc ms n index : Nat} {ret : Option FieldType} {hh : List (Nat × Nat × Nat × Nat)} {ws : List Cond} {rm : Room} {Pc : Array Value → State → Prop} {Qc : Array Value → State → Outcome → State → Prop} {free : Addr → Prop} {Ts : List Cond} {own C : String} {b : Addr} {As rest : List Value} {g : JFrame}
    (S : CallFix p m c cc nL s args Ts own) (hM : Met l y ws rm Pc Qc mc ms free) (cw : vx_CVW R s args own C index y bytes maxL ret hh ws rm mc ms n) (hp : PreV s H C b Pc As)
    (hg : g.method = m) (hn : As.length = n) (hsize : g.locals.size = nL) (hstack : g.stack = As.reverse ++ .ref b :: rest) (hW : 2 * g.monitorRoom + (rest.map fun v => v.category).sum ≤ 8) (hdg : decode cc g.pc = .ok (.invokevirtual index, 3)) (hf : cells + mc ≤ R.cells ∧ slots + ms ≤ R.slots) :
    va_Run p l e R s m args below meth c H locs cells slots mc ms g rest (Qc (Value.ref b :: As).toArray) free := by
  obtain ⟨⟨hrc, hrs, hfr, hlo, hws, hcw⟩, hcode, hini, hy, hlen, hl, hin, hse⟩ := cw
  have hK : Back l R p e below s args y 3 8 (PreOf R mc ms Pc) (PostOf Qc mc ms free) := va_backW (hh := hh) (bytes := bytes) (maxL := maxL) (ret := ret) hM hp.1 hrc hrs hfr hlo hws hcw (fun a' U hW => word_at hW (Or.inl (by first | rfl | simp [Cond.onTables, Cond.keeps, Cond.steady])) hini)
  obtain ⟨hx, hb, hml, ho, -⟩ := S
  obtain ⟨-, ⟨cellB, hcB, hoB, hclB⟩, hPc⟩ := hp
  intro T hT X
  obtain ⟨v, vm₁, ⟨U', l2, c2, s2⟩, hW₁, X', ⟨g', mk, t, L, e1, e2, hq, h1, hL, h2, h3⟩, st⟩ := vx_callVW X hx (C := C) (hh := hh) (bytes := bytes) (maxL := maxL) (ret := ret) ho hl hin hse hcode hy hK (by rw [hT]; exact hcB) hoB hclB hg (hsize.trans hml.symm) (argsL := As) (rest := rest) (fun sig h => hn.trans (hlen sig h)) hstack hW (by rw [hb]; exact hdg)
    (fun vm₁ hW₁ => ⟨hf.1, hf.2, hPc (T.setVm vm₁) hT hW₁⟩)
  dsimp only [Pt.U, Pt.locs, Pt.cells, Pt.slots] at X' e1 e2 h1 h2 h3 st
  subst h1; subst h2; subst h3
  exact ⟨v, (T.setVm vm₁).calling g' mk (Value.ref b :: As).toArray, t, U', L, hT, X', hL, e1, e2, hq, st⟩
section
variable {y : MethodName} {bytes cc : ByteArray} {maxL nL mc ms n index : Nat} {ret : Option FieldType} {ws : List Cond} {rm : Room} {Pc : Array Value → State → Prop} {Qc : Array Value → State → Outcome → State → Prop} {XC : String → State → State → Prop} {free : Addr → Prop} {Ts : List Cond} {own C : String} {b : Addr} {As rest : List Value} {g : JFrame}
theorem vx_runVX {hh : List (Nat × Nat × Nat × Nat)} (S : CallFix p m c cc nL s args Ts own) (hM : vx_Met l y ws rm Pc Qc XC mc ms free) (cw : vx_CVW R s args own C index y bytes maxL ret hh ws rm mc ms n) (hp : PreV s H C b Pc As)
    (hg : g.method = m) (hn : As.length = n) (hsize : g.locals.size = nL) (hstack : g.stack = As.reverse ++ .ref b :: rest) (hW : 2 * g.monitorRoom + (rest.map fun v => v.category).sum ≤ 8) (hdg : decode cc g.pc = .ok (.invokevirtual index, 3)) (hf : cells + mc ≤ R.cells ∧ slots + ms ≤ R.slots) :
    vx_Run p l e R s m args below meth c H locs cells slots mc ms g rest (Qc (Value.ref b :: As).toArray) XC free := by
  obtain ⟨⟨hrc, hrs, hfr, hlo, hws, hcw⟩, hcode, hini, hy, hlen, hl, hin, hse⟩ := cw
  have hK : vx_Back l R p e below s args y 3 8 (PreOf R mc ms Pc) (PostOf Qc mc ms free) (vx_Post XC mc ms free) := vx_backW (hh := hh) (bytes := bytes) (maxL := maxL) (ret := ret) hM hp.1 hrc hrs hfr hlo hws hcw (fun a' U hW => word_at hW (Or.inl (by first | rfl | simp [Cond.onTables, Cond.keeps, Cond.steady])) hini)
  obtain ⟨hx, hb, hml, ho, -⟩ := S
  obtain ⟨-, ⟨cellB, hcB, hoB, hclB⟩, hPc⟩ := hp
  intro T hT X
  rcases vx_callVX X hx (C := C) (hh := hh) (bytes := bytes) (maxL := maxL) (ret := ret) ho hl hin hse hcode hy hK (by rw [hT]; exact hcB) hoB hclB hg (hsize.trans hml.symm) (argsL := As) (rest := rest) (fun sig h => hn.trans (hlen sig h)) hstack hW (by rw [hb]; exact hdg)
    (fun vm₁ hW₁ => ⟨hf.1, hf.2, hPc (T.setVm vm₁) hT hW₁⟩) with ⟨v, vm₁, ⟨U', l2, c2, s2⟩, hW₁, X', ⟨g', mk, t, L, e1, e2, hq, h1, hL, h2, h3⟩, st⟩ | ⟨q, vm₁, ⟨U', l2, c2, s2⟩, hW₁, X', ⟨g', mk, t, L, E, ce, e1, e2, hq, hce, hcv, hcl, h1, hL, h2, h3⟩, st⟩
  · dsimp only [Pt.U, Pt.locs, Pt.cells, Pt.slots] at X' e1 e2 h1 h2 h3 st
    subst h1; subst h2; subst h3
    exact Or.inl ⟨v, (T.setVm vm₁).calling g' mk (Value.ref b :: As).toArray, t, U', L, hT, X', hL, e1, e2, hq, st⟩
  · dsimp only [Pt.U, Pt.locs, Pt.cells, Pt.slots] at X' e1 e2 h1 h2 h3 st hcl
    subst h1; subst h2; subst h3
    exact Or.inr ⟨q, (T.setVm vm₁).calling g' mk (Value.ref b :: As).toArray, t, U', L, E, ce, hT, X', hL, e1, e2, hq, hce, hcv, vx_cls hW₁ hcl, st⟩
theorem vx_runSX {hh : List (Nat × Nat × Nat × Nat)} (S : CallFix p m c cc nL s args Ts own) (hM : vx_Met l y ws rm Pc Qc XC mc ms free) (cw : vx_CSW R s args own index y bytes maxL ret hh ws rm mc ms n) (hp : PreS s H Pc As)
    (hg : g.method = m) (hn : As.length = n) (hsize : g.locals.size = nL) (hstack : g.stack = As.reverse ++ rest) (hW : 2 * g.monitorRoom + (rest.map fun v => v.category).sum ≤ 8) (hdg : decode cc g.pc = .ok (.invokestatic index, 3)) (hf : cells + mc ≤ R.cells ∧ slots + ms ≤ R.slots) :
    vx_Run p l e R s m args below meth c H locs cells slots mc ms g rest (Qc As.toArray) XC free := by
  obtain ⟨⟨hrc, hrs, hfr, hlo, hws, hcw⟩, hcode, hini, hy, hlen, hl, hstt⟩ := cw
  have hK : vx_Back l R p e below s args y 3 8 (PreOf R mc ms Pc) (PostOf Qc mc ms free) (vx_Post XC mc ms free) := vx_backW (hh := hh) (bytes := bytes) (maxL := maxL) (ret := ret) hM hp.1 hrc hrs hfr hlo hws hcw (fun a' U hW => word_at hW (Or.inl (by first | rfl | simp [Cond.onTables, Cond.keeps, Cond.steady])) hini)
  obtain ⟨hx, hb, hml, ho, -⟩ := S
  intro T hT X
  rcases vx_callSX X hx (hh := hh) (bytes := bytes) (maxL := maxL) (ret := ret) ho hl hstt hini hcode hy hK hg (hsize.trans hml.symm) (argsL := As) (rest := rest) (fun sig h => hn.trans (hlen sig h)) hstack hW (by rw [hb]; exact hdg)
    (fun vm₁ hW₁ => ⟨hf.1, hf.2, hp.2 (T.setVm vm₁) hT hW₁⟩) with ⟨v, vm₁, ⟨U', l2, c2, s2⟩, hW₁, X', ⟨g', mk, t, L, e1, e2, hq, h1, hL, h2, h3⟩, st⟩ | ⟨q, vm₁, ⟨U', l2, c2, s2⟩, hW₁, X', ⟨g', mk, t, L, E, ce, e1, e2, hq, hce, hcv, hcl, h1, hL, h2, h3⟩, st⟩
  · dsimp only [Pt.U, Pt.locs, Pt.cells, Pt.slots] at X' e1 e2 h1 h2 h3 st
    subst h1; subst h2; subst h3
    exact Or.inl ⟨v, (T.setVm vm₁).calling g' mk As.toArray, t, U', L, hT, X', hL, e1, e2, hq, st⟩
  · dsimp only [Pt.U, Pt.locs, Pt.cells, Pt.slots] at X' e1 e2 h1 h2 h3 st hcl
    subst h1; subst h2; subst h3
    exact Or.inr ⟨q, (T.setVm vm₁).calling g' mk As.toArray, t, U', L, E, ce, hT, X', hL, e1, e2, hq, hce, hcv, vx_cls hW₁ hcl, st⟩
end
end VXH
theorem vx_ofWH {l : Launch} {y : MethodName} {ws ws' : List Cond} {rm : Room} {Pc : Array Value → State → Prop} {Qc : Array Value → State → Outcome → State → Prop} {XC : String → State → State → Prop} {mc ms : Nat} {free : Addr → Prop} {cc : ByteArray} {maxL : Nat} {ret : Option FieldType} {hh : List (Nat × Nat × Nat × Nat)}
    (hy : plainName y.cls = true) (hw : ws = Cond.codeWith y cc maxL ret hh :: ws')
    (body : ∀ p e s m args below meth c s₁, BodyLoose p l y (headSpec ws rm) cc maxL ret e s m args below meth c s₁ → c.maxLocals = maxL → Pc args s →
      W p l e (headSpec ws rm).room s m args below meth c s.heap [] 0 0 (vx_MQ below Qc XC args s mc ms free) (entryFrame m args maxL)) : vx_Met l y ws rm Pc Qc XC mc ms free := by
  refine MetFree.of_bodyS (code := cc) (maxLocals := maxL) (ret := ret) hy ?_ ?_
  · intro args s m h hn
    obtain ⟨m9, meth, c, hn9, h1, h2, h3, h4, -, h5, h6, -⟩ := Cond.codeWith_spec (atoms_spec (ws := ws) h _ (by rw [hw]; exact List.mem_cons_self))
    cases hn.symm.trans hn9
    exact ⟨meth, c, h1, h2, h3, h4, h5, h6⟩
  · intro p e s m args below meth c s₁ B hml hP _
    have hh0 : s₁.heap = s.heap := by rw [B.state]; rfl
    obtain ⟨t, a1, o, b1, b2, b3⟩ := body p e s m args below meth c s₁ B hml hP s₁ hh0 (Stand.of_body B)
    exact ⟨t, o, a1, b1, b2, b3⟩
/-! ===== END ===== -/

/-! ===== BEGIN printed: names, fields, word lists, decode rows ===== -/
def RX0 : String := "ScapegoatSpur$Entry"
def TX0 : u_T := fun k => match k with
  | 0 => ("ScapegoatSpur$Entry", "key", "I", true)
  | 1 => ("ScapegoatSpur$Entry", "alive", "Z", false)
  | 2 => ("ScapegoatSpur$Entry", "part", "I", false)
  | _ => ("ScapegoatSpur$Entry", "next", "LScapegoatSpur$Entry;", false)
def tyX0 : Nat → FieldType := fun k => match k with
  | 0 => .int
  | 1 => .boolean
  | 2 => .int
  | _ => .object "ScapegoatSpur$Entry"
theorem nmX0 : ∀ a, a < 4 → ∀ b, b < 4 → a ≠ b → (TX0 a).2.1 ≠ (TX0 b).2.1 := by decide +kernel
theorem tyX0_ok : ∀ k, k < 4 → parseFieldDescriptor (TX0 k).2.2.1 = some (tyX0 k) := by decide +kernel
abbrev cX0_init : ByteArray := prog_2_method_1_code
def yX0_init : MethodName := ⟨RX0, "<init>", "(I)V"⟩
def RX1 : String := "ScapegoatSpur$KeyTree"
def TX1 : u_T := fun k => match k with
  | 0 => ("ScapegoatSpur$LazyTree", "path", "LScapegoatSpur$NodeRow;", true)
  | 1 => ("ScapegoatSpur$LazyTree", "row", "LScapegoatSpur$NodeRow;", true)
  | 2 => ("ScapegoatSpur$LazyTree", "root", "LScapegoatSpur$Node;", false)
  | 3 => ("ScapegoatSpur$LazyTree", "living", "I", false)
  | 4 => ("ScapegoatSpur$LazyTree", "rebuiltWeight", "I", false)
  | _ => ("ScapegoatSpur$LazyTree", "dropCount", "I", false)
def tyX1 : Nat → FieldType := fun k => match k with
  | 0 => .object "ScapegoatSpur$NodeRow"
  | 1 => .object "ScapegoatSpur$NodeRow"
  | 2 => .object "ScapegoatSpur$Node"
  | 3 => .int
  | 4 => .int
  | _ => .int
theorem nmX1 : ∀ a, a < 6 → ∀ b, b < 6 → a ≠ b → (TX1 a).2.1 ≠ (TX1 b).2.1 := by decide +kernel
theorem tyX1_ok : ∀ k, k < 6 → parseFieldDescriptor (TX1 k).2.2.1 = some (tyX1 k) := by decide +kernel
abbrev cX1_init : ByteArray := prog_3_method_1_code
def yX1_init : MethodName := ⟨RX1, "<init>", "()V"⟩
abbrev cX1_boundFor : ByteArray := prog_3_method_2_code
def yX1_boundFor : MethodName := ⟨RX1, "boundFor", "(I)I"⟩
abbrev cX1_orderOf : ByteArray := prog_3_method_3_code
def yX1_orderOf : MethodName := ⟨RX1, "orderOf", "(II)I"⟩
abbrev cX1_depthToRebuild : ByteArray := prog_3_method_4_code
def yX1_depthToRebuild : MethodName := ⟨RX1, "depthToRebuild", "(LScapegoatSpur$NodeRow;)I"⟩
def RX2 : String := "ScapegoatSpur$LazyTree"
def TX2 : u_T := fun k => match k with
  | _ => ("", "", "", false)
def tyX2 : Nat → FieldType := fun k => match k with
  | _ => .int
theorem nmX2 : ∀ a, a < 0 → ∀ b, b < 0 → a ≠ b → (TX2 a).2.1 ≠ (TX2 b).2.1 := by decide +kernel
theorem tyX2_ok : ∀ k, k < 0 → parseFieldDescriptor (TX2 k).2.2.1 = some (tyX2 k) := by decide +kernel
abbrev cX2_init : ByteArray := prog_4_method_1_code
def yX2_init : MethodName := ⟨RX2, "<init>", "(I)V"⟩
abbrev cX2_living : ByteArray := prog_4_method_4_code
def yX2_living : MethodName := ⟨RX2, "living", "()I"⟩
abbrev cX2_nodeCount : ByteArray := prog_4_method_5_code
def yX2_nodeCount : MethodName := ⟨RX2, "nodeCount", "()I"⟩
abbrev cX2_rebuiltWeight : ByteArray := prog_4_method_6_code
def yX2_rebuiltWeight : MethodName := ⟨RX2, "rebuiltWeight", "()I"⟩
abbrev cX2_dropCount : ByteArray := prog_4_method_7_code
def yX2_dropCount : MethodName := ⟨RX2, "dropCount", "()I"⟩
abbrev cX2_greatestDepth : ByteArray := prog_4_method_8_code
def yX2_greatestDepth : MethodName := ⟨RX2, "greatestDepth", "()I"⟩
abbrev cX2_sumOfDepths : ByteArray := prog_4_method_9_code
def yX2_sumOfDepths : MethodName := ⟨RX2, "sumOfDepths", "()I"⟩
abbrev cX2_holds : ByteArray := prog_4_method_10_code
def yX2_holds : MethodName := ⟨RX2, "holds", "(I)Z"⟩
abbrev cX2_depthOf : ByteArray := prog_4_method_11_code
def yX2_depthOf : MethodName := ⟨RX2, "depthOf", "(I)I"⟩
abbrev cX2_find : ByteArray := prog_4_method_12_code
def yX2_find : MethodName := ⟨RX2, "find", "(I)LScapegoatSpur$Node;"⟩
abbrev cX2_belongsLeft : ByteArray := prog_4_method_13_code
def yX2_belongsLeft : MethodName := ⟨RX2, "belongsLeft", "(ILScapegoatSpur$Node;I)Z"⟩
abbrev cX2_enter : ByteArray := prog_4_method_14_code
def yX2_enter : MethodName := ⟨RX2, "enter", "(I)V"⟩
abbrev cX2_addLeaf : ByteArray := prog_4_method_15_code
def yX2_addLeaf : MethodName := ⟨RX2, "addLeaf", "(I)V"⟩
abbrev cX2_rebuild : ByteArray := prog_4_method_16_code
def yX2_rebuild : MethodName := ⟨RX2, "rebuild", "(I)V"⟩
abbrev cX2_retire : ByteArray := prog_4_method_17_code
def yX2_retire : MethodName := ⟨RX2, "retire", "(I)V"⟩
abbrev cX2_dropDead : ByteArray := prog_4_method_18_code
def yX2_dropDead : MethodName := ⟨RX2, "dropDead", "()V"⟩
abbrev cX2_livingNodes : ByteArray := prog_4_method_19_code
def yX2_livingNodes : MethodName := ⟨RX2, "livingNodes", "()LScapegoatSpur$NodeRow;"⟩
abbrev cX2_gather : ByteArray := prog_4_method_20_code
def yX2_gather : MethodName := ⟨RX2, "gather", "(LScapegoatSpur$Node;Z)V"⟩
abbrev cX2_appendAll : ByteArray := prog_4_method_21_code
def yX2_appendAll : MethodName := ⟨RX2, "appendAll", "(LScapegoatSpur$Node;ZLScapegoatSpur$NodeRow;I)V"⟩
abbrev cX2_layOut : ByteArray := prog_4_method_22_code
def yX2_layOut : MethodName := ⟨RX2, "layOut", "(LScapegoatSpur$LazyTree;III)LScapegoatSpur$Node;"⟩
abbrev cX2_sortRow : ByteArray := prog_4_method_23_code
def yX2_sortRow : MethodName := ⟨RX2, "sortRow", "(III)V"⟩
abbrev cX2_sinkInRow : ByteArray := prog_4_method_24_code
def yX2_sinkInRow : MethodName := ⟨RX2, "sinkInRow", "(III)V"⟩
abbrev cX2_greatestDepthIn : ByteArray := prog_4_method_25_code
def yX2_greatestDepthIn : MethodName := ⟨RX2, "greatestDepthIn", "(LScapegoatSpur$Node;I)I"⟩
abbrev cX2_sumOfDepthsIn : ByteArray := prog_4_method_26_code
def yX2_sumOfDepthsIn : MethodName := ⟨RX2, "sumOfDepthsIn", "(LScapegoatSpur$Node;I)I"⟩
def RX3 : String := "ScapegoatSpur$Node"
def TX3 : u_T := fun k => match k with
  | 0 => ("ScapegoatSpur$Node", "key", "I", false)
  | 1 => ("ScapegoatSpur$Node", "alive", "Z", false)
  | 2 => ("ScapegoatSpur$Node", "weight", "I", false)
  | 3 => ("ScapegoatSpur$Node", "left", "LScapegoatSpur$Node;", false)
  | _ => ("ScapegoatSpur$Node", "right", "LScapegoatSpur$Node;", false)
def tyX3 : Nat → FieldType := fun k => match k with
  | 0 => .int
  | 1 => .boolean
  | 2 => .int
  | 3 => .object "ScapegoatSpur$Node"
  | _ => .object "ScapegoatSpur$Node"
theorem nmX3 : ∀ a, a < 5 → ∀ b, b < 5 → a ≠ b → (TX3 a).2.1 ≠ (TX3 b).2.1 := by decide +kernel
theorem tyX3_ok : ∀ k, k < 5 → parseFieldDescriptor (TX3 k).2.2.1 = some (tyX3 k) := by decide +kernel
abbrev cX3_init : ByteArray := prog_5_method_1_code
def yX3_init : MethodName := ⟨RX3, "<init>", "(I)V"⟩
abbrev cX3_weightOf : ByteArray := prog_5_method_2_code
def yX3_weightOf : MethodName := ⟨RX3, "weightOf", "(LScapegoatSpur$Node;)I"⟩
def RX4 : String := "ScapegoatSpur$NodeRow"
def TX4 : u_T := fun k => match k with
  | 0 => ("ScapegoatSpur$NodeRow", "nodes", "[LScapegoatSpur$Node;", true)
  | _ => ("ScapegoatSpur$NodeRow", "length", "I", false)
def tyX4 : Nat → FieldType := fun k => match k with
  | 0 => .array (.object "ScapegoatSpur$Node")
  | _ => .int
theorem nmX4 : ∀ a, a < 2 → ∀ b, b < 2 → a ≠ b → (TX4 a).2.1 ≠ (TX4 b).2.1 := by decide +kernel
theorem tyX4_ok : ∀ k, k < 2 → parseFieldDescriptor (TX4 k).2.2.1 = some (tyX4 k) := by decide +kernel
abbrev cX4_init : ByteArray := prog_6_method_1_code
def yX4_init : MethodName := ⟨RX4, "<init>", "(I)V"⟩
abbrev cX4_length : ByteArray := prog_6_method_2_code
def yX4_length : MethodName := ⟨RX4, "length", "()I"⟩
abbrev cX4_empty : ByteArray := prog_6_method_3_code
def yX4_empty : MethodName := ⟨RX4, "empty", "()V"⟩
abbrev cX4_append : ByteArray := prog_6_method_4_code
def yX4_append : MethodName := ⟨RX4, "append", "(LScapegoatSpur$Node;)V"⟩
abbrev cX4_at : ByteArray := prog_6_method_5_code
def yX4_at : MethodName := ⟨RX4, "at", "(I)LScapegoatSpur$Node;"⟩
abbrev cX4_put : ByteArray := prog_6_method_6_code
def yX4_put : MethodName := ⟨RX4, "put", "(ILScapegoatSpur$Node;)V"⟩
def RX5 : String := "ScapegoatSpur$PointTree"
def TX5 : u_T := fun k => match k with
  | 0 => ("ScapegoatSpur$LazyTree", "path", "LScapegoatSpur$NodeRow;", true)
  | 1 => ("ScapegoatSpur$LazyTree", "row", "LScapegoatSpur$NodeRow;", true)
  | 2 => ("ScapegoatSpur$LazyTree", "root", "LScapegoatSpur$Node;", false)
  | 3 => ("ScapegoatSpur$LazyTree", "living", "I", false)
  | 4 => ("ScapegoatSpur$LazyTree", "rebuiltWeight", "I", false)
  | _ => ("ScapegoatSpur$LazyTree", "dropCount", "I", false)
def tyX5 : Nat → FieldType := fun k => match k with
  | 0 => .object "ScapegoatSpur$NodeRow"
  | 1 => .object "ScapegoatSpur$NodeRow"
  | 2 => .object "ScapegoatSpur$Node"
  | 3 => .int
  | 4 => .int
  | _ => .int
theorem nmX5 : ∀ a, a < 6 → ∀ b, b < 6 → a ≠ b → (TX5 a).2.1 ≠ (TX5 b).2.1 := by decide +kernel
theorem tyX5_ok : ∀ k, k < 6 → parseFieldDescriptor (TX5 k).2.2.1 = some (tyX5 k) := by decide +kernel
abbrev cX5_init : ByteArray := prog_7_method_1_code
def yX5_init : MethodName := ⟨RX5, "<init>", "()V"⟩
abbrev cX5_keyOf : ByteArray := prog_7_method_2_code
def yX5_keyOf : MethodName := ⟨RX5, "keyOf", "(II)I"⟩
abbrev cX5_firstOf : ByteArray := prog_7_method_3_code
def yX5_firstOf : MethodName := ⟨RX5, "firstOf", "(I)I"⟩
abbrev cX5_secondOf : ByteArray := prog_7_method_4_code
def yX5_secondOf : MethodName := ⟨RX5, "secondOf", "(I)I"⟩
abbrev cX5_orderOf : ByteArray := prog_7_method_5_code
def yX5_orderOf : MethodName := ⟨RX5, "orderOf", "(II)I"⟩
abbrev cX5_depthToRebuild : ByteArray := prog_7_method_6_code
def yX5_depthToRebuild : MethodName := ⟨RX5, "depthToRebuild", "(LScapegoatSpur$NodeRow;)I"⟩
abbrev cX5_hasHeavyChild : ByteArray := prog_7_method_7_code
def yX5_hasHeavyChild : MethodName := ⟨RX5, "hasHeavyChild", "(LScapegoatSpur$Node;)Z"⟩
abbrev cX5_livingInBox : ByteArray := prog_7_method_8_code
def yX5_livingInBox : MethodName := ⟨RX5, "livingInBox", "(IIII)I"⟩
abbrev cX5_isBetween : ByteArray := prog_7_method_9_code
def yX5_isBetween : MethodName := ⟨RX5, "isBetween", "(III)Z"⟩
abbrev cX5_livingNearestTo : ByteArray := prog_7_method_10_code
def yX5_livingNearestTo : MethodName := ⟨RX5, "livingNearestTo", "(II)I"⟩
abbrev cX5_squaredDistance : ByteArray := prog_7_method_11_code
def yX5_squaredDistance : MethodName := ⟨RX5, "squaredDistance", "(III)I"⟩
def RX6 : String := "ScapegoatSpur$SortedParts"
def TX6 : u_T := fun k => match k with
  | 0 => ("ScapegoatSpur$SortedParts", "first", "LScapegoatSpur$Entry;", false)
  | 1 => ("ScapegoatSpur$SortedParts", "entryCount", "I", false)
  | 2 => ("ScapegoatSpur$SortedParts", "living", "I", false)
  | _ => ("ScapegoatSpur$SortedParts", "mergeCount", "I", false)
def tyX6 : Nat → FieldType := fun k => match k with
  | 0 => .object "ScapegoatSpur$Entry"
  | 1 => .int
  | 2 => .int
  | _ => .int
theorem nmX6 : ∀ a, a < 4 → ∀ b, b < 4 → a ≠ b → (TX6 a).2.1 ≠ (TX6 b).2.1 := by decide +kernel
theorem tyX6_ok : ∀ k, k < 4 → parseFieldDescriptor (TX6 k).2.2.1 = some (tyX6 k) := by decide +kernel
abbrev cX6_init : ByteArray := prog_8_method_1_code
def yX6_init : MethodName := ⟨RX6, "<init>", "()V"⟩
abbrev cX6_living : ByteArray := prog_8_method_2_code
def yX6_living : MethodName := ⟨RX6, "living", "()I"⟩
abbrev cX6_entryCount : ByteArray := prog_8_method_3_code
def yX6_entryCount : MethodName := ⟨RX6, "entryCount", "()I"⟩
abbrev cX6_mergeCount : ByteArray := prog_8_method_4_code
def yX6_mergeCount : MethodName := ⟨RX6, "mergeCount", "()I"⟩
abbrev cX6_find : ByteArray := prog_8_method_5_code
def yX6_find : MethodName := ⟨RX6, "find", "(I)LScapegoatSpur$Entry;"⟩
abbrev cX6_holds : ByteArray := prog_8_method_6_code
def yX6_holds : MethodName := ⟨RX6, "holds", "(I)Z"⟩
abbrev cX6_livingBelow : ByteArray := prog_8_method_7_code
def yX6_livingBelow : MethodName := ⟨RX6, "livingBelow", "(I)I"⟩
abbrev cX6_livingWithRank : ByteArray := prog_8_method_8_code
def yX6_livingWithRank : MethodName := ⟨RX6, "livingWithRank", "(I)LScapegoatSpur$Entry;"⟩
abbrev cX6_hasPart : ByteArray := prog_8_method_9_code
def yX6_hasPart : MethodName := ⟨RX6, "hasPart", "(I)Z"⟩
abbrev cX6_sizeOf : ByteArray := prog_8_method_10_code
def yX6_sizeOf : MethodName := ⟨RX6, "sizeOf", "(I)I"⟩
abbrev cX6_entryAt : ByteArray := prog_8_method_11_code
def yX6_entryAt : MethodName := ⟨RX6, "entryAt", "(II)LScapegoatSpur$Entry;"⟩
abbrev cX6_enter : ByteArray := prog_8_method_12_code
def yX6_enter : MethodName := ⟨RX6, "enter", "(I)V"⟩
abbrev cX6_insert : ByteArray := prog_8_method_13_code
def yX6_insert : MethodName := ⟨RX6, "insert", "(LScapegoatSpur$Entry;)V"⟩
abbrev cX6_mergeEqualParts : ByteArray := prog_8_method_14_code
def yX6_mergeEqualParts : MethodName := ⟨RX6, "mergeEqualParts", "()V"⟩
abbrev cX6_renumber : ByteArray := prog_8_method_15_code
def yX6_renumber : MethodName := ⟨RX6, "renumber", "(II)V"⟩
abbrev cX6_retire : ByteArray := prog_8_method_16_code
def yX6_retire : MethodName := ⟨RX6, "retire", "(I)V"⟩
abbrev cX6_dropDead : ByteArray := prog_8_method_17_code
def yX6_dropDead : MethodName := ⟨RX6, "dropDead", "()V"⟩
abbrev cX6_dealOut : ByteArray := prog_8_method_18_code
def yX6_dealOut : MethodName := ⟨RX6, "dealOut", "()V"⟩
abbrev cX6_deal : ByteArray := prog_8_method_19_code
def yX6_deal : MethodName := ⟨RX6, "deal", "(LScapegoatSpur$Entry;I)LScapegoatSpur$Entry;"⟩
def RX7 : String := "ScapegoatSpur$TurningTree"
def TX7 : u_T := fun k => match k with
  | 0 => ("ScapegoatSpur$TurningTree", "path", "LScapegoatSpur$NodeRow;", true)
  | 1 => ("ScapegoatSpur$TurningTree", "root", "LScapegoatSpur$Node;", false)
  | _ => ("ScapegoatSpur$TurningTree", "turnCount", "I", false)
def tyX7 : Nat → FieldType := fun k => match k with
  | 0 => .object "ScapegoatSpur$NodeRow"
  | 1 => .object "ScapegoatSpur$Node"
  | _ => .int
theorem nmX7 : ∀ a, a < 3 → ∀ b, b < 3 → a ≠ b → (TX7 a).2.1 ≠ (TX7 b).2.1 := by decide +kernel
theorem tyX7_ok : ∀ k, k < 3 → parseFieldDescriptor (TX7 k).2.2.1 = some (tyX7 k) := by decide +kernel
abbrev cX7_init : ByteArray := prog_9_method_1_code
def yX7_init : MethodName := ⟨RX7, "<init>", "()V"⟩
abbrev cX7_top : ByteArray := prog_9_method_2_code
def yX7_top : MethodName := ⟨RX7, "top", "()LScapegoatSpur$Node;"⟩
abbrev cX7_turnCount : ByteArray := prog_9_method_3_code
def yX7_turnCount : MethodName := ⟨RX7, "turnCount", "()I"⟩
abbrev cX7_depthOf : ByteArray := prog_9_method_4_code
def yX7_depthOf : MethodName := ⟨RX7, "depthOf", "(I)I"⟩
abbrev cX7_find : ByteArray := prog_9_method_5_code
def yX7_find : MethodName := ⟨RX7, "find", "(I)LScapegoatSpur$Node;"⟩
abbrev cX7_insert : ByteArray := prog_9_method_6_code
def yX7_insert : MethodName := ⟨RX7, "insert", "(I)V"⟩
abbrev cX7_delete : ByteArray := prog_9_method_7_code
def yX7_delete : MethodName := ⟨RX7, "delete", "(I)V"⟩
abbrev cX7_walkToHeir : ByteArray := prog_9_method_8_code
def yX7_walkToHeir : MethodName := ⟨RX7, "walkToHeir", "(LScapegoatSpur$Node;)LScapegoatSpur$Node;"⟩
abbrev cX7_replace : ByteArray := prog_9_method_9_code
def yX7_replace : MethodName := ⟨RX7, "replace", "(LScapegoatSpur$Node;LScapegoatSpur$Node;LScapegoatSpur$Node;)V"⟩
abbrev cX7_balanceUpFrom : ByteArray := prog_9_method_10_code
def yX7_balanceUpFrom : MethodName := ⟨RX7, "balanceUpFrom", "(I)V"⟩
abbrev cX7_weigh : ByteArray := prog_9_method_11_code
def yX7_weigh : MethodName := ⟨RX7, "weigh", "(LScapegoatSpur$Node;)V"⟩
abbrev cX7_loadOf : ByteArray := prog_9_method_12_code
def yX7_loadOf : MethodName := ⟨RX7, "loadOf", "(LScapegoatSpur$Node;)I"⟩
abbrev cX7_balanced : ByteArray := prog_9_method_13_code
def yX7_balanced : MethodName := ⟨RX7, "balanced", "(LScapegoatSpur$Node;)LScapegoatSpur$Node;"⟩
abbrev cX7_turnedLeft : ByteArray := prog_9_method_14_code
def yX7_turnedLeft : MethodName := ⟨RX7, "turnedLeft", "(LScapegoatSpur$Node;)LScapegoatSpur$Node;"⟩
abbrev cX7_turnedRight : ByteArray := prog_9_method_15_code
def yX7_turnedRight : MethodName := ⟨RX7, "turnedRight", "(LScapegoatSpur$Node;)LScapegoatSpur$Node;"⟩
def RX8 : String := "ScapegoatSpur"
def TX8 : u_T := fun k => match k with
  | 0 => ("ScapegoatSpur", "keyTree", "LScapegoatSpur$KeyTree;", true)
  | 1 => ("ScapegoatSpur", "turningTree", "LScapegoatSpur$TurningTree;", true)
  | 2 => ("ScapegoatSpur", "sortedParts", "LScapegoatSpur$SortedParts;", true)
  | _ => ("ScapegoatSpur", "pointTree", "LScapegoatSpur$PointTree;", true)
def tyX8 : Nat → FieldType := fun k => match k with
  | 0 => .object "ScapegoatSpur$KeyTree"
  | 1 => .object "ScapegoatSpur$TurningTree"
  | 2 => .object "ScapegoatSpur$SortedParts"
  | _ => .object "ScapegoatSpur$PointTree"
theorem nmX8 : ∀ a, a < 4 → ∀ b, b < 4 → a ≠ b → (TX8 a).2.1 ≠ (TX8 b).2.1 := by decide +kernel
theorem tyX8_ok : ∀ k, k < 4 → parseFieldDescriptor (TX8 k).2.2.1 = some (tyX8 k) := by decide +kernel
abbrev cX8_init : ByteArray := prog_1_method_1_code
def yX8_init : MethodName := ⟨RX8, "<init>", "()V"⟩
abbrev cX8_add : ByteArray := prog_1_method_2_code
def yX8_add : MethodName := ⟨RX8, "add", "(I)Z"⟩
abbrev cX8_remove : ByteArray := prog_1_method_3_code
def yX8_remove : MethodName := ⟨RX8, "remove", "(I)Z"⟩
abbrev cX8_contains : ByteArray := prog_1_method_4_code
def yX8_contains : MethodName := ⟨RX8, "contains", "(I)Z"⟩
abbrev cX8_size : ByteArray := prog_1_method_5_code
def yX8_size : MethodName := ⟨RX8, "size", "()I"⟩
abbrev cX8_rank : ByteArray := prog_1_method_6_code
def yX8_rank : MethodName := ⟨RX8, "rank", "(I)I"⟩
abbrev cX8_keyAt : ByteArray := prog_1_method_7_code
def yX8_keyAt : MethodName := ⟨RX8, "keyAt", "(I)I"⟩
abbrev cX8_nodes : ByteArray := prog_1_method_8_code
def yX8_nodes : MethodName := ⟨RX8, "nodes", "()I"⟩
abbrev cX8_bound : ByteArray := prog_1_method_9_code
def yX8_bound : MethodName := ⟨RX8, "bound", "()I"⟩
abbrev cX8_height : ByteArray := prog_1_method_10_code
def yX8_height : MethodName := ⟨RX8, "height", "()I"⟩
abbrev cX8_depth : ByteArray := prog_1_method_11_code
def yX8_depth : MethodName := ⟨RX8, "depth", "(I)I"⟩
abbrev cX8_weight : ByteArray := prog_1_method_12_code
def yX8_weight : MethodName := ⟨RX8, "weight", "(I)I"⟩
abbrev cX8_rebuilt : ByteArray := prog_1_method_13_code
def yX8_rebuilt : MethodName := ⟨RX8, "rebuilt", "()I"⟩
abbrev cX8_drops : ByteArray := prog_1_method_14_code
def yX8_drops : MethodName := ⟨RX8, "drops", "()I"⟩
abbrev cX8_averageDepth : ByteArray := prog_1_method_15_code
def yX8_averageDepth : MethodName := ⟨RX8, "averageDepth", "()F"⟩
abbrev cX8_depthInTurning : ByteArray := prog_1_method_16_code
def yX8_depthInTurning : MethodName := ⟨RX8, "depthInTurning", "(I)I"⟩
abbrev cX8_turningRoot : ByteArray := prog_1_method_17_code
def yX8_turningRoot : MethodName := ⟨RX8, "turningRoot", "()I"⟩
abbrev cX8_turns : ByteArray := prog_1_method_18_code
def yX8_turns : MethodName := ⟨RX8, "turns", "()I"⟩
abbrev cX8_entries : ByteArray := prog_1_method_19_code
def yX8_entries : MethodName := ⟨RX8, "entries", "()I"⟩
abbrev cX8_partOf : ByteArray := prog_1_method_20_code
def yX8_partOf : MethodName := ⟨RX8, "partOf", "(I)I"⟩
abbrev cX8_entry : ByteArray := prog_1_method_21_code
def yX8_entry : MethodName := ⟨RX8, "entry", "(II)I"⟩
abbrev cX8_merges : ByteArray := prog_1_method_22_code
def yX8_merges : MethodName := ⟨RX8, "merges", "()I"⟩
abbrev cX8_addPoint : ByteArray := prog_1_method_23_code
def yX8_addPoint : MethodName := ⟨RX8, "addPoint", "(II)Z"⟩
abbrev cX8_removePoint : ByteArray := prog_1_method_24_code
def yX8_removePoint : MethodName := ⟨RX8, "removePoint", "(II)Z"⟩
abbrev cX8_points : ByteArray := prog_1_method_25_code
def yX8_points : MethodName := ⟨RX8, "points", "()I"⟩
abbrev cX8_pointNodes : ByteArray := prog_1_method_26_code
def yX8_pointNodes : MethodName := ⟨RX8, "pointNodes", "()I"⟩
abbrev cX8_pointDepth : ByteArray := prog_1_method_27_code
def yX8_pointDepth : MethodName := ⟨RX8, "pointDepth", "(II)I"⟩
abbrev cX8_pointHeight : ByteArray := prog_1_method_28_code
def yX8_pointHeight : MethodName := ⟨RX8, "pointHeight", "()I"⟩
abbrev cX8_countIn : ByteArray := prog_1_method_29_code
def yX8_countIn : MethodName := ⟨RX8, "countIn", "(IIII)I"⟩
abbrev cX8_nearest : ByteArray := prog_1_method_30_code
def yX8_nearest : MethodName := ⟨RX8, "nearest", "(II)I"⟩
abbrev cX8_pointsRebuilt : ByteArray := prog_1_method_31_code
def yX8_pointsRebuilt : MethodName := ⟨RX8, "pointsRebuilt", "()I"⟩
abbrev cX8_isPlace : ByteArray := prog_1_method_32_code
def yX8_isPlace : MethodName := ⟨RX8, "isPlace", "(II)Z"⟩
def RX9 : String := "ScapegoatSpurModel"
def TX9 : u_T := fun k => match k with
  | 0 => ("ScapegoatSpurModel", "nodes", "I", false)
  | 1 => ("ScapegoatSpurModel", "drops", "I", false)
  | 2 => ("ScapegoatSpurModel", "rebuilt", "I", false)
  | 3 => ("ScapegoatSpurModel", "turns", "I", false)
  | 4 => ("ScapegoatSpurModel", "merges", "I", false)
  | 5 => ("ScapegoatSpurModel", "key", "[I", true)
  | 6 => ("ScapegoatSpurModel", "isAlive", "[Z", true)
  | 7 => ("ScapegoatSpurModel", "spot", "[I", true)
  | 8 => ("ScapegoatSpurModel", "turning", "[I", true)
  | 9 => ("ScapegoatSpurModel", "part", "[I", true)
  | 10 => ("ScapegoatSpurModel", "pointNodes", "I", false)
  | 11 => ("ScapegoatSpurModel", "pointsRebuilt", "I", false)
  | 12 => ("ScapegoatSpurModel", "first", "[I", true)
  | 13 => ("ScapegoatSpurModel", "second", "[I", true)
  | 14 => ("ScapegoatSpurModel", "isPointAlive", "[Z", true)
  | 15 => ("ScapegoatSpurModel", "pointSpot", "[I", true)
  | 16 => ("ScapegoatSpurModel", "isOpen", "[Z", true)
  | 17 => ("ScapegoatSpurModel", "next", "[I", true)
  | _ => ("ScapegoatSpurModel", "thrown", "I", false)
def tyX9 : Nat → FieldType := fun k => match k with
  | 0 => .int
  | 1 => .int
  | 2 => .int
  | 3 => .int
  | 4 => .int
  | 5 => .array .int
  | 6 => .array .boolean
  | 7 => .array .int
  | 8 => .array .int
  | 9 => .array .int
  | 10 => .int
  | 11 => .int
  | 12 => .array .int
  | 13 => .array .int
  | 14 => .array .boolean
  | 15 => .array .int
  | 16 => .array .boolean
  | 17 => .array .int
  | _ => .int
theorem nmX9 : ∀ a, a < 19 → ∀ b, b < 19 → a ≠ b → (TX9 a).2.1 ≠ (TX9 b).2.1 := by decide +kernel
theorem tyX9_ok : ∀ k, k < 19 → parseFieldDescriptor (TX9 k).2.2.1 = some (tyX9 k) := by decide +kernel
abbrev cX9_init : ByteArray := prog_11_method_1_code
def yX9_init : MethodName := ⟨RX9, "<init>", "()V"⟩
abbrev cX9_thrown : ByteArray := prog_11_method_2_code
def yX9_thrown : MethodName := ⟨RX9, "thrown", "()I"⟩
abbrev cX9_can : ByteArray := prog_11_method_3_code
def yX9_can : MethodName := ⟨RX9, "can", "(I)Z"⟩
abbrev cX9_depthOf : ByteArray := prog_11_method_4_code
def yX9_depthOf : MethodName := ⟨RX9, "depthOf", "(I)I"⟩
abbrev cX9_isBelow : ByteArray := prog_11_method_5_code
def yX9_isBelow : MethodName := ⟨RX9, "isBelow", "(II)Z"⟩
abbrev cX9_moved : ByteArray := prog_11_method_6_code
def yX9_moved : MethodName := ⟨RX9, "moved", "(III)I"⟩
abbrev cX9_weightAt : ByteArray := prog_11_method_7_code
def yX9_weightAt : MethodName := ⟨RX9, "weightAt", "([III)I"⟩
abbrev cX9_nodeAt : ByteArray := prog_11_method_8_code
def yX9_nodeAt : MethodName := ⟨RX9, "nodeAt", "([III)I"⟩
abbrev cX9_heightOf : ByteArray := prog_11_method_9_code
def yX9_heightOf : MethodName := ⟨RX9, "heightOf", "([II)I"⟩
abbrev cX9_boundOf : ByteArray := prog_11_method_10_code
def yX9_boundOf : MethodName := ⟨RX9, "boundOf", "(I)I"⟩
abbrev cX9_nodeOf : ByteArray := prog_11_method_11_code
def yX9_nodeOf : MethodName := ⟨RX9, "nodeOf", "(I)I"⟩
abbrev cX9_living : ByteArray := prog_11_method_12_code
def yX9_living : MethodName := ⟨RX9, "living", "()I"⟩
abbrev cX9_copies : ByteArray := prog_11_method_13_code
def yX9_copies : MethodName := ⟨RX9, "copies", "(II)V"⟩
abbrev cX9_leaf : ByteArray := prog_11_method_14_code
def yX9_leaf : MethodName := ⟨RX9, "leaf", "([II)I"⟩
abbrev cX9_layOut : ByteArray := prog_11_method_15_code
def yX9_layOut : MethodName := ⟨RX9, "layOut", "(I)V"⟩
abbrev cX9_growTree : ByteArray := prog_11_method_16_code
def yX9_growTree : MethodName := ⟨RX9, "growTree", "(I)V"⟩
abbrev cX9_inPart : ByteArray := prog_11_method_17_code
def yX9_inPart : MethodName := ⟨RX9, "inPart", "(I)I"⟩
abbrev cX9_growParts : ByteArray := prog_11_method_18_code
def yX9_growParts : MethodName := ⟨RX9, "growParts", "()V"⟩
abbrev cX9_load : ByteArray := prog_11_method_19_code
def yX9_load : MethodName := ⟨RX9, "load", "(I)I"⟩
abbrev cX9_turn : ByteArray := prog_11_method_20_code
def yX9_turn : MethodName := ⟨RX9, "turn", "(IZ)V"⟩
abbrev cX9_balance : ByteArray := prog_11_method_21_code
def yX9_balance : MethodName := ⟨RX9, "balance", "(I)V"⟩
abbrev cX9_balancesAbove : ByteArray := prog_11_method_22_code
def yX9_balancesAbove : MethodName := ⟨RX9, "balancesAbove", "(I)V"⟩
abbrev cX9_grows : ByteArray := prog_11_method_23_code
def yX9_grows : MethodName := ⟨RX9, "grows", "(I)V"⟩
abbrev cX9_leaves : ByteArray := prog_11_method_24_code
def yX9_leaves : MethodName := ⟨RX9, "leaves", "(I)V"⟩
abbrev cX9_add : ByteArray := prog_11_method_25_code
def yX9_add : MethodName := ⟨RX9, "add", "(I)Z"⟩
abbrev cX9_drop : ByteArray := prog_11_method_26_code
def yX9_drop : MethodName := ⟨RX9, "drop", "()V"⟩
abbrev cX9_remove : ByteArray := prog_11_method_27_code
def yX9_remove : MethodName := ⟨RX9, "remove", "(I)Z"⟩
abbrev cX9_contains : ByteArray := prog_11_method_28_code
def yX9_contains : MethodName := ⟨RX9, "contains", "(I)Z"⟩
abbrev cX9_size : ByteArray := prog_11_method_29_code
def yX9_size : MethodName := ⟨RX9, "size", "()I"⟩
abbrev cX9_rank : ByteArray := prog_11_method_30_code
def yX9_rank : MethodName := ⟨RX9, "rank", "(I)I"⟩
abbrev cX9_keyAt : ByteArray := prog_11_method_31_code
def yX9_keyAt : MethodName := ⟨RX9, "keyAt", "(I)I"⟩
abbrev cX9_nodes : ByteArray := prog_11_method_32_code
def yX9_nodes : MethodName := ⟨RX9, "nodes", "()I"⟩
abbrev cX9_bound : ByteArray := prog_11_method_33_code
def yX9_bound : MethodName := ⟨RX9, "bound", "()I"⟩
abbrev cX9_height : ByteArray := prog_11_method_34_code
def yX9_height : MethodName := ⟨RX9, "height", "()I"⟩
abbrev cX9_isNode : ByteArray := prog_11_method_35_code
def yX9_isNode : MethodName := ⟨RX9, "isNode", "(I)Z"⟩
abbrev cX9_depth : ByteArray := prog_11_method_36_code
def yX9_depth : MethodName := ⟨RX9, "depth", "(I)I"⟩
abbrev cX9_weight : ByteArray := prog_11_method_37_code
def yX9_weight : MethodName := ⟨RX9, "weight", "(I)I"⟩
abbrev cX9_rebuilt : ByteArray := prog_11_method_38_code
def yX9_rebuilt : MethodName := ⟨RX9, "rebuilt", "()I"⟩
abbrev cX9_drops : ByteArray := prog_11_method_39_code
def yX9_drops : MethodName := ⟨RX9, "drops", "()I"⟩
abbrev cX9_averageDepth : ByteArray := prog_11_method_40_code
def yX9_averageDepth : MethodName := ⟨RX9, "averageDepth", "()F"⟩
abbrev cX9_depthInTurning : ByteArray := prog_11_method_41_code
def yX9_depthInTurning : MethodName := ⟨RX9, "depthInTurning", "(I)I"⟩
abbrev cX9_turningRoot : ByteArray := prog_11_method_42_code
def yX9_turningRoot : MethodName := ⟨RX9, "turningRoot", "()I"⟩
abbrev cX9_turns : ByteArray := prog_11_method_43_code
def yX9_turns : MethodName := ⟨RX9, "turns", "()I"⟩
abbrev cX9_entries : ByteArray := prog_11_method_44_code
def yX9_entries : MethodName := ⟨RX9, "entries", "()I"⟩
abbrev cX9_partOf : ByteArray := prog_11_method_45_code
def yX9_partOf : MethodName := ⟨RX9, "partOf", "(I)I"⟩
abbrev cX9_entry : ByteArray := prog_11_method_46_code
def yX9_entry : MethodName := ⟨RX9, "entry", "(II)I"⟩
abbrev cX9_merges : ByteArray := prog_11_method_47_code
def yX9_merges : MethodName := ⟨RX9, "merges", "()I"⟩
abbrev cX9_pointOf : ByteArray := prog_11_method_48_code
def yX9_pointOf : MethodName := ⟨RX9, "pointOf", "(II)I"⟩
abbrev cX9_isLess : ByteArray := prog_11_method_49_code
def yX9_isLess : MethodName := ⟨RX9, "isLess", "(IIIII)Z"⟩
abbrev cX9_livingPoints : ByteArray := prog_11_method_50_code
def yX9_livingPoints : MethodName := ⟨RX9, "livingPoints", "()I"⟩
abbrev cX9_pointsBefore : ByteArray := prog_11_method_51_code
def yX9_pointsBefore : MethodName := ⟨RX9, "pointsBefore", "(I)I"⟩
abbrev cX9_pointsWith : ByteArray := prog_11_method_52_code
def yX9_pointsWith : MethodName := ⟨RX9, "pointsWith", "(I)I"⟩
abbrev cX9_layOutPoints : ByteArray := prog_11_method_53_code
def yX9_layOutPoints : MethodName := ⟨RX9, "layOutPoints", "(I)V"⟩
abbrev cX9_pointWeight : ByteArray := prog_11_method_54_code
def yX9_pointWeight : MethodName := ⟨RX9, "pointWeight", "(I)I"⟩
abbrev cX9_growPoints : ByteArray := prog_11_method_55_code
def yX9_growPoints : MethodName := ⟨RX9, "growPoints", "(I)V"⟩
abbrev cX9_addPoint : ByteArray := prog_11_method_56_code
def yX9_addPoint : MethodName := ⟨RX9, "addPoint", "(II)Z"⟩
abbrev cX9_removePoint : ByteArray := prog_11_method_57_code
def yX9_removePoint : MethodName := ⟨RX9, "removePoint", "(II)Z"⟩
abbrev cX9_points : ByteArray := prog_11_method_58_code
def yX9_points : MethodName := ⟨RX9, "points", "()I"⟩
abbrev cX9_pointNodes : ByteArray := prog_11_method_59_code
def yX9_pointNodes : MethodName := ⟨RX9, "pointNodes", "()I"⟩
abbrev cX9_pointDepth : ByteArray := prog_11_method_60_code
def yX9_pointDepth : MethodName := ⟨RX9, "pointDepth", "(II)I"⟩
abbrev cX9_pointHeight : ByteArray := prog_11_method_61_code
def yX9_pointHeight : MethodName := ⟨RX9, "pointHeight", "()I"⟩
abbrev cX9_countIn : ByteArray := prog_11_method_62_code
def yX9_countIn : MethodName := ⟨RX9, "countIn", "(IIII)I"⟩
abbrev cX9_nearest : ByteArray := prog_11_method_63_code
def yX9_nearest : MethodName := ⟨RX9, "nearest", "(II)I"⟩
abbrev cX9_pointsRebuilt : ByteArray := prog_11_method_64_code
def yX9_pointsRebuilt : MethodName := ⟨RX9, "pointsRebuilt", "()I"⟩
def RJx145de : String := "java/io/Serializable"
def TJx145de : u_T := fun k => match k with
  | _ => ("", "", "", false)
def tyJx145de : Nat → FieldType := fun k => match k with
  | _ => .int
theorem nmJx145de : ∀ a, a < 0 → ∀ b, b < 0 → a ≠ b → (TJx145de a).2.1 ≠ (TJx145de b).2.1 := by decide +kernel
theorem tyJx145de_ok : ∀ k, k < 0 → parseFieldDescriptor (TJx145de k).2.2.1 = some (tyJx145de k) := by decide +kernel
def RJ9 : String := "java/lang/Math"
def TJ9 : u_T := fun k => match k with
  | _ => ("", "", "", false)
def tyJ9 : Nat → FieldType := fun k => match k with
  | _ => .int
theorem nmJ9 : ∀ a, a < 0 → ∀ b, b < 0 → a ≠ b → (TJ9 a).2.1 ≠ (TJ9 b).2.1 := by decide +kernel
theorem tyJ9_ok : ∀ k, k < 0 → parseFieldDescriptor (TJ9 k).2.2.1 = some (tyJ9 k) := by decide +kernel
abbrev cJ9_max_7cf53 : ByteArray := prog_17_method_65_code
def yJ9_max_7cf53 : MethodName := ⟨RJ9, "max", "(II)I"⟩
def RJ0 : String := "java/lang/String"
def TJ0 : u_T := fun k => match k with
  | _ => ("", "", "", false)
def tyJ0 : Nat → FieldType := fun k => match k with
  | _ => .int
theorem nmJ0 : ∀ a, a < 0 → ∀ b, b < 0 → a ≠ b → (TJ0 a).2.1 ≠ (TJ0 b).2.1 := by decide +kernel
theorem tyJ0_ok : ∀ k, k < 0 → parseFieldDescriptor (TJ0 k).2.2.1 = some (tyJ0 k) := by decide +kernel
def RL : String := "ScapegoatSpurLaw"
abbrev cL_add : ByteArray := method_3_code
def yL_add : MethodName := ⟨RL, "add", "(LScapegoatSpur;I[J)I"⟩
abbrev cL_keyAt : ByteArray := method_4_code
def yL_keyAt : MethodName := ⟨RL, "keyAt", "(LScapegoatSpur;I[J)I"⟩
abbrev cL_depth : ByteArray := method_5_code
def yL_depth : MethodName := ⟨RL, "depth", "(LScapegoatSpur;I[J)I"⟩
abbrev cL_weight : ByteArray := method_6_code
def yL_weight : MethodName := ⟨RL, "weight", "(LScapegoatSpur;I[J)I"⟩
abbrev cL_depthInTurning : ByteArray := method_7_code
def yL_depthInTurning : MethodName := ⟨RL, "depthInTurning", "(LScapegoatSpur;I[J)I"⟩
abbrev cL_turningRoot : ByteArray := method_8_code
def yL_turningRoot : MethodName := ⟨RL, "turningRoot", "(LScapegoatSpur;[J)I"⟩
abbrev cL_partOf : ByteArray := method_9_code
def yL_partOf : MethodName := ⟨RL, "partOf", "(LScapegoatSpur;I[J)I"⟩
abbrev cL_entry : ByteArray := method_10_code
def yL_entry : MethodName := ⟨RL, "entry", "(LScapegoatSpur;II[J)I"⟩
abbrev cL_addPoint : ByteArray := method_11_code
def yL_addPoint : MethodName := ⟨RL, "addPoint", "(LScapegoatSpur;II[J)I"⟩
abbrev cL_pointDepth : ByteArray := method_12_code
def yL_pointDepth : MethodName := ⟨RL, "pointDepth", "(LScapegoatSpur;II[J)I"⟩
abbrev cL_countIn : ByteArray := method_13_code
def yL_countIn : MethodName := ⟨RL, "countIn", "(LScapegoatSpur;IIII[J)I"⟩
abbrev cL_nearest : ByteArray := method_14_code
def yL_nearest : MethodName := ⟨RL, "nearest", "(LScapegoatSpur;II[J)I"⟩
abbrev cL_law : ByteArray := code
def yL_law : MethodName := ⟨RL, "law", "([I)Z"⟩
abbrev vwCl : List vw_C := [(RX0, TX0, 4), (RX1, TX1, 6), (RX3, TX3, 5), (RX4, TX4, 2), (RX5, TX5, 6), (RX6, TX6, 4), (RX7, TX7, 3), (RX8, TX8, 4), (RX9, TX9, 19)]
/-! the tables' good words, in one list for all methods -/
/-- words that the tables' words give: the abstract class' private methods -/
def x_xtra : List Cond := [.sameMethod "ScapegoatSpur$LazyTree" "ScapegoatSpur$LazyTree" "belongsLeft" "(ILScapegoatSpur$Node;I)Z", .selects "ScapegoatSpur$KeyTree" ⟨"ScapegoatSpur$LazyTree", "belongsLeft", "(ILScapegoatSpur$Node;I)Z"⟩ ⟨"ScapegoatSpur$LazyTree", "belongsLeft", "(ILScapegoatSpur$Node;I)Z"⟩, .selects "ScapegoatSpur$PointTree" ⟨"ScapegoatSpur$LazyTree", "belongsLeft", "(ILScapegoatSpur$Node;I)Z"⟩ ⟨"ScapegoatSpur$LazyTree", "belongsLeft", "(ILScapegoatSpur$Node;I)Z"⟩, .sameMethod "ScapegoatSpur$LazyTree" "ScapegoatSpur$LazyTree" "addLeaf" "(I)V", .selects "ScapegoatSpur$KeyTree" ⟨"ScapegoatSpur$LazyTree", "addLeaf", "(I)V"⟩ ⟨"ScapegoatSpur$LazyTree", "addLeaf", "(I)V"⟩, .selects "ScapegoatSpur$PointTree" ⟨"ScapegoatSpur$LazyTree", "addLeaf", "(I)V"⟩ ⟨"ScapegoatSpur$LazyTree", "addLeaf", "(I)V"⟩, .sameMethod "ScapegoatSpur$LazyTree" "ScapegoatSpur$LazyTree" "rebuild" "(I)V", .selects "ScapegoatSpur$KeyTree" ⟨"ScapegoatSpur$LazyTree", "rebuild", "(I)V"⟩ ⟨"ScapegoatSpur$LazyTree", "rebuild", "(I)V"⟩, .selects "ScapegoatSpur$PointTree" ⟨"ScapegoatSpur$LazyTree", "rebuild", "(I)V"⟩ ⟨"ScapegoatSpur$LazyTree", "rebuild", "(I)V"⟩, .sameMethod "ScapegoatSpur$LazyTree" "ScapegoatSpur$LazyTree" "dropDead" "()V", .selects "ScapegoatSpur$KeyTree" ⟨"ScapegoatSpur$LazyTree", "dropDead", "()V"⟩ ⟨"ScapegoatSpur$LazyTree", "dropDead", "()V"⟩, .selects "ScapegoatSpur$PointTree" ⟨"ScapegoatSpur$LazyTree", "dropDead", "()V"⟩ ⟨"ScapegoatSpur$LazyTree", "dropDead", "()V"⟩, .sameMethod "ScapegoatSpur$LazyTree" "ScapegoatSpur$LazyTree" "gather" "(LScapegoatSpur$Node;Z)V", .selects "ScapegoatSpur$KeyTree" ⟨"ScapegoatSpur$LazyTree", "gather", "(LScapegoatSpur$Node;Z)V"⟩ ⟨"ScapegoatSpur$LazyTree", "gather", "(LScapegoatSpur$Node;Z)V"⟩, .selects "ScapegoatSpur$PointTree" ⟨"ScapegoatSpur$LazyTree", "gather", "(LScapegoatSpur$Node;Z)V"⟩ ⟨"ScapegoatSpur$LazyTree", "gather", "(LScapegoatSpur$Node;Z)V"⟩, .sameMethod "ScapegoatSpur$LazyTree" "ScapegoatSpur$LazyTree" "sortRow" "(III)V", .selects "ScapegoatSpur$KeyTree" ⟨"ScapegoatSpur$LazyTree", "sortRow", "(III)V"⟩ ⟨"ScapegoatSpur$LazyTree", "sortRow", "(III)V"⟩, .selects "ScapegoatSpur$PointTree" ⟨"ScapegoatSpur$LazyTree", "sortRow", "(III)V"⟩ ⟨"ScapegoatSpur$LazyTree", "sortRow", "(III)V"⟩, .sameMethod "ScapegoatSpur$LazyTree" "ScapegoatSpur$LazyTree" "sinkInRow" "(III)V", .selects "ScapegoatSpur$KeyTree" ⟨"ScapegoatSpur$LazyTree", "sinkInRow", "(III)V"⟩ ⟨"ScapegoatSpur$LazyTree", "sinkInRow", "(III)V"⟩, .selects "ScapegoatSpur$PointTree" ⟨"ScapegoatSpur$LazyTree", "sinkInRow", "(III)V"⟩ ⟨"ScapegoatSpur$LazyTree", "sinkInRow", "(III)V"⟩]
def ALL : List Cond := (x_xtra ++ lw_tbl).filter goodWord
theorem all_in {w : Cond} (h : w ∈ ALL) : w ∈ x_xtra ++ lw_tbl := (List.mem_filter.mp h).1
theorem all_good {w : Cond} (h : w ∈ ALL) : (w.onTables && w.keeps) = true ∨ ∃ ty, w = .arrayClass ty := good_of_word (List.mem_filter.mp h).2
theorem all_mem {w : Cond} (i : Nat) (h : (decide ((x_xtra ++ lw_tbl)[i]? = some w) && goodWord w) = true) : w ∈ ALL := by
  simp only [Bool.and_eq_true, decide_eq_true_eq] at h
  exact List.mem_filter.mpr ⟨List.mem_of_getElem? h.1, h.2⟩
theorem all_goodIn {ws : List Cond} (h : ∀ w ∈ ws, w ∈ ALL) : GoodIn ALL ws := fun w hw => ⟨h w hw, all_good (h w hw)⟩
theorem k_0 : (Cond.sameMethod "ScapegoatSpur$LazyTree" "ScapegoatSpur$LazyTree" "belongsLeft" "(ILScapegoatSpur$Node;I)Z") ∈ ALL := all_mem 0 (by decide +kernel)
theorem k_1 : (Cond.selects "ScapegoatSpur$KeyTree" ⟨"ScapegoatSpur$LazyTree", "belongsLeft", "(ILScapegoatSpur$Node;I)Z"⟩ ⟨"ScapegoatSpur$LazyTree", "belongsLeft", "(ILScapegoatSpur$Node;I)Z"⟩) ∈ ALL := all_mem 1 (by decide +kernel)
theorem k_2 : (Cond.selects "ScapegoatSpur$PointTree" ⟨"ScapegoatSpur$LazyTree", "belongsLeft", "(ILScapegoatSpur$Node;I)Z"⟩ ⟨"ScapegoatSpur$LazyTree", "belongsLeft", "(ILScapegoatSpur$Node;I)Z"⟩) ∈ ALL := all_mem 2 (by decide +kernel)
theorem k_3 : (Cond.sameMethod "ScapegoatSpur$LazyTree" "ScapegoatSpur$LazyTree" "addLeaf" "(I)V") ∈ ALL := all_mem 3 (by decide +kernel)
theorem k_4 : (Cond.selects "ScapegoatSpur$KeyTree" ⟨"ScapegoatSpur$LazyTree", "addLeaf", "(I)V"⟩ ⟨"ScapegoatSpur$LazyTree", "addLeaf", "(I)V"⟩) ∈ ALL := all_mem 4 (by decide +kernel)
theorem k_5 : (Cond.selects "ScapegoatSpur$PointTree" ⟨"ScapegoatSpur$LazyTree", "addLeaf", "(I)V"⟩ ⟨"ScapegoatSpur$LazyTree", "addLeaf", "(I)V"⟩) ∈ ALL := all_mem 5 (by decide +kernel)
theorem k_6 : (Cond.sameMethod "ScapegoatSpur$LazyTree" "ScapegoatSpur$LazyTree" "rebuild" "(I)V") ∈ ALL := all_mem 6 (by decide +kernel)
theorem k_7 : (Cond.selects "ScapegoatSpur$KeyTree" ⟨"ScapegoatSpur$LazyTree", "rebuild", "(I)V"⟩ ⟨"ScapegoatSpur$LazyTree", "rebuild", "(I)V"⟩) ∈ ALL := all_mem 7 (by decide +kernel)
theorem k_8 : (Cond.selects "ScapegoatSpur$PointTree" ⟨"ScapegoatSpur$LazyTree", "rebuild", "(I)V"⟩ ⟨"ScapegoatSpur$LazyTree", "rebuild", "(I)V"⟩) ∈ ALL := all_mem 8 (by decide +kernel)
theorem k_9 : (Cond.sameMethod "ScapegoatSpur$LazyTree" "ScapegoatSpur$LazyTree" "dropDead" "()V") ∈ ALL := all_mem 9 (by decide +kernel)
theorem k_10 : (Cond.selects "ScapegoatSpur$KeyTree" ⟨"ScapegoatSpur$LazyTree", "dropDead", "()V"⟩ ⟨"ScapegoatSpur$LazyTree", "dropDead", "()V"⟩) ∈ ALL := all_mem 10 (by decide +kernel)
theorem k_11 : (Cond.selects "ScapegoatSpur$PointTree" ⟨"ScapegoatSpur$LazyTree", "dropDead", "()V"⟩ ⟨"ScapegoatSpur$LazyTree", "dropDead", "()V"⟩) ∈ ALL := all_mem 11 (by decide +kernel)
theorem k_12 : (Cond.sameMethod "ScapegoatSpur$LazyTree" "ScapegoatSpur$LazyTree" "gather" "(LScapegoatSpur$Node;Z)V") ∈ ALL := all_mem 12 (by decide +kernel)
theorem k_13 : (Cond.selects "ScapegoatSpur$KeyTree" ⟨"ScapegoatSpur$LazyTree", "gather", "(LScapegoatSpur$Node;Z)V"⟩ ⟨"ScapegoatSpur$LazyTree", "gather", "(LScapegoatSpur$Node;Z)V"⟩) ∈ ALL := all_mem 13 (by decide +kernel)
theorem k_14 : (Cond.selects "ScapegoatSpur$PointTree" ⟨"ScapegoatSpur$LazyTree", "gather", "(LScapegoatSpur$Node;Z)V"⟩ ⟨"ScapegoatSpur$LazyTree", "gather", "(LScapegoatSpur$Node;Z)V"⟩) ∈ ALL := all_mem 14 (by decide +kernel)
theorem k_15 : (Cond.sameMethod "ScapegoatSpur$LazyTree" "ScapegoatSpur$LazyTree" "sortRow" "(III)V") ∈ ALL := all_mem 15 (by decide +kernel)
theorem k_16 : (Cond.selects "ScapegoatSpur$KeyTree" ⟨"ScapegoatSpur$LazyTree", "sortRow", "(III)V"⟩ ⟨"ScapegoatSpur$LazyTree", "sortRow", "(III)V"⟩) ∈ ALL := all_mem 16 (by decide +kernel)
theorem k_17 : (Cond.selects "ScapegoatSpur$PointTree" ⟨"ScapegoatSpur$LazyTree", "sortRow", "(III)V"⟩ ⟨"ScapegoatSpur$LazyTree", "sortRow", "(III)V"⟩) ∈ ALL := all_mem 17 (by decide +kernel)
theorem k_18 : (Cond.sameMethod "ScapegoatSpur$LazyTree" "ScapegoatSpur$LazyTree" "sinkInRow" "(III)V") ∈ ALL := all_mem 18 (by decide +kernel)
theorem k_19 : (Cond.selects "ScapegoatSpur$KeyTree" ⟨"ScapegoatSpur$LazyTree", "sinkInRow", "(III)V"⟩ ⟨"ScapegoatSpur$LazyTree", "sinkInRow", "(III)V"⟩) ∈ ALL := all_mem 19 (by decide +kernel)
theorem k_20 : (Cond.selects "ScapegoatSpur$PointTree" ⟨"ScapegoatSpur$LazyTree", "sinkInRow", "(III)V"⟩ ⟨"ScapegoatSpur$LazyTree", "sinkInRow", "(III)V"⟩) ∈ ALL := all_mem 20 (by decide +kernel)
theorem k_21 : (Cond.selects "ScapegoatSpur$TurningTree" ⟨"ScapegoatSpur$TurningTree", "find", "(I)LScapegoatSpur$Node;"⟩ ⟨"ScapegoatSpur$TurningTree", "find", "(I)LScapegoatSpur$Node;"⟩) ∈ ALL := all_mem 21 (by decide +kernel)
theorem k_22 : (Cond.selects "ScapegoatSpur$TurningTree" ⟨"ScapegoatSpur$TurningTree", "walkToHeir", "(LScapegoatSpur$Node;)LScapegoatSpur$Node;"⟩ ⟨"ScapegoatSpur$TurningTree", "walkToHeir", "(LScapegoatSpur$Node;)LScapegoatSpur$Node;"⟩) ∈ ALL := all_mem 22 (by decide +kernel)
theorem k_23 : (Cond.selects "ScapegoatSpur$TurningTree" ⟨"ScapegoatSpur$TurningTree", "replace", "(LScapegoatSpur$Node;LScapegoatSpur$Node;LScapegoatSpur$Node;)V"⟩ ⟨"ScapegoatSpur$TurningTree", "replace", "(LScapegoatSpur$Node;LScapegoatSpur$Node;LScapegoatSpur$Node;)V"⟩) ∈ ALL := all_mem 23 (by decide +kernel)
theorem k_24 : (Cond.selects "ScapegoatSpur$TurningTree" ⟨"ScapegoatSpur$TurningTree", "balanceUpFrom", "(I)V"⟩ ⟨"ScapegoatSpur$TurningTree", "balanceUpFrom", "(I)V"⟩) ∈ ALL := all_mem 24 (by decide +kernel)
theorem k_25 : (Cond.selects "ScapegoatSpur$TurningTree" ⟨"ScapegoatSpur$TurningTree", "balanced", "(LScapegoatSpur$Node;)LScapegoatSpur$Node;"⟩ ⟨"ScapegoatSpur$TurningTree", "balanced", "(LScapegoatSpur$Node;)LScapegoatSpur$Node;"⟩) ∈ ALL := all_mem 25 (by decide +kernel)
theorem k_26 : (Cond.selects "ScapegoatSpur$TurningTree" ⟨"ScapegoatSpur$TurningTree", "turnedRight", "(LScapegoatSpur$Node;)LScapegoatSpur$Node;"⟩ ⟨"ScapegoatSpur$TurningTree", "turnedRight", "(LScapegoatSpur$Node;)LScapegoatSpur$Node;"⟩) ∈ ALL := all_mem 26 (by decide +kernel)
theorem k_27 : (Cond.selects "ScapegoatSpur$TurningTree" ⟨"ScapegoatSpur$TurningTree", "turnedLeft", "(LScapegoatSpur$Node;)LScapegoatSpur$Node;"⟩ ⟨"ScapegoatSpur$TurningTree", "turnedLeft", "(LScapegoatSpur$Node;)LScapegoatSpur$Node;"⟩) ∈ ALL := all_mem 27 (by decide +kernel)
theorem k_28 : (Cond.selects "ScapegoatSpur$SortedParts" ⟨"ScapegoatSpur$SortedParts", "dropDead", "()V"⟩ ⟨"ScapegoatSpur$SortedParts", "dropDead", "()V"⟩) ∈ ALL := all_mem 28 (by decide +kernel)
theorem k_29 : (Cond.selects "ScapegoatSpur$SortedParts" ⟨"ScapegoatSpur$SortedParts", "dealOut", "()V"⟩ ⟨"ScapegoatSpur$SortedParts", "dealOut", "()V"⟩) ∈ ALL := all_mem 29 (by decide +kernel)
theorem k_30 : (Cond.selects "java/lang/Throwable" ⟨"java/lang/Throwable", "fillInStackTrace", "(I)Ljava/lang/Throwable;"⟩ ⟨"java/lang/Throwable", "fillInStackTrace", "(I)Ljava/lang/Throwable;"⟩) ∈ ALL := all_mem 30 (by decide +kernel)
theorem k_31 : (Cond.selects "ScapegoatSpur$SortedParts" ⟨"ScapegoatSpur$SortedParts", "insert", "(LScapegoatSpur$Entry;)V"⟩ ⟨"ScapegoatSpur$SortedParts", "insert", "(LScapegoatSpur$Entry;)V"⟩) ∈ ALL := all_mem 31 (by decide +kernel)
theorem k_32 : (Cond.selects "ScapegoatSpur$SortedParts" ⟨"ScapegoatSpur$SortedParts", "mergeEqualParts", "()V"⟩ ⟨"ScapegoatSpur$SortedParts", "mergeEqualParts", "()V"⟩) ∈ ALL := all_mem 32 (by decide +kernel)
theorem k_33 : (Cond.selects "ScapegoatSpur$SortedParts" ⟨"ScapegoatSpur$SortedParts", "sizeOf", "(I)I"⟩ ⟨"ScapegoatSpur$SortedParts", "sizeOf", "(I)I"⟩) ∈ ALL := all_mem 33 (by decide +kernel)
theorem k_34 : (Cond.selects "ScapegoatSpur$SortedParts" ⟨"ScapegoatSpur$SortedParts", "renumber", "(II)V"⟩ ⟨"ScapegoatSpur$SortedParts", "renumber", "(II)V"⟩) ∈ ALL := all_mem 34 (by decide +kernel)
theorem k_35 : (Cond.selects "ScapegoatSpurModel" ⟨"ScapegoatSpurModel", "nodeOf", "(I)I"⟩ ⟨"ScapegoatSpurModel", "nodeOf", "(I)I"⟩) ∈ ALL := all_mem 35 (by decide +kernel)
theorem k_36 : (Cond.selects "ScapegoatSpurModel" ⟨"ScapegoatSpurModel", "living", "()I"⟩ ⟨"ScapegoatSpurModel", "living", "()I"⟩) ∈ ALL := all_mem 36 (by decide +kernel)
theorem k_37 : (Cond.selects "ScapegoatSpurModel" ⟨"ScapegoatSpurModel", "can", "(I)Z"⟩ ⟨"ScapegoatSpurModel", "can", "(I)Z"⟩) ∈ ALL := all_mem 37 (by decide +kernel)
theorem k_38 : (Cond.selects "ScapegoatSpurModel" ⟨"ScapegoatSpurModel", "grows", "(I)V"⟩ ⟨"ScapegoatSpurModel", "grows", "(I)V"⟩) ∈ ALL := all_mem 38 (by decide +kernel)
theorem k_39 : (Cond.selects "ScapegoatSpurModel" ⟨"ScapegoatSpurModel", "leaf", "([II)I"⟩ ⟨"ScapegoatSpurModel", "leaf", "([II)I"⟩) ∈ ALL := all_mem 39 (by decide +kernel)
theorem k_40 : (Cond.selects "ScapegoatSpurModel" ⟨"ScapegoatSpurModel", "balancesAbove", "(I)V"⟩ ⟨"ScapegoatSpurModel", "balancesAbove", "(I)V"⟩) ∈ ALL := all_mem 40 (by decide +kernel)
theorem k_41 : (Cond.selects "ScapegoatSpurModel" ⟨"ScapegoatSpurModel", "balance", "(I)V"⟩ ⟨"ScapegoatSpurModel", "balance", "(I)V"⟩) ∈ ALL := all_mem 41 (by decide +kernel)
theorem k_42 : (Cond.selects "ScapegoatSpurModel" ⟨"ScapegoatSpurModel", "load", "(I)I"⟩ ⟨"ScapegoatSpurModel", "load", "(I)I"⟩) ∈ ALL := all_mem 42 (by decide +kernel)
theorem k_43 : (Cond.selects "ScapegoatSpurModel" ⟨"ScapegoatSpurModel", "turn", "(IZ)V"⟩ ⟨"ScapegoatSpurModel", "turn", "(IZ)V"⟩) ∈ ALL := all_mem 43 (by decide +kernel)
theorem k_44 : (Cond.selects "ScapegoatSpurModel" ⟨"ScapegoatSpurModel", "copies", "(II)V"⟩ ⟨"ScapegoatSpurModel", "copies", "(II)V"⟩) ∈ ALL := all_mem 44 (by decide +kernel)
theorem k_45 : (Cond.selects "ScapegoatSpurModel" ⟨"ScapegoatSpurModel", "growTree", "(I)V"⟩ ⟨"ScapegoatSpurModel", "growTree", "(I)V"⟩) ∈ ALL := all_mem 45 (by decide +kernel)
theorem k_46 : (Cond.selects "ScapegoatSpurModel" ⟨"ScapegoatSpurModel", "layOut", "(I)V"⟩ ⟨"ScapegoatSpurModel", "layOut", "(I)V"⟩) ∈ ALL := all_mem 46 (by decide +kernel)
theorem k_47 : (Cond.selects "ScapegoatSpurModel" ⟨"ScapegoatSpurModel", "growParts", "()V"⟩ ⟨"ScapegoatSpurModel", "growParts", "()V"⟩) ∈ ALL := all_mem 47 (by decide +kernel)
theorem k_48 : (Cond.selects "ScapegoatSpurModel" ⟨"ScapegoatSpurModel", "inPart", "(I)I"⟩ ⟨"ScapegoatSpurModel", "inPart", "(I)I"⟩) ∈ ALL := all_mem 48 (by decide +kernel)
theorem k_49 : (Cond.selects "ScapegoatSpurModel" ⟨"ScapegoatSpurModel", "leaves", "(I)V"⟩ ⟨"ScapegoatSpurModel", "leaves", "(I)V"⟩) ∈ ALL := all_mem 49 (by decide +kernel)
theorem k_50 : (Cond.selects "ScapegoatSpurModel" ⟨"ScapegoatSpurModel", "drop", "()V"⟩ ⟨"ScapegoatSpurModel", "drop", "()V"⟩) ∈ ALL := all_mem 50 (by decide +kernel)
theorem k_51 : (Cond.selects "ScapegoatSpurModel" ⟨"ScapegoatSpurModel", "isNode", "(I)Z"⟩ ⟨"ScapegoatSpurModel", "isNode", "(I)Z"⟩) ∈ ALL := all_mem 51 (by decide +kernel)
theorem k_52 : (Cond.selects "ScapegoatSpurModel" ⟨"ScapegoatSpurModel", "pointOf", "(II)I"⟩ ⟨"ScapegoatSpurModel", "pointOf", "(II)I"⟩) ∈ ALL := all_mem 52 (by decide +kernel)
theorem k_53 : (Cond.selects "ScapegoatSpurModel" ⟨"ScapegoatSpurModel", "livingPoints", "()I"⟩ ⟨"ScapegoatSpurModel", "livingPoints", "()I"⟩) ∈ ALL := all_mem 53 (by decide +kernel)
theorem k_54 : (Cond.selects "ScapegoatSpurModel" ⟨"ScapegoatSpurModel", "growPoints", "(I)V"⟩ ⟨"ScapegoatSpurModel", "growPoints", "(I)V"⟩) ∈ ALL := all_mem 54 (by decide +kernel)
theorem k_55 : (Cond.selects "ScapegoatSpurModel" ⟨"ScapegoatSpurModel", "pointWeight", "(I)I"⟩ ⟨"ScapegoatSpurModel", "pointWeight", "(I)I"⟩) ∈ ALL := all_mem 55 (by decide +kernel)
theorem k_56 : (Cond.selects "ScapegoatSpurModel" ⟨"ScapegoatSpurModel", "layOutPoints", "(I)V"⟩ ⟨"ScapegoatSpurModel", "layOutPoints", "(I)V"⟩) ∈ ALL := all_mem 56 (by decide +kernel)
theorem k_57 : (Cond.selects "ScapegoatSpurModel" ⟨"ScapegoatSpurModel", "pointsBefore", "(I)I"⟩ ⟨"ScapegoatSpurModel", "pointsBefore", "(I)I"⟩) ∈ ALL := all_mem 57 (by decide +kernel)
theorem k_58 : (Cond.selects "ScapegoatSpurModel" ⟨"ScapegoatSpurModel", "pointsWith", "(I)I"⟩ ⟨"ScapegoatSpurModel", "pointsWith", "(I)I"⟩) ∈ ALL := all_mem 58 (by decide +kernel)
theorem k_59 : (Cond.initialized "ScapegoatSpurLaw") ∈ ALL := all_mem 59 (by decide +kernel)
theorem k_60 : (Cond.initialized "ScapegoatSpur") ∈ ALL := all_mem 60 (by decide +kernel)
theorem k_61 : (Cond.initialized "ScapegoatSpur$LazyTree") ∈ ALL := all_mem 61 (by decide +kernel)
theorem k_62 : (Cond.initialized "ScapegoatSpur$KeyTree") ∈ ALL := all_mem 62 (by decide +kernel)
theorem k_63 : (Cond.initialized "ScapegoatSpur$NodeRow") ∈ ALL := all_mem 63 (by decide +kernel)
theorem k_64 : (Cond.initialized "ScapegoatSpur$TurningTree") ∈ ALL := all_mem 64 (by decide +kernel)
theorem k_65 : (Cond.initialized "ScapegoatSpur$SortedParts") ∈ ALL := all_mem 65 (by decide +kernel)
theorem k_66 : (Cond.initialized "ScapegoatSpur$PointTree") ∈ ALL := all_mem 66 (by decide +kernel)
theorem k_67 : (Cond.initialized "ScapegoatSpurModel") ∈ ALL := all_mem 67 (by decide +kernel)
theorem k_68 : (Cond.initialized "java/lang/Throwable") ∈ ALL := all_mem 68 (by decide +kernel)
theorem k_69 : (Cond.initialized "java/lang/Exception") ∈ ALL := all_mem 69 (by decide +kernel)
theorem k_70 : (Cond.initialized "java/lang/RuntimeException") ∈ ALL := all_mem 70 (by decide +kernel)
theorem k_71 : (Cond.initialized "java/lang/IllegalArgumentException") ∈ ALL := all_mem 71 (by decide +kernel)
theorem k_72 : (Cond.initialized "java/lang/IllegalStateException") ∈ ALL := all_mem 72 (by decide +kernel)
theorem k_73 : (Cond.initialized "ScapegoatSpur$Node") ∈ ALL := all_mem 73 (by decide +kernel)
theorem k_74 : (Cond.initialized "java/lang/Math") ∈ ALL := all_mem 74 (by decide +kernel)
theorem k_75 : (Cond.initialized "ScapegoatSpur$Entry") ∈ ALL := all_mem 75 (by decide +kernel)
theorem k_76 : (Cond.initialized "java/lang/IndexOutOfBoundsException") ∈ ALL := all_mem 76 (by decide +kernel)
theorem k_77 : (Cond.initialized "java/util/NoSuchElementException") ∈ ALL := all_mem 77 (by decide +kernel)
theorem k_78 : (Cond.classLink "ScapegoatSpurLaw" (8 : Nat) "ScapegoatSpur") ∈ ALL := all_mem 78 (by decide +kernel)
theorem k_79 : (Cond.instantiable "ScapegoatSpur" (4 : Nat)) ∈ ALL := all_mem 79 (by decide +kernel)
theorem k_80 : (Cond.methodLink "ScapegoatSpurLaw" (59 : Nat) ({ cls := "ScapegoatSpur", name := "<init>", desc := "()V" } : MethodName)) ∈ ALL := all_mem 80 (by decide +kernel)
theorem k_81 : (Cond.instanceMethod ({ cls := "ScapegoatSpur", name := "<init>", desc := "()V" } : MethodName)) ∈ ALL := all_mem 81 (by decide +kernel)
theorem k_82 : (Cond.code ({ cls := "ScapegoatSpur", name := "<init>", desc := "()V" } : MethodName) prog_1_method_1_code (1 : Nat) (Option.none : Option Jvm.ClassFile.FieldType)) ∈ ALL := all_mem 82 (by decide +kernel)
theorem k_83 : (Cond.methodLink "ScapegoatSpur" (1 : Nat) ({ cls := "java/lang/Object", name := "<init>", desc := "()V" } : MethodName)) ∈ ALL := all_mem 83 (by decide +kernel)
theorem k_84 : (Cond.instanceMethod ({ cls := "java/lang/Object", name := "<init>", desc := "()V" } : MethodName)) ∈ ALL := all_mem 84 (by decide +kernel)
theorem k_85 : (Cond.code ({ cls := "java/lang/Object", name := "<init>", desc := "()V" } : MethodName) object_method_1_code (1 : Nat) (Option.none : Option Jvm.ClassFile.FieldType)) ∈ ALL := all_mem 85 (by decide +kernel)
theorem k_86 : (Cond.classLink "ScapegoatSpur" (7 : Nat) "ScapegoatSpur$KeyTree") ∈ ALL := all_mem 86 (by decide +kernel)
theorem k_87 : (Cond.instantiable "ScapegoatSpur$KeyTree" (6 : Nat)) ∈ ALL := all_mem 87 (by decide +kernel)
theorem k_88 : (Cond.methodLink "ScapegoatSpur" (9 : Nat) ({ cls := "ScapegoatSpur$KeyTree", name := "<init>", desc := "()V" } : MethodName)) ∈ ALL := all_mem 88 (by decide +kernel)
theorem k_89 : (Cond.instanceMethod ({ cls := "ScapegoatSpur$KeyTree", name := "<init>", desc := "()V" } : MethodName)) ∈ ALL := all_mem 89 (by decide +kernel)
theorem k_90 : (Cond.code ({ cls := "ScapegoatSpur$KeyTree", name := "<init>", desc := "()V" } : MethodName) prog_3_method_1_code (1 : Nat) (Option.none : Option Jvm.ClassFile.FieldType)) ∈ ALL := all_mem 90 (by decide +kernel)
theorem k_91 : (Cond.methodLink "ScapegoatSpur$KeyTree" (3 : Nat) ({ cls := "ScapegoatSpur$LazyTree", name := "<init>", desc := "(I)V" } : MethodName)) ∈ ALL := all_mem 91 (by decide +kernel)
theorem k_92 : (Cond.instanceMethod ({ cls := "ScapegoatSpur$LazyTree", name := "<init>", desc := "(I)V" } : MethodName)) ∈ ALL := all_mem 92 (by decide +kernel)
theorem k_93 : (Cond.code ({ cls := "ScapegoatSpur$LazyTree", name := "<init>", desc := "(I)V" } : MethodName) prog_4_method_1_code (2 : Nat) (Option.none : Option Jvm.ClassFile.FieldType)) ∈ ALL := all_mem 93 (by decide +kernel)
theorem k_94 : (Cond.methodLink "ScapegoatSpur$LazyTree" (3 : Nat) ({ cls := "java/lang/Object", name := "<init>", desc := "()V" } : MethodName)) ∈ ALL := all_mem 94 (by decide +kernel)
theorem k_95 : (Cond.classLink "ScapegoatSpur$LazyTree" (9 : Nat) "ScapegoatSpur$NodeRow") ∈ ALL := all_mem 95 (by decide +kernel)
theorem k_96 : (Cond.instantiable "ScapegoatSpur$NodeRow" (2 : Nat)) ∈ ALL := all_mem 96 (by decide +kernel)
theorem k_97 : (Cond.methodLink "ScapegoatSpur$LazyTree" (11 : Nat) ({ cls := "ScapegoatSpur$NodeRow", name := "<init>", desc := "(I)V" } : MethodName)) ∈ ALL := all_mem 97 (by decide +kernel)
theorem k_98 : (Cond.instanceMethod ({ cls := "ScapegoatSpur$NodeRow", name := "<init>", desc := "(I)V" } : MethodName)) ∈ ALL := all_mem 98 (by decide +kernel)
theorem k_99 : (Cond.code ({ cls := "ScapegoatSpur$NodeRow", name := "<init>", desc := "(I)V" } : MethodName) prog_6_method_1_code (2 : Nat) (Option.none : Option Jvm.ClassFile.FieldType)) ∈ ALL := all_mem 99 (by decide +kernel)
theorem k_100 : (Cond.methodLink "ScapegoatSpur$NodeRow" (1 : Nat) ({ cls := "java/lang/Object", name := "<init>", desc := "()V" } : MethodName)) ∈ ALL := all_mem 100 (by decide +kernel)
theorem k_101 : (Cond.classLink "ScapegoatSpur$NodeRow" (13 : Nat) "ScapegoatSpur$Node") ∈ ALL := all_mem 101 (by decide +kernel)
theorem k_103 : (Cond.fieldLink "ScapegoatSpur$NodeRow" (15 : Nat) "ScapegoatSpur$NodeRow" "nodes" "[LScapegoatSpur$Node;") ∈ ALL := all_mem 103 (by decide +kernel)
theorem k_104 : (Cond.fieldLink "ScapegoatSpur$NodeRow" (7 : Nat) "ScapegoatSpur$NodeRow" "length" "I") ∈ ALL := all_mem 104 (by decide +kernel)
theorem k_110 : (Cond.fieldLink "ScapegoatSpur$LazyTree" (14 : Nat) "ScapegoatSpur$LazyTree" "path" "LScapegoatSpur$NodeRow;") ∈ ALL := all_mem 110 (by decide +kernel)
theorem k_111 : (Cond.fieldLink "ScapegoatSpur$LazyTree" (34 : Nat) "ScapegoatSpur$LazyTree" "row" "LScapegoatSpur$NodeRow;") ∈ ALL := all_mem 111 (by decide +kernel)
theorem k_112 : (Cond.fieldLink "ScapegoatSpur$LazyTree" (20 : Nat) "ScapegoatSpur$LazyTree" "root" "LScapegoatSpur$Node;") ∈ ALL := all_mem 112 (by decide +kernel)
theorem k_113 : (Cond.fieldLink "ScapegoatSpur$LazyTree" (24 : Nat) "ScapegoatSpur$LazyTree" "living" "I") ∈ ALL := all_mem 113 (by decide +kernel)
theorem k_114 : (Cond.fieldLink "ScapegoatSpur$LazyTree" (28 : Nat) "ScapegoatSpur$LazyTree" "rebuiltWeight" "I") ∈ ALL := all_mem 114 (by decide +kernel)
theorem k_115 : (Cond.fieldLink "ScapegoatSpur$LazyTree" (31 : Nat) "ScapegoatSpur$LazyTree" "dropCount" "I") ∈ ALL := all_mem 115 (by decide +kernel)
theorem k_129 : (Cond.classLink "ScapegoatSpur" (16 : Nat) "ScapegoatSpur$TurningTree") ∈ ALL := all_mem 129 (by decide +kernel)
theorem k_130 : (Cond.instantiable "ScapegoatSpur$TurningTree" (3 : Nat)) ∈ ALL := all_mem 130 (by decide +kernel)
theorem k_132 : (Cond.instanceMethod ({ cls := "ScapegoatSpur$TurningTree", name := "<init>", desc := "()V" } : MethodName)) ∈ ALL := all_mem 132 (by decide +kernel)
theorem k_133 : (Cond.code ({ cls := "ScapegoatSpur$TurningTree", name := "<init>", desc := "()V" } : MethodName) prog_9_method_1_code (1 : Nat) (Option.none : Option Jvm.ClassFile.FieldType)) ∈ ALL := all_mem 133 (by decide +kernel)
theorem k_134 : (Cond.methodLink "ScapegoatSpur$TurningTree" (3 : Nat) ({ cls := "java/lang/Object", name := "<init>", desc := "()V" } : MethodName)) ∈ ALL := all_mem 134 (by decide +kernel)
theorem k_135 : (Cond.classLink "ScapegoatSpur$TurningTree" (9 : Nat) "ScapegoatSpur$NodeRow") ∈ ALL := all_mem 135 (by decide +kernel)
theorem k_136 : (Cond.methodLink "ScapegoatSpur$TurningTree" (11 : Nat) ({ cls := "ScapegoatSpur$NodeRow", name := "<init>", desc := "(I)V" } : MethodName)) ∈ ALL := all_mem 136 (by decide +kernel)
theorem k_137 : (Cond.fieldLink "ScapegoatSpur$TurningTree" (14 : Nat) "ScapegoatSpur$TurningTree" "path" "LScapegoatSpur$NodeRow;") ∈ ALL := all_mem 137 (by decide +kernel)
theorem k_138 : (Cond.fieldLink "ScapegoatSpur$TurningTree" (20 : Nat) "ScapegoatSpur$TurningTree" "root" "LScapegoatSpur$Node;") ∈ ALL := all_mem 138 (by decide +kernel)
theorem k_139 : (Cond.fieldLink "ScapegoatSpur$TurningTree" (24 : Nat) "ScapegoatSpur$TurningTree" "turnCount" "I") ∈ ALL := all_mem 139 (by decide +kernel)
theorem k_147 : (Cond.classLink "ScapegoatSpur" (23 : Nat) "ScapegoatSpur$SortedParts") ∈ ALL := all_mem 147 (by decide +kernel)
theorem k_148 : (Cond.instantiable "ScapegoatSpur$SortedParts" (4 : Nat)) ∈ ALL := all_mem 148 (by decide +kernel)
theorem k_150 : (Cond.instanceMethod ({ cls := "ScapegoatSpur$SortedParts", name := "<init>", desc := "()V" } : MethodName)) ∈ ALL := all_mem 150 (by decide +kernel)
theorem k_151 : (Cond.code ({ cls := "ScapegoatSpur$SortedParts", name := "<init>", desc := "()V" } : MethodName) prog_8_method_1_code (1 : Nat) (Option.none : Option Jvm.ClassFile.FieldType)) ∈ ALL := all_mem 151 (by decide +kernel)
theorem k_152 : (Cond.methodLink "ScapegoatSpur$SortedParts" (1 : Nat) ({ cls := "java/lang/Object", name := "<init>", desc := "()V" } : MethodName)) ∈ ALL := all_mem 152 (by decide +kernel)
theorem k_153 : (Cond.fieldLink "ScapegoatSpur$SortedParts" (7 : Nat) "ScapegoatSpur$SortedParts" "first" "LScapegoatSpur$Entry;") ∈ ALL := all_mem 153 (by decide +kernel)
theorem k_154 : (Cond.fieldLink "ScapegoatSpur$SortedParts" (13 : Nat) "ScapegoatSpur$SortedParts" "entryCount" "I") ∈ ALL := all_mem 154 (by decide +kernel)
theorem k_155 : (Cond.fieldLink "ScapegoatSpur$SortedParts" (17 : Nat) "ScapegoatSpur$SortedParts" "living" "I") ∈ ALL := all_mem 155 (by decide +kernel)
theorem k_156 : (Cond.fieldLink "ScapegoatSpur$SortedParts" (20 : Nat) "ScapegoatSpur$SortedParts" "mergeCount" "I") ∈ ALL := all_mem 156 (by decide +kernel)
theorem k_166 : (Cond.classLink "ScapegoatSpur" (30 : Nat) "ScapegoatSpur$PointTree") ∈ ALL := all_mem 166 (by decide +kernel)
theorem k_167 : (Cond.instantiable "ScapegoatSpur$PointTree" (6 : Nat)) ∈ ALL := all_mem 167 (by decide +kernel)
theorem k_168 : (Cond.methodLink "ScapegoatSpur" (32 : Nat) ({ cls := "ScapegoatSpur$PointTree", name := "<init>", desc := "()V" } : MethodName)) ∈ ALL := all_mem 168 (by decide +kernel)
theorem k_169 : (Cond.instanceMethod ({ cls := "ScapegoatSpur$PointTree", name := "<init>", desc := "()V" } : MethodName)) ∈ ALL := all_mem 169 (by decide +kernel)
theorem k_170 : (Cond.code ({ cls := "ScapegoatSpur$PointTree", name := "<init>", desc := "()V" } : MethodName) prog_7_method_1_code (1 : Nat) (Option.none : Option Jvm.ClassFile.FieldType)) ∈ ALL := all_mem 170 (by decide +kernel)
theorem k_171 : (Cond.methodLink "ScapegoatSpur$PointTree" (3 : Nat) ({ cls := "ScapegoatSpur$LazyTree", name := "<init>", desc := "(I)V" } : MethodName)) ∈ ALL := all_mem 171 (by decide +kernel)
theorem k_179 : (Cond.fieldLink "ScapegoatSpur" (10 : Nat) "ScapegoatSpur" "keyTree" "LScapegoatSpur$KeyTree;") ∈ ALL := all_mem 179 (by decide +kernel)
theorem k_180 : (Cond.fieldLink "ScapegoatSpur" (19 : Nat) "ScapegoatSpur" "turningTree" "LScapegoatSpur$TurningTree;") ∈ ALL := all_mem 180 (by decide +kernel)
theorem k_181 : (Cond.fieldLink "ScapegoatSpur" (26 : Nat) "ScapegoatSpur" "sortedParts" "LScapegoatSpur$SortedParts;") ∈ ALL := all_mem 181 (by decide +kernel)
theorem k_182 : (Cond.fieldLink "ScapegoatSpur" (33 : Nat) "ScapegoatSpur" "pointTree" "LScapegoatSpur$PointTree;") ∈ ALL := all_mem 182 (by decide +kernel)
theorem k_192 : (Cond.methodLink "ScapegoatSpurLaw" (72 : Nat) ({ cls := "ScapegoatSpur", name := "remove", desc := "(I)Z" } : MethodName)) ∈ ALL := all_mem 192 (by decide +kernel)
theorem k_193 : (Cond.instanceMethod ({ cls := "ScapegoatSpur", name := "remove", desc := "(I)Z" } : MethodName)) ∈ ALL := all_mem 193 (by decide +kernel)
theorem k_194 : (Cond.selects "ScapegoatSpur" ({ cls := "ScapegoatSpur", name := "remove", desc := "(I)Z" } : MethodName) ({ cls := "ScapegoatSpur", name := "remove", desc := "(I)Z" } : MethodName)) ∈ ALL := all_mem 194 (by decide +kernel)
theorem k_195 : (Cond.code ({ cls := "ScapegoatSpur", name := "remove", desc := "(I)Z" } : MethodName) prog_1_method_3_code (2 : Nat) (Option.some Jvm.ClassFile.FieldType.boolean)) ∈ ALL := all_mem 195 (by decide +kernel)
theorem k_196 : (Cond.methodLink "ScapegoatSpur" (44 : Nat) ({ cls := "ScapegoatSpur$SortedParts", name := "holds", desc := "(I)Z" } : MethodName)) ∈ ALL := all_mem 196 (by decide +kernel)
theorem k_197 : (Cond.instanceMethod ({ cls := "ScapegoatSpur$SortedParts", name := "holds", desc := "(I)Z" } : MethodName)) ∈ ALL := all_mem 197 (by decide +kernel)
theorem k_198 : (Cond.selects "ScapegoatSpur$SortedParts" ({ cls := "ScapegoatSpur$SortedParts", name := "holds", desc := "(I)Z" } : MethodName) ({ cls := "ScapegoatSpur$SortedParts", name := "holds", desc := "(I)Z" } : MethodName)) ∈ ALL := all_mem 198 (by decide +kernel)
theorem k_199 : (Cond.code ({ cls := "ScapegoatSpur$SortedParts", name := "holds", desc := "(I)Z" } : MethodName) prog_8_method_6_code (3 : Nat) (Option.some Jvm.ClassFile.FieldType.boolean)) ∈ ALL := all_mem 199 (by decide +kernel)
theorem k_200 : (Cond.methodLink "ScapegoatSpur$SortedParts" (31 : Nat) ({ cls := "ScapegoatSpur$SortedParts", name := "find", desc := "(I)LScapegoatSpur$Entry;" } : MethodName)) ∈ ALL := all_mem 200 (by decide +kernel)
theorem k_201 : (Cond.instanceMethod ({ cls := "ScapegoatSpur$SortedParts", name := "find", desc := "(I)LScapegoatSpur$Entry;" } : MethodName)) ∈ ALL := all_mem 201 (by decide +kernel)
theorem k_202 : (Cond.selects "ScapegoatSpur$SortedParts" ({ cls := "ScapegoatSpur$SortedParts", name := "find", desc := "(I)LScapegoatSpur$Entry;" } : MethodName) ({ cls := "ScapegoatSpur$SortedParts", name := "find", desc := "(I)LScapegoatSpur$Entry;" } : MethodName)) ∈ ALL := all_mem 202 (by decide +kernel)
theorem k_203 : (Cond.code ({ cls := "ScapegoatSpur$SortedParts", name := "find", desc := "(I)LScapegoatSpur$Entry;" } : MethodName) prog_8_method_5_code (3 : Nat) (Option.some (Jvm.ClassFile.FieldType.object "ScapegoatSpur$Entry"))) ∈ ALL := all_mem 203 (by decide +kernel)
theorem k_204 : (Cond.methodLink "ScapegoatSpur" (65 : Nat) ({ cls := "ScapegoatSpur$KeyTree", name := "retire", desc := "(I)V" } : MethodName)) ∈ ALL := all_mem 204 (by decide +kernel)
theorem k_205 : (Cond.sameMethod "ScapegoatSpur$KeyTree" "ScapegoatSpur$LazyTree" "retire" "(I)V") ∈ ALL := all_mem 205 (by decide +kernel)
theorem k_207 : (Cond.selects "ScapegoatSpur$KeyTree" ({ cls := "ScapegoatSpur$KeyTree", name := "retire", desc := "(I)V" } : MethodName) ({ cls := "ScapegoatSpur$LazyTree", name := "retire", desc := "(I)V" } : MethodName)) ∈ ALL := all_mem 207 (by decide +kernel)
theorem k_208 : (Cond.instanceMethod ({ cls := "ScapegoatSpur$LazyTree", name := "retire", desc := "(I)V" } : MethodName)) ∈ ALL := all_mem 208 (by decide +kernel)
theorem k_209 : (Cond.code ({ cls := "ScapegoatSpur$LazyTree", name := "retire", desc := "(I)V" } : MethodName) prog_4_method_17_code (3 : Nat) (Option.none : Option Jvm.ClassFile.FieldType)) ∈ ALL := all_mem 209 (by decide +kernel)
theorem k_210 : (Cond.methodLink "ScapegoatSpur$LazyTree" (50 : Nat) ({ cls := "ScapegoatSpur$LazyTree", name := "find", desc := "(I)LScapegoatSpur$Node;" } : MethodName)) ∈ ALL := all_mem 210 (by decide +kernel)
theorem k_211 : (Cond.instanceMethod ({ cls := "ScapegoatSpur$LazyTree", name := "find", desc := "(I)LScapegoatSpur$Node;" } : MethodName)) ∈ ALL := all_mem 211 (by decide +kernel)
theorem k_212 : (Cond.sameMethod "ScapegoatSpur$LazyTree" "ScapegoatSpur$LazyTree" "find" "(I)LScapegoatSpur$Node;") ∈ ALL := all_mem 212 (by decide +kernel)
theorem k_213 : (Cond.selects "ScapegoatSpur$KeyTree" ({ cls := "ScapegoatSpur$LazyTree", name := "find", desc := "(I)LScapegoatSpur$Node;" } : MethodName) ({ cls := "ScapegoatSpur$LazyTree", name := "find", desc := "(I)LScapegoatSpur$Node;" } : MethodName)) ∈ ALL := all_mem 213 (by decide +kernel)
theorem k_214 : (Cond.selects "ScapegoatSpur$PointTree" ({ cls := "ScapegoatSpur$LazyTree", name := "find", desc := "(I)LScapegoatSpur$Node;" } : MethodName) ({ cls := "ScapegoatSpur$LazyTree", name := "find", desc := "(I)LScapegoatSpur$Node;" } : MethodName)) ∈ ALL := all_mem 214 (by decide +kernel)
theorem k_215 : (Cond.code ({ cls := "ScapegoatSpur$LazyTree", name := "find", desc := "(I)LScapegoatSpur$Node;" } : MethodName) prog_4_method_12_code (4 : Nat) (Option.some (Jvm.ClassFile.FieldType.object "ScapegoatSpur$Node"))) ∈ ALL := all_mem 215 (by decide +kernel)
theorem k_216 : (Cond.methodLink "ScapegoatSpur$LazyTree" (62 : Nat) ({ cls := "ScapegoatSpur$NodeRow", name := "empty", desc := "()V" } : MethodName)) ∈ ALL := all_mem 216 (by decide +kernel)
theorem k_217 : (Cond.instanceMethod ({ cls := "ScapegoatSpur$NodeRow", name := "empty", desc := "()V" } : MethodName)) ∈ ALL := all_mem 217 (by decide +kernel)
theorem k_218 : (Cond.selects "ScapegoatSpur$NodeRow" ({ cls := "ScapegoatSpur$NodeRow", name := "empty", desc := "()V" } : MethodName) ({ cls := "ScapegoatSpur$NodeRow", name := "empty", desc := "()V" } : MethodName)) ∈ ALL := all_mem 218 (by decide +kernel)
theorem k_219 : (Cond.code ({ cls := "ScapegoatSpur$NodeRow", name := "empty", desc := "()V" } : MethodName) prog_6_method_3_code (1 : Nat) (Option.none : Option Jvm.ClassFile.FieldType)) ∈ ALL := all_mem 219 (by decide +kernel)
theorem k_220 : (Cond.methodLink "ScapegoatSpur$LazyTree" (58 : Nat) ({ cls := "ScapegoatSpur$NodeRow", name := "length", desc := "()I" } : MethodName)) ∈ ALL := all_mem 220 (by decide +kernel)
theorem k_221 : (Cond.instanceMethod ({ cls := "ScapegoatSpur$NodeRow", name := "length", desc := "()I" } : MethodName)) ∈ ALL := all_mem 221 (by decide +kernel)
theorem k_222 : (Cond.selects "ScapegoatSpur$NodeRow" ({ cls := "ScapegoatSpur$NodeRow", name := "length", desc := "()I" } : MethodName) ({ cls := "ScapegoatSpur$NodeRow", name := "length", desc := "()I" } : MethodName)) ∈ ALL := all_mem 222 (by decide +kernel)
theorem k_223 : (Cond.code ({ cls := "ScapegoatSpur$NodeRow", name := "length", desc := "()I" } : MethodName) prog_6_method_2_code (1 : Nat) (Option.some Jvm.ClassFile.FieldType.int)) ∈ ALL := all_mem 223 (by decide +kernel)
theorem k_224 : (Cond.methodLink "ScapegoatSpur$LazyTree" (65 : Nat) ({ cls := "ScapegoatSpur$NodeRow", name := "append", desc := "(LScapegoatSpur$Node;)V" } : MethodName)) ∈ ALL := all_mem 224 (by decide +kernel)
theorem k_225 : (Cond.instanceMethod ({ cls := "ScapegoatSpur$NodeRow", name := "append", desc := "(LScapegoatSpur$Node;)V" } : MethodName)) ∈ ALL := all_mem 225 (by decide +kernel)
theorem k_226 : (Cond.selects "ScapegoatSpur$NodeRow" ({ cls := "ScapegoatSpur$NodeRow", name := "append", desc := "(LScapegoatSpur$Node;)V" } : MethodName) ({ cls := "ScapegoatSpur$NodeRow", name := "append", desc := "(LScapegoatSpur$Node;)V" } : MethodName)) ∈ ALL := all_mem 226 (by decide +kernel)
theorem k_227 : (Cond.code ({ cls := "ScapegoatSpur$NodeRow", name := "append", desc := "(LScapegoatSpur$Node;)V" } : MethodName) prog_6_method_4_code (2 : Nat) (Option.none : Option Jvm.ClassFile.FieldType)) ∈ ALL := all_mem 227 (by decide +kernel)
theorem k_228 : (Cond.methodLink "ScapegoatSpur$LazyTree" (72 : Nat) ({ cls := "ScapegoatSpur$LazyTree", name := "belongsLeft", desc := "(ILScapegoatSpur$Node;I)Z" } : MethodName)) ∈ ALL := all_mem 228 (by decide +kernel)
theorem k_230 : (Cond.instanceMethod ({ cls := "ScapegoatSpur$LazyTree", name := "belongsLeft", desc := "(ILScapegoatSpur$Node;I)Z" } : MethodName)) ∈ ALL := all_mem 230 (by decide +kernel)
theorem k_231 : (Cond.code ({ cls := "ScapegoatSpur$LazyTree", name := "belongsLeft", desc := "(ILScapegoatSpur$Node;I)Z" } : MethodName) prog_4_method_13_code (4 : Nat) (Option.some Jvm.ClassFile.FieldType.boolean)) ∈ ALL := all_mem 231 (by decide +kernel)
theorem k_232 : (Cond.methodLink "ScapegoatSpur$LazyTree" (82 : Nat) ({ cls := "ScapegoatSpur$LazyTree", name := "orderOf", desc := "(II)I" } : MethodName)) ∈ ALL := all_mem 232 (by decide +kernel)
theorem k_234 : (Cond.sameMethod "ScapegoatSpur$LazyTree" "ScapegoatSpur$LazyTree" "orderOf" "(II)I") ∈ ALL := all_mem 234 (by decide +kernel)
theorem k_235 : (Cond.selects "ScapegoatSpur$KeyTree" ({ cls := "ScapegoatSpur$LazyTree", name := "orderOf", desc := "(II)I" } : MethodName) ({ cls := "ScapegoatSpur$KeyTree", name := "orderOf", desc := "(II)I" } : MethodName)) ∈ ALL := all_mem 235 (by decide +kernel)
theorem k_236 : (Cond.instanceMethod ({ cls := "ScapegoatSpur$KeyTree", name := "orderOf", desc := "(II)I" } : MethodName)) ∈ ALL := all_mem 236 (by decide +kernel)
theorem k_237 : (Cond.code ({ cls := "ScapegoatSpur$KeyTree", name := "orderOf", desc := "(II)I" } : MethodName) prog_3_method_3_code (3 : Nat) (Option.some Jvm.ClassFile.FieldType.int)) ∈ ALL := all_mem 237 (by decide +kernel)
theorem k_238 : (Cond.selects "ScapegoatSpur$PointTree" ({ cls := "ScapegoatSpur$LazyTree", name := "orderOf", desc := "(II)I" } : MethodName) ({ cls := "ScapegoatSpur$PointTree", name := "orderOf", desc := "(II)I" } : MethodName)) ∈ ALL := all_mem 238 (by decide +kernel)
theorem k_239 : (Cond.instanceMethod ({ cls := "ScapegoatSpur$PointTree", name := "orderOf", desc := "(II)I" } : MethodName)) ∈ ALL := all_mem 239 (by decide +kernel)
theorem k_240 : (Cond.code ({ cls := "ScapegoatSpur$PointTree", name := "orderOf", desc := "(II)I" } : MethodName) prog_7_method_5_code (3 : Nat) (Option.some Jvm.ClassFile.FieldType.int)) ∈ ALL := all_mem 240 (by decide +kernel)
theorem k_241 : (Cond.methodLink "ScapegoatSpur$LazyTree" (111 : Nat) ({ cls := "ScapegoatSpur$LazyTree", name := "nodeCount", desc := "()I" } : MethodName)) ∈ ALL := all_mem 241 (by decide +kernel)
theorem k_242 : (Cond.instanceMethod ({ cls := "ScapegoatSpur$LazyTree", name := "nodeCount", desc := "()I" } : MethodName)) ∈ ALL := all_mem 242 (by decide +kernel)
theorem k_243 : (Cond.sameMethod "ScapegoatSpur$LazyTree" "ScapegoatSpur$LazyTree" "nodeCount" "()I") ∈ ALL := all_mem 243 (by decide +kernel)
theorem k_244 : (Cond.selects "ScapegoatSpur$KeyTree" ({ cls := "ScapegoatSpur$LazyTree", name := "nodeCount", desc := "()I" } : MethodName) ({ cls := "ScapegoatSpur$LazyTree", name := "nodeCount", desc := "()I" } : MethodName)) ∈ ALL := all_mem 244 (by decide +kernel)
theorem k_245 : (Cond.selects "ScapegoatSpur$PointTree" ({ cls := "ScapegoatSpur$LazyTree", name := "nodeCount", desc := "()I" } : MethodName) ({ cls := "ScapegoatSpur$LazyTree", name := "nodeCount", desc := "()I" } : MethodName)) ∈ ALL := all_mem 245 (by decide +kernel)
theorem k_246 : (Cond.code ({ cls := "ScapegoatSpur$LazyTree", name := "nodeCount", desc := "()I" } : MethodName) prog_4_method_5_code (1 : Nat) (Option.some Jvm.ClassFile.FieldType.int)) ∈ ALL := all_mem 246 (by decide +kernel)
theorem k_247 : (Cond.methodLink "ScapegoatSpur$LazyTree" (37 : Nat) ({ cls := "ScapegoatSpur$Node", name := "weightOf", desc := "(LScapegoatSpur$Node;)I" } : MethodName)) ∈ ALL := all_mem 247 (by decide +kernel)
theorem k_248 : (Cond.static ({ cls := "ScapegoatSpur$Node", name := "weightOf", desc := "(LScapegoatSpur$Node;)I" } : MethodName)) ∈ ALL := all_mem 248 (by decide +kernel)
theorem k_249 : (Cond.code ({ cls := "ScapegoatSpur$Node", name := "weightOf", desc := "(LScapegoatSpur$Node;)I" } : MethodName) prog_5_method_2_code (1 : Nat) (Option.some Jvm.ClassFile.FieldType.int)) ∈ ALL := all_mem 249 (by decide +kernel)
theorem k_250 : (Cond.methodLink "ScapegoatSpur$LazyTree" (114 : Nat) ({ cls := "ScapegoatSpur$LazyTree", name := "dropDead", desc := "()V" } : MethodName)) ∈ ALL := all_mem 250 (by decide +kernel)
theorem k_252 : (Cond.instanceMethod ({ cls := "ScapegoatSpur$LazyTree", name := "dropDead", desc := "()V" } : MethodName)) ∈ ALL := all_mem 252 (by decide +kernel)
theorem k_253 : (Cond.code ({ cls := "ScapegoatSpur$LazyTree", name := "dropDead", desc := "()V" } : MethodName) prog_4_method_18_code (1 : Nat) (Option.none : Option Jvm.ClassFile.FieldType)) ∈ ALL := all_mem 253 (by decide +kernel)
theorem k_254 : (Cond.methodLink "ScapegoatSpur$LazyTree" (103 : Nat) ({ cls := "ScapegoatSpur$LazyTree", name := "gather", desc := "(LScapegoatSpur$Node;Z)V" } : MethodName)) ∈ ALL := all_mem 254 (by decide +kernel)
theorem k_256 : (Cond.instanceMethod ({ cls := "ScapegoatSpur$LazyTree", name := "gather", desc := "(LScapegoatSpur$Node;Z)V" } : MethodName)) ∈ ALL := all_mem 256 (by decide +kernel)
theorem k_257 : (Cond.code ({ cls := "ScapegoatSpur$LazyTree", name := "gather", desc := "(LScapegoatSpur$Node;Z)V" } : MethodName) prog_4_method_20_code (3 : Nat) (Option.none : Option Jvm.ClassFile.FieldType)) ∈ ALL := all_mem 257 (by decide +kernel)
theorem k_258 : (Cond.methodLink "ScapegoatSpur$LazyTree" (117 : Nat) ({ cls := "ScapegoatSpur$LazyTree", name := "appendAll", desc := "(LScapegoatSpur$Node;ZLScapegoatSpur$NodeRow;I)V" } : MethodName)) ∈ ALL := all_mem 258 (by decide +kernel)
theorem k_259 : (Cond.static ({ cls := "ScapegoatSpur$LazyTree", name := "appendAll", desc := "(LScapegoatSpur$Node;ZLScapegoatSpur$NodeRow;I)V" } : MethodName)) ∈ ALL := all_mem 259 (by decide +kernel)
theorem k_260 : (Cond.code ({ cls := "ScapegoatSpur$LazyTree", name := "appendAll", desc := "(LScapegoatSpur$Node;ZLScapegoatSpur$NodeRow;I)V" } : MethodName) prog_4_method_21_code (4 : Nat) (Option.none : Option Jvm.ClassFile.FieldType)) ∈ ALL := all_mem 260 (by decide +kernel)
theorem k_261 : (Cond.methodLink "ScapegoatSpur$LazyTree" (107 : Nat) ({ cls := "ScapegoatSpur$LazyTree", name := "layOut", desc := "(LScapegoatSpur$LazyTree;III)LScapegoatSpur$Node;" } : MethodName)) ∈ ALL := all_mem 261 (by decide +kernel)
theorem k_262 : (Cond.static ({ cls := "ScapegoatSpur$LazyTree", name := "layOut", desc := "(LScapegoatSpur$LazyTree;III)LScapegoatSpur$Node;" } : MethodName)) ∈ ALL := all_mem 262 (by decide +kernel)
theorem k_263 : (Cond.code ({ cls := "ScapegoatSpur$LazyTree", name := "layOut", desc := "(LScapegoatSpur$LazyTree;III)LScapegoatSpur$Node;" } : MethodName) prog_4_method_22_code (6 : Nat) (Option.some (Jvm.ClassFile.FieldType.object "ScapegoatSpur$Node"))) ∈ ALL := all_mem 263 (by decide +kernel)
theorem k_264 : (Cond.methodLink "ScapegoatSpur$LazyTree" (121 : Nat) ({ cls := "ScapegoatSpur$LazyTree", name := "sortRow", desc := "(III)V" } : MethodName)) ∈ ALL := all_mem 264 (by decide +kernel)
theorem k_266 : (Cond.instanceMethod ({ cls := "ScapegoatSpur$LazyTree", name := "sortRow", desc := "(III)V" } : MethodName)) ∈ ALL := all_mem 266 (by decide +kernel)
theorem k_267 : (Cond.code ({ cls := "ScapegoatSpur$LazyTree", name := "sortRow", desc := "(III)V" } : MethodName) prog_4_method_23_code (5 : Nat) (Option.none : Option Jvm.ClassFile.FieldType)) ∈ ALL := all_mem 267 (by decide +kernel)
theorem k_268 : (Cond.methodLink "ScapegoatSpur$LazyTree" (125 : Nat) ({ cls := "ScapegoatSpur$LazyTree", name := "sinkInRow", desc := "(III)V" } : MethodName)) ∈ ALL := all_mem 268 (by decide +kernel)
theorem k_270 : (Cond.instanceMethod ({ cls := "ScapegoatSpur$LazyTree", name := "sinkInRow", desc := "(III)V" } : MethodName)) ∈ ALL := all_mem 270 (by decide +kernel)
theorem k_271 : (Cond.code ({ cls := "ScapegoatSpur$LazyTree", name := "sinkInRow", desc := "(III)V" } : MethodName) prog_4_method_24_code (8 : Nat) (Option.none : Option Jvm.ClassFile.FieldType)) ∈ ALL := all_mem 271 (by decide +kernel)
theorem k_272 : (Cond.methodLink "ScapegoatSpur$LazyTree" (97 : Nat) ({ cls := "ScapegoatSpur$NodeRow", name := "at", desc := "(I)LScapegoatSpur$Node;" } : MethodName)) ∈ ALL := all_mem 272 (by decide +kernel)
theorem k_273 : (Cond.instanceMethod ({ cls := "ScapegoatSpur$NodeRow", name := "at", desc := "(I)LScapegoatSpur$Node;" } : MethodName)) ∈ ALL := all_mem 273 (by decide +kernel)
theorem k_274 : (Cond.selects "ScapegoatSpur$NodeRow" ({ cls := "ScapegoatSpur$NodeRow", name := "at", desc := "(I)LScapegoatSpur$Node;" } : MethodName) ({ cls := "ScapegoatSpur$NodeRow", name := "at", desc := "(I)LScapegoatSpur$Node;" } : MethodName)) ∈ ALL := all_mem 274 (by decide +kernel)
theorem k_275 : (Cond.code ({ cls := "ScapegoatSpur$NodeRow", name := "at", desc := "(I)LScapegoatSpur$Node;" } : MethodName) prog_6_method_5_code (2 : Nat) (Option.some (Jvm.ClassFile.FieldType.object "ScapegoatSpur$Node"))) ∈ ALL := all_mem 275 (by decide +kernel)
theorem k_276 : (Cond.methodLink "ScapegoatSpur$LazyTree" (128 : Nat) ({ cls := "ScapegoatSpur$NodeRow", name := "put", desc := "(ILScapegoatSpur$Node;)V" } : MethodName)) ∈ ALL := all_mem 276 (by decide +kernel)
theorem k_277 : (Cond.instanceMethod ({ cls := "ScapegoatSpur$NodeRow", name := "put", desc := "(ILScapegoatSpur$Node;)V" } : MethodName)) ∈ ALL := all_mem 277 (by decide +kernel)
theorem k_278 : (Cond.selects "ScapegoatSpur$NodeRow" ({ cls := "ScapegoatSpur$NodeRow", name := "put", desc := "(ILScapegoatSpur$Node;)V" } : MethodName) ({ cls := "ScapegoatSpur$NodeRow", name := "put", desc := "(ILScapegoatSpur$Node;)V" } : MethodName)) ∈ ALL := all_mem 278 (by decide +kernel)
theorem k_279 : (Cond.code ({ cls := "ScapegoatSpur$NodeRow", name := "put", desc := "(ILScapegoatSpur$Node;)V" } : MethodName) prog_6_method_6_code (3 : Nat) (Option.none : Option Jvm.ClassFile.FieldType)) ∈ ALL := all_mem 279 (by decide +kernel)
theorem k_280 : (Cond.methodLink "ScapegoatSpur" (68 : Nat) ({ cls := "ScapegoatSpur$TurningTree", name := "delete", desc := "(I)V" } : MethodName)) ∈ ALL := all_mem 280 (by decide +kernel)
theorem k_281 : (Cond.instanceMethod ({ cls := "ScapegoatSpur$TurningTree", name := "delete", desc := "(I)V" } : MethodName)) ∈ ALL := all_mem 281 (by decide +kernel)
theorem k_282 : (Cond.selects "ScapegoatSpur$TurningTree" ({ cls := "ScapegoatSpur$TurningTree", name := "delete", desc := "(I)V" } : MethodName) ({ cls := "ScapegoatSpur$TurningTree", name := "delete", desc := "(I)V" } : MethodName)) ∈ ALL := all_mem 282 (by decide +kernel)
theorem k_283 : (Cond.code ({ cls := "ScapegoatSpur$TurningTree", name := "delete", desc := "(I)V" } : MethodName) prog_9_method_7_code (5 : Nat) (Option.none : Option Jvm.ClassFile.FieldType)) ∈ ALL := all_mem 283 (by decide +kernel)
theorem k_284 : (Cond.methodLink "ScapegoatSpur$TurningTree" (28 : Nat) ({ cls := "ScapegoatSpur$TurningTree", name := "find", desc := "(I)LScapegoatSpur$Node;" } : MethodName)) ∈ ALL := all_mem 284 (by decide +kernel)
theorem k_286 : (Cond.instanceMethod ({ cls := "ScapegoatSpur$TurningTree", name := "find", desc := "(I)LScapegoatSpur$Node;" } : MethodName)) ∈ ALL := all_mem 286 (by decide +kernel)
theorem k_287 : (Cond.code ({ cls := "ScapegoatSpur$TurningTree", name := "find", desc := "(I)LScapegoatSpur$Node;" } : MethodName) prog_9_method_5_code (3 : Nat) (Option.some (Jvm.ClassFile.FieldType.object "ScapegoatSpur$Node"))) ∈ ALL := all_mem 287 (by decide +kernel)
theorem k_288 : (Cond.methodLink "ScapegoatSpur$TurningTree" (36 : Nat) ({ cls := "ScapegoatSpur$NodeRow", name := "empty", desc := "()V" } : MethodName)) ∈ ALL := all_mem 288 (by decide +kernel)
theorem k_289 : (Cond.methodLink "ScapegoatSpur$TurningTree" (39 : Nat) ({ cls := "ScapegoatSpur$NodeRow", name := "append", desc := "(LScapegoatSpur$Node;)V" } : MethodName)) ∈ ALL := all_mem 289 (by decide +kernel)
theorem k_290 : (Cond.methodLink "ScapegoatSpur$TurningTree" (61 : Nat) ({ cls := "ScapegoatSpur$TurningTree", name := "walkToHeir", desc := "(LScapegoatSpur$Node;)LScapegoatSpur$Node;" } : MethodName)) ∈ ALL := all_mem 290 (by decide +kernel)
theorem k_292 : (Cond.instanceMethod ({ cls := "ScapegoatSpur$TurningTree", name := "walkToHeir", desc := "(LScapegoatSpur$Node;)LScapegoatSpur$Node;" } : MethodName)) ∈ ALL := all_mem 292 (by decide +kernel)
theorem k_293 : (Cond.code ({ cls := "ScapegoatSpur$TurningTree", name := "walkToHeir", desc := "(LScapegoatSpur$Node;)LScapegoatSpur$Node;" } : MethodName) prog_9_method_8_code (5 : Nat) (Option.some (Jvm.ClassFile.FieldType.object "ScapegoatSpur$Node"))) ∈ ALL := all_mem 293 (by decide +kernel)
theorem k_294 : (Cond.methodLink "ScapegoatSpur$TurningTree" (69 : Nat) ({ cls := "ScapegoatSpur$Node", name := "weightOf", desc := "(LScapegoatSpur$Node;)I" } : MethodName)) ∈ ALL := all_mem 294 (by decide +kernel)
theorem k_295 : (Cond.methodLink "ScapegoatSpur$TurningTree" (32 : Nat) ({ cls := "ScapegoatSpur$NodeRow", name := "length", desc := "()I" } : MethodName)) ∈ ALL := all_mem 295 (by decide +kernel)
theorem k_296 : (Cond.methodLink "ScapegoatSpur$TurningTree" (55 : Nat) ({ cls := "ScapegoatSpur$NodeRow", name := "at", desc := "(I)LScapegoatSpur$Node;" } : MethodName)) ∈ ALL := all_mem 296 (by decide +kernel)
theorem k_297 : (Cond.methodLink "ScapegoatSpur$TurningTree" (65 : Nat) ({ cls := "ScapegoatSpur$TurningTree", name := "replace", desc := "(LScapegoatSpur$Node;LScapegoatSpur$Node;LScapegoatSpur$Node;)V" } : MethodName)) ∈ ALL := all_mem 297 (by decide +kernel)
theorem k_299 : (Cond.instanceMethod ({ cls := "ScapegoatSpur$TurningTree", name := "replace", desc := "(LScapegoatSpur$Node;LScapegoatSpur$Node;LScapegoatSpur$Node;)V" } : MethodName)) ∈ ALL := all_mem 299 (by decide +kernel)
theorem k_300 : (Cond.code ({ cls := "ScapegoatSpur$TurningTree", name := "replace", desc := "(LScapegoatSpur$Node;LScapegoatSpur$Node;LScapegoatSpur$Node;)V" } : MethodName) prog_9_method_9_code (4 : Nat) (Option.none : Option Jvm.ClassFile.FieldType)) ∈ ALL := all_mem 300 (by decide +kernel)
theorem k_301 : (Cond.methodLink "ScapegoatSpur$TurningTree" (58 : Nat) ({ cls := "ScapegoatSpur$TurningTree", name := "balanceUpFrom", desc := "(I)V" } : MethodName)) ∈ ALL := all_mem 301 (by decide +kernel)
theorem k_303 : (Cond.instanceMethod ({ cls := "ScapegoatSpur$TurningTree", name := "balanceUpFrom", desc := "(I)V" } : MethodName)) ∈ ALL := all_mem 303 (by decide +kernel)
theorem k_304 : (Cond.code ({ cls := "ScapegoatSpur$TurningTree", name := "balanceUpFrom", desc := "(I)V" } : MethodName) prog_9_method_10_code (4 : Nat) (Option.none : Option Jvm.ClassFile.FieldType)) ∈ ALL := all_mem 304 (by decide +kernel)
theorem k_305 : (Cond.methodLink "ScapegoatSpur$TurningTree" (73 : Nat) ({ cls := "ScapegoatSpur$TurningTree", name := "weigh", desc := "(LScapegoatSpur$Node;)V" } : MethodName)) ∈ ALL := all_mem 305 (by decide +kernel)
theorem k_306 : (Cond.static ({ cls := "ScapegoatSpur$TurningTree", name := "weigh", desc := "(LScapegoatSpur$Node;)V" } : MethodName)) ∈ ALL := all_mem 306 (by decide +kernel)
theorem k_307 : (Cond.code ({ cls := "ScapegoatSpur$TurningTree", name := "weigh", desc := "(LScapegoatSpur$Node;)V" } : MethodName) prog_9_method_11_code (1 : Nat) (Option.none : Option Jvm.ClassFile.FieldType)) ∈ ALL := all_mem 307 (by decide +kernel)
theorem k_308 : (Cond.methodLink "ScapegoatSpur$TurningTree" (76 : Nat) ({ cls := "ScapegoatSpur$TurningTree", name := "balanced", desc := "(LScapegoatSpur$Node;)LScapegoatSpur$Node;" } : MethodName)) ∈ ALL := all_mem 308 (by decide +kernel)
theorem k_310 : (Cond.instanceMethod ({ cls := "ScapegoatSpur$TurningTree", name := "balanced", desc := "(LScapegoatSpur$Node;)LScapegoatSpur$Node;" } : MethodName)) ∈ ALL := all_mem 310 (by decide +kernel)
theorem k_311 : (Cond.code ({ cls := "ScapegoatSpur$TurningTree", name := "balanced", desc := "(LScapegoatSpur$Node;)LScapegoatSpur$Node;" } : MethodName) prog_9_method_13_code (3 : Nat) (Option.some (Jvm.ClassFile.FieldType.object "ScapegoatSpur$Node"))) ∈ ALL := all_mem 311 (by decide +kernel)
theorem k_312 : (Cond.methodLink "ScapegoatSpur$TurningTree" (82 : Nat) ({ cls := "ScapegoatSpur$TurningTree", name := "loadOf", desc := "(LScapegoatSpur$Node;)I" } : MethodName)) ∈ ALL := all_mem 312 (by decide +kernel)
theorem k_313 : (Cond.static ({ cls := "ScapegoatSpur$TurningTree", name := "loadOf", desc := "(LScapegoatSpur$Node;)I" } : MethodName)) ∈ ALL := all_mem 313 (by decide +kernel)
theorem k_314 : (Cond.code ({ cls := "ScapegoatSpur$TurningTree", name := "loadOf", desc := "(LScapegoatSpur$Node;)I" } : MethodName) prog_9_method_12_code (1 : Nat) (Option.some Jvm.ClassFile.FieldType.int)) ∈ ALL := all_mem 314 (by decide +kernel)
theorem k_315 : (Cond.methodLink "ScapegoatSpur$TurningTree" (85 : Nat) ({ cls := "ScapegoatSpur$TurningTree", name := "turnedRight", desc := "(LScapegoatSpur$Node;)LScapegoatSpur$Node;" } : MethodName)) ∈ ALL := all_mem 315 (by decide +kernel)
theorem k_317 : (Cond.instanceMethod ({ cls := "ScapegoatSpur$TurningTree", name := "turnedRight", desc := "(LScapegoatSpur$Node;)LScapegoatSpur$Node;" } : MethodName)) ∈ ALL := all_mem 317 (by decide +kernel)
theorem k_318 : (Cond.code ({ cls := "ScapegoatSpur$TurningTree", name := "turnedRight", desc := "(LScapegoatSpur$Node;)LScapegoatSpur$Node;" } : MethodName) prog_9_method_15_code (3 : Nat) (Option.some (Jvm.ClassFile.FieldType.object "ScapegoatSpur$Node"))) ∈ ALL := all_mem 318 (by decide +kernel)
theorem k_319 : (Cond.methodLink "ScapegoatSpur$TurningTree" (88 : Nat) ({ cls := "ScapegoatSpur$TurningTree", name := "turnedLeft", desc := "(LScapegoatSpur$Node;)LScapegoatSpur$Node;" } : MethodName)) ∈ ALL := all_mem 319 (by decide +kernel)
theorem k_321 : (Cond.instanceMethod ({ cls := "ScapegoatSpur$TurningTree", name := "turnedLeft", desc := "(LScapegoatSpur$Node;)LScapegoatSpur$Node;" } : MethodName)) ∈ ALL := all_mem 321 (by decide +kernel)
theorem k_322 : (Cond.code ({ cls := "ScapegoatSpur$TurningTree", name := "turnedLeft", desc := "(LScapegoatSpur$Node;)LScapegoatSpur$Node;" } : MethodName) prog_9_method_14_code (3 : Nat) (Option.some (Jvm.ClassFile.FieldType.object "ScapegoatSpur$Node"))) ∈ ALL := all_mem 322 (by decide +kernel)
theorem k_323 : (Cond.methodLink "ScapegoatSpur" (71 : Nat) ({ cls := "ScapegoatSpur$SortedParts", name := "retire", desc := "(I)V" } : MethodName)) ∈ ALL := all_mem 323 (by decide +kernel)
theorem k_324 : (Cond.instanceMethod ({ cls := "ScapegoatSpur$SortedParts", name := "retire", desc := "(I)V" } : MethodName)) ∈ ALL := all_mem 324 (by decide +kernel)
theorem k_325 : (Cond.selects "ScapegoatSpur$SortedParts" ({ cls := "ScapegoatSpur$SortedParts", name := "retire", desc := "(I)V" } : MethodName) ({ cls := "ScapegoatSpur$SortedParts", name := "retire", desc := "(I)V" } : MethodName)) ∈ ALL := all_mem 325 (by decide +kernel)
theorem k_326 : (Cond.code ({ cls := "ScapegoatSpur$SortedParts", name := "retire", desc := "(I)V" } : MethodName) prog_8_method_16_code (3 : Nat) (Option.none : Option Jvm.ClassFile.FieldType)) ∈ ALL := all_mem 326 (by decide +kernel)
theorem k_327 : (Cond.methodLink "ScapegoatSpur$SortedParts" (60 : Nat) ({ cls := "ScapegoatSpur$SortedParts", name := "dropDead", desc := "()V" } : MethodName)) ∈ ALL := all_mem 327 (by decide +kernel)
theorem k_329 : (Cond.instanceMethod ({ cls := "ScapegoatSpur$SortedParts", name := "dropDead", desc := "()V" } : MethodName)) ∈ ALL := all_mem 329 (by decide +kernel)
theorem k_330 : (Cond.code ({ cls := "ScapegoatSpur$SortedParts", name := "dropDead", desc := "()V" } : MethodName) prog_8_method_17_code (3 : Nat) (Option.none : Option Jvm.ClassFile.FieldType)) ∈ ALL := all_mem 330 (by decide +kernel)
theorem k_331 : (Cond.methodLink "ScapegoatSpur$SortedParts" (63 : Nat) ({ cls := "ScapegoatSpur$SortedParts", name := "dealOut", desc := "()V" } : MethodName)) ∈ ALL := all_mem 331 (by decide +kernel)
theorem k_333 : (Cond.instanceMethod ({ cls := "ScapegoatSpur$SortedParts", name := "dealOut", desc := "()V" } : MethodName)) ∈ ALL := all_mem 333 (by decide +kernel)
theorem k_334 : (Cond.code ({ cls := "ScapegoatSpur$SortedParts", name := "dealOut", desc := "()V" } : MethodName) prog_8_method_18_code (3 : Nat) (Option.none : Option Jvm.ClassFile.FieldType)) ∈ ALL := all_mem 334 (by decide +kernel)
theorem k_335 : (Cond.methodLink "ScapegoatSpur$SortedParts" (66 : Nat) ({ cls := "ScapegoatSpur$SortedParts", name := "deal", desc := "(LScapegoatSpur$Entry;I)LScapegoatSpur$Entry;" } : MethodName)) ∈ ALL := all_mem 335 (by decide +kernel)
theorem k_336 : (Cond.static ({ cls := "ScapegoatSpur$SortedParts", name := "deal", desc := "(LScapegoatSpur$Entry;I)LScapegoatSpur$Entry;" } : MethodName)) ∈ ALL := all_mem 336 (by decide +kernel)
theorem k_337 : (Cond.code ({ cls := "ScapegoatSpur$SortedParts", name := "deal", desc := "(LScapegoatSpur$Entry;I)LScapegoatSpur$Entry;" } : MethodName) prog_8_method_19_code (4 : Nat) (Option.some (Jvm.ClassFile.FieldType.object "ScapegoatSpur$Entry"))) ∈ ALL := all_mem 337 (by decide +kernel)
theorem k_338 : (Cond.methodLink "ScapegoatSpurLaw" (76 : Nat) ({ cls := "ScapegoatSpur", name := "contains", desc := "(I)Z" } : MethodName)) ∈ ALL := all_mem 338 (by decide +kernel)
theorem k_339 : (Cond.instanceMethod ({ cls := "ScapegoatSpur", name := "contains", desc := "(I)Z" } : MethodName)) ∈ ALL := all_mem 339 (by decide +kernel)
theorem k_340 : (Cond.selects "ScapegoatSpur" ({ cls := "ScapegoatSpur", name := "contains", desc := "(I)Z" } : MethodName) ({ cls := "ScapegoatSpur", name := "contains", desc := "(I)Z" } : MethodName)) ∈ ALL := all_mem 340 (by decide +kernel)
theorem k_341 : (Cond.code ({ cls := "ScapegoatSpur", name := "contains", desc := "(I)Z" } : MethodName) prog_1_method_4_code (2 : Nat) (Option.some Jvm.ClassFile.FieldType.boolean)) ∈ ALL := all_mem 341 (by decide +kernel)
theorem k_342 : (Cond.methodLink "ScapegoatSpurLaw" (80 : Nat) ({ cls := "ScapegoatSpur", name := "size", desc := "()I" } : MethodName)) ∈ ALL := all_mem 342 (by decide +kernel)
theorem k_343 : (Cond.instanceMethod ({ cls := "ScapegoatSpur", name := "size", desc := "()I" } : MethodName)) ∈ ALL := all_mem 343 (by decide +kernel)
theorem k_344 : (Cond.selects "ScapegoatSpur" ({ cls := "ScapegoatSpur", name := "size", desc := "()I" } : MethodName) ({ cls := "ScapegoatSpur", name := "size", desc := "()I" } : MethodName)) ∈ ALL := all_mem 344 (by decide +kernel)
theorem k_345 : (Cond.code ({ cls := "ScapegoatSpur", name := "size", desc := "()I" } : MethodName) prog_1_method_5_code (1 : Nat) (Option.some Jvm.ClassFile.FieldType.int)) ∈ ALL := all_mem 345 (by decide +kernel)
theorem k_346 : (Cond.methodLink "ScapegoatSpur" (48 : Nat) ({ cls := "ScapegoatSpur$SortedParts", name := "living", desc := "()I" } : MethodName)) ∈ ALL := all_mem 346 (by decide +kernel)
theorem k_347 : (Cond.instanceMethod ({ cls := "ScapegoatSpur$SortedParts", name := "living", desc := "()I" } : MethodName)) ∈ ALL := all_mem 347 (by decide +kernel)
theorem k_348 : (Cond.selects "ScapegoatSpur$SortedParts" ({ cls := "ScapegoatSpur$SortedParts", name := "living", desc := "()I" } : MethodName) ({ cls := "ScapegoatSpur$SortedParts", name := "living", desc := "()I" } : MethodName)) ∈ ALL := all_mem 348 (by decide +kernel)
theorem k_349 : (Cond.code ({ cls := "ScapegoatSpur$SortedParts", name := "living", desc := "()I" } : MethodName) prog_8_method_2_code (1 : Nat) (Option.some Jvm.ClassFile.FieldType.int)) ∈ ALL := all_mem 349 (by decide +kernel)
theorem k_350 : (Cond.methodLink "ScapegoatSpurLaw" (84 : Nat) ({ cls := "ScapegoatSpur", name := "rank", desc := "(I)I" } : MethodName)) ∈ ALL := all_mem 350 (by decide +kernel)
theorem k_351 : (Cond.instanceMethod ({ cls := "ScapegoatSpur", name := "rank", desc := "(I)I" } : MethodName)) ∈ ALL := all_mem 351 (by decide +kernel)
theorem k_352 : (Cond.selects "ScapegoatSpur" ({ cls := "ScapegoatSpur", name := "rank", desc := "(I)I" } : MethodName) ({ cls := "ScapegoatSpur", name := "rank", desc := "(I)I" } : MethodName)) ∈ ALL := all_mem 352 (by decide +kernel)
theorem k_353 : (Cond.code ({ cls := "ScapegoatSpur", name := "rank", desc := "(I)I" } : MethodName) prog_1_method_6_code (2 : Nat) (Option.some Jvm.ClassFile.FieldType.int)) ∈ ALL := all_mem 353 (by decide +kernel)
theorem k_354 : (Cond.methodLink "ScapegoatSpur" (72 : Nat) ({ cls := "ScapegoatSpur$SortedParts", name := "livingBelow", desc := "(I)I" } : MethodName)) ∈ ALL := all_mem 354 (by decide +kernel)
theorem k_355 : (Cond.instanceMethod ({ cls := "ScapegoatSpur$SortedParts", name := "livingBelow", desc := "(I)I" } : MethodName)) ∈ ALL := all_mem 355 (by decide +kernel)
theorem k_356 : (Cond.selects "ScapegoatSpur$SortedParts" ({ cls := "ScapegoatSpur$SortedParts", name := "livingBelow", desc := "(I)I" } : MethodName) ({ cls := "ScapegoatSpur$SortedParts", name := "livingBelow", desc := "(I)I" } : MethodName)) ∈ ALL := all_mem 356 (by decide +kernel)
theorem k_357 : (Cond.code ({ cls := "ScapegoatSpur$SortedParts", name := "livingBelow", desc := "(I)I" } : MethodName) prog_8_method_7_code (4 : Nat) (Option.some Jvm.ClassFile.FieldType.int)) ∈ ALL := all_mem 357 (by decide +kernel)
theorem k_358 : (Cond.methodLink "ScapegoatSpurLaw" (91 : Nat) ({ cls := "ScapegoatSpur", name := "nodes", desc := "()I" } : MethodName)) ∈ ALL := all_mem 358 (by decide +kernel)
theorem k_359 : (Cond.instanceMethod ({ cls := "ScapegoatSpur", name := "nodes", desc := "()I" } : MethodName)) ∈ ALL := all_mem 359 (by decide +kernel)
theorem k_360 : (Cond.selects "ScapegoatSpur" ({ cls := "ScapegoatSpur", name := "nodes", desc := "()I" } : MethodName) ({ cls := "ScapegoatSpur", name := "nodes", desc := "()I" } : MethodName)) ∈ ALL := all_mem 360 (by decide +kernel)
theorem k_361 : (Cond.code ({ cls := "ScapegoatSpur", name := "nodes", desc := "()I" } : MethodName) prog_1_method_8_code (1 : Nat) (Option.some Jvm.ClassFile.FieldType.int)) ∈ ALL := all_mem 361 (by decide +kernel)
theorem k_362 : (Cond.methodLink "ScapegoatSpur" (91 : Nat) ({ cls := "ScapegoatSpur$KeyTree", name := "nodeCount", desc := "()I" } : MethodName)) ∈ ALL := all_mem 362 (by decide +kernel)
theorem k_363 : (Cond.sameMethod "ScapegoatSpur$KeyTree" "ScapegoatSpur$LazyTree" "nodeCount" "()I") ∈ ALL := all_mem 363 (by decide +kernel)
theorem k_365 : (Cond.selects "ScapegoatSpur$KeyTree" ({ cls := "ScapegoatSpur$KeyTree", name := "nodeCount", desc := "()I" } : MethodName) ({ cls := "ScapegoatSpur$LazyTree", name := "nodeCount", desc := "()I" } : MethodName)) ∈ ALL := all_mem 365 (by decide +kernel)
theorem k_366 : (Cond.methodLink "ScapegoatSpurLaw" (95 : Nat) ({ cls := "ScapegoatSpur", name := "bound", desc := "()I" } : MethodName)) ∈ ALL := all_mem 366 (by decide +kernel)
theorem k_367 : (Cond.instanceMethod ({ cls := "ScapegoatSpur", name := "bound", desc := "()I" } : MethodName)) ∈ ALL := all_mem 367 (by decide +kernel)
theorem k_368 : (Cond.selects "ScapegoatSpur" ({ cls := "ScapegoatSpur", name := "bound", desc := "()I" } : MethodName) ({ cls := "ScapegoatSpur", name := "bound", desc := "()I" } : MethodName)) ∈ ALL := all_mem 368 (by decide +kernel)
theorem k_369 : (Cond.code ({ cls := "ScapegoatSpur", name := "bound", desc := "()I" } : MethodName) prog_1_method_9_code (1 : Nat) (Option.some Jvm.ClassFile.FieldType.int)) ∈ ALL := all_mem 369 (by decide +kernel)
theorem k_370 : (Cond.methodLink "ScapegoatSpur" (94 : Nat) ({ cls := "ScapegoatSpur$KeyTree", name := "boundFor", desc := "(I)I" } : MethodName)) ∈ ALL := all_mem 370 (by decide +kernel)
theorem k_371 : (Cond.static ({ cls := "ScapegoatSpur$KeyTree", name := "boundFor", desc := "(I)I" } : MethodName)) ∈ ALL := all_mem 371 (by decide +kernel)
theorem k_372 : (Cond.code ({ cls := "ScapegoatSpur$KeyTree", name := "boundFor", desc := "(I)I" } : MethodName) prog_3_method_2_code (6 : Nat) (Option.some Jvm.ClassFile.FieldType.int)) ∈ ALL := all_mem 372 (by decide +kernel)
theorem k_373 : (Cond.constantLong "ScapegoatSpur$KeyTree" (9 : Nat) (3 : Int64)) ∈ ALL := all_mem 373 (by decide +kernel)
theorem k_374 : (Cond.constantLong "ScapegoatSpur$KeyTree" (11 : Nat) (2 : Int64)) ∈ ALL := all_mem 374 (by decide +kernel)
theorem k_375 : (Cond.methodLink "ScapegoatSpurLaw" (99 : Nat) ({ cls := "ScapegoatSpur", name := "height", desc := "()I" } : MethodName)) ∈ ALL := all_mem 375 (by decide +kernel)
theorem k_376 : (Cond.instanceMethod ({ cls := "ScapegoatSpur", name := "height", desc := "()I" } : MethodName)) ∈ ALL := all_mem 376 (by decide +kernel)
theorem k_377 : (Cond.selects "ScapegoatSpur" ({ cls := "ScapegoatSpur", name := "height", desc := "()I" } : MethodName) ({ cls := "ScapegoatSpur", name := "height", desc := "()I" } : MethodName)) ∈ ALL := all_mem 377 (by decide +kernel)
theorem k_378 : (Cond.code ({ cls := "ScapegoatSpur", name := "height", desc := "()I" } : MethodName) prog_1_method_10_code (1 : Nat) (Option.some Jvm.ClassFile.FieldType.int)) ∈ ALL := all_mem 378 (by decide +kernel)
theorem k_379 : (Cond.methodLink "ScapegoatSpur" (97 : Nat) ({ cls := "ScapegoatSpur$KeyTree", name := "greatestDepth", desc := "()I" } : MethodName)) ∈ ALL := all_mem 379 (by decide +kernel)
theorem k_380 : (Cond.sameMethod "ScapegoatSpur$KeyTree" "ScapegoatSpur$LazyTree" "greatestDepth" "()I") ∈ ALL := all_mem 380 (by decide +kernel)
theorem k_382 : (Cond.selects "ScapegoatSpur$KeyTree" ({ cls := "ScapegoatSpur$KeyTree", name := "greatestDepth", desc := "()I" } : MethodName) ({ cls := "ScapegoatSpur$LazyTree", name := "greatestDepth", desc := "()I" } : MethodName)) ∈ ALL := all_mem 382 (by decide +kernel)
theorem k_383 : (Cond.instanceMethod ({ cls := "ScapegoatSpur$LazyTree", name := "greatestDepth", desc := "()I" } : MethodName)) ∈ ALL := all_mem 383 (by decide +kernel)
theorem k_384 : (Cond.code ({ cls := "ScapegoatSpur$LazyTree", name := "greatestDepth", desc := "()I" } : MethodName) prog_4_method_8_code (1 : Nat) (Option.some Jvm.ClassFile.FieldType.int)) ∈ ALL := all_mem 384 (by decide +kernel)
theorem k_385 : (Cond.methodLink "ScapegoatSpur$LazyTree" (43 : Nat) ({ cls := "ScapegoatSpur$LazyTree", name := "greatestDepthIn", desc := "(LScapegoatSpur$Node;I)I" } : MethodName)) ∈ ALL := all_mem 385 (by decide +kernel)
theorem k_386 : (Cond.static ({ cls := "ScapegoatSpur$LazyTree", name := "greatestDepthIn", desc := "(LScapegoatSpur$Node;I)I" } : MethodName)) ∈ ALL := all_mem 386 (by decide +kernel)
theorem k_387 : (Cond.code ({ cls := "ScapegoatSpur$LazyTree", name := "greatestDepthIn", desc := "(LScapegoatSpur$Node;I)I" } : MethodName) prog_4_method_25_code (2 : Nat) (Option.some Jvm.ClassFile.FieldType.int)) ∈ ALL := all_mem 387 (by decide +kernel)
theorem k_388 : (Cond.methodLink "ScapegoatSpur$LazyTree" (132 : Nat) ({ cls := "java/lang/Math", name := "max", desc := "(II)I" } : MethodName)) ∈ ALL := all_mem 388 (by decide +kernel)
theorem k_389 : (Cond.static ({ cls := "java/lang/Math", name := "max", desc := "(II)I" } : MethodName)) ∈ ALL := all_mem 389 (by decide +kernel)
theorem k_390 : (Cond.code ({ cls := "java/lang/Math", name := "max", desc := "(II)I" } : MethodName) prog_17_method_65_code (2 : Nat) (Option.some Jvm.ClassFile.FieldType.int)) ∈ ALL := all_mem 390 (by decide +kernel)
theorem k_391 : (Cond.methodLink "ScapegoatSpurLaw" (109 : Nat) ({ cls := "ScapegoatSpur", name := "rebuilt", desc := "()I" } : MethodName)) ∈ ALL := all_mem 391 (by decide +kernel)
theorem k_392 : (Cond.instanceMethod ({ cls := "ScapegoatSpur", name := "rebuilt", desc := "()I" } : MethodName)) ∈ ALL := all_mem 392 (by decide +kernel)
theorem k_393 : (Cond.selects "ScapegoatSpur" ({ cls := "ScapegoatSpur", name := "rebuilt", desc := "()I" } : MethodName) ({ cls := "ScapegoatSpur", name := "rebuilt", desc := "()I" } : MethodName)) ∈ ALL := all_mem 393 (by decide +kernel)
theorem k_394 : (Cond.code ({ cls := "ScapegoatSpur", name := "rebuilt", desc := "()I" } : MethodName) prog_1_method_13_code (1 : Nat) (Option.some Jvm.ClassFile.FieldType.int)) ∈ ALL := all_mem 394 (by decide +kernel)
theorem k_395 : (Cond.methodLink "ScapegoatSpur" (117 : Nat) ({ cls := "ScapegoatSpur$KeyTree", name := "rebuiltWeight", desc := "()I" } : MethodName)) ∈ ALL := all_mem 395 (by decide +kernel)
theorem k_396 : (Cond.sameMethod "ScapegoatSpur$KeyTree" "ScapegoatSpur$LazyTree" "rebuiltWeight" "()I") ∈ ALL := all_mem 396 (by decide +kernel)
theorem k_398 : (Cond.selects "ScapegoatSpur$KeyTree" ({ cls := "ScapegoatSpur$KeyTree", name := "rebuiltWeight", desc := "()I" } : MethodName) ({ cls := "ScapegoatSpur$LazyTree", name := "rebuiltWeight", desc := "()I" } : MethodName)) ∈ ALL := all_mem 398 (by decide +kernel)
theorem k_399 : (Cond.instanceMethod ({ cls := "ScapegoatSpur$LazyTree", name := "rebuiltWeight", desc := "()I" } : MethodName)) ∈ ALL := all_mem 399 (by decide +kernel)
theorem k_400 : (Cond.code ({ cls := "ScapegoatSpur$LazyTree", name := "rebuiltWeight", desc := "()I" } : MethodName) prog_4_method_6_code (1 : Nat) (Option.some Jvm.ClassFile.FieldType.int)) ∈ ALL := all_mem 400 (by decide +kernel)
theorem k_401 : (Cond.methodLink "ScapegoatSpurLaw" (113 : Nat) ({ cls := "ScapegoatSpur", name := "drops", desc := "()I" } : MethodName)) ∈ ALL := all_mem 401 (by decide +kernel)
theorem k_402 : (Cond.instanceMethod ({ cls := "ScapegoatSpur", name := "drops", desc := "()I" } : MethodName)) ∈ ALL := all_mem 402 (by decide +kernel)
theorem k_403 : (Cond.selects "ScapegoatSpur" ({ cls := "ScapegoatSpur", name := "drops", desc := "()I" } : MethodName) ({ cls := "ScapegoatSpur", name := "drops", desc := "()I" } : MethodName)) ∈ ALL := all_mem 403 (by decide +kernel)
theorem k_404 : (Cond.code ({ cls := "ScapegoatSpur", name := "drops", desc := "()I" } : MethodName) prog_1_method_14_code (1 : Nat) (Option.some Jvm.ClassFile.FieldType.int)) ∈ ALL := all_mem 404 (by decide +kernel)
theorem k_405 : (Cond.methodLink "ScapegoatSpur" (120 : Nat) ({ cls := "ScapegoatSpur$KeyTree", name := "dropCount", desc := "()I" } : MethodName)) ∈ ALL := all_mem 405 (by decide +kernel)
theorem k_406 : (Cond.sameMethod "ScapegoatSpur$KeyTree" "ScapegoatSpur$LazyTree" "dropCount" "()I") ∈ ALL := all_mem 406 (by decide +kernel)
theorem k_408 : (Cond.selects "ScapegoatSpur$KeyTree" ({ cls := "ScapegoatSpur$KeyTree", name := "dropCount", desc := "()I" } : MethodName) ({ cls := "ScapegoatSpur$LazyTree", name := "dropCount", desc := "()I" } : MethodName)) ∈ ALL := all_mem 408 (by decide +kernel)
theorem k_409 : (Cond.instanceMethod ({ cls := "ScapegoatSpur$LazyTree", name := "dropCount", desc := "()I" } : MethodName)) ∈ ALL := all_mem 409 (by decide +kernel)
theorem k_410 : (Cond.code ({ cls := "ScapegoatSpur$LazyTree", name := "dropCount", desc := "()I" } : MethodName) prog_4_method_7_code (1 : Nat) (Option.some Jvm.ClassFile.FieldType.int)) ∈ ALL := all_mem 410 (by decide +kernel)
theorem k_411 : (Cond.methodLink "ScapegoatSpurLaw" (117 : Nat) ({ cls := "ScapegoatSpur", name := "averageDepth", desc := "()F" } : MethodName)) ∈ ALL := all_mem 411 (by decide +kernel)
theorem k_412 : (Cond.instanceMethod ({ cls := "ScapegoatSpur", name := "averageDepth", desc := "()F" } : MethodName)) ∈ ALL := all_mem 412 (by decide +kernel)
theorem k_413 : (Cond.selects "ScapegoatSpur" ({ cls := "ScapegoatSpur", name := "averageDepth", desc := "()F" } : MethodName) ({ cls := "ScapegoatSpur", name := "averageDepth", desc := "()F" } : MethodName)) ∈ ALL := all_mem 413 (by decide +kernel)
theorem k_414 : (Cond.code ({ cls := "ScapegoatSpur", name := "averageDepth", desc := "()F" } : MethodName) prog_1_method_15_code (2 : Nat) (Option.some Jvm.ClassFile.FieldType.float)) ∈ ALL := all_mem 414 (by decide +kernel)
theorem k_415 : (Cond.methodLink "ScapegoatSpur" (123 : Nat) ({ cls := "ScapegoatSpur$KeyTree", name := "sumOfDepths", desc := "()I" } : MethodName)) ∈ ALL := all_mem 415 (by decide +kernel)
theorem k_416 : (Cond.sameMethod "ScapegoatSpur$KeyTree" "ScapegoatSpur$LazyTree" "sumOfDepths" "()I") ∈ ALL := all_mem 416 (by decide +kernel)
theorem k_418 : (Cond.selects "ScapegoatSpur$KeyTree" ({ cls := "ScapegoatSpur$KeyTree", name := "sumOfDepths", desc := "()I" } : MethodName) ({ cls := "ScapegoatSpur$LazyTree", name := "sumOfDepths", desc := "()I" } : MethodName)) ∈ ALL := all_mem 418 (by decide +kernel)
theorem k_419 : (Cond.instanceMethod ({ cls := "ScapegoatSpur$LazyTree", name := "sumOfDepths", desc := "()I" } : MethodName)) ∈ ALL := all_mem 419 (by decide +kernel)
theorem k_420 : (Cond.code ({ cls := "ScapegoatSpur$LazyTree", name := "sumOfDepths", desc := "()I" } : MethodName) prog_4_method_9_code (1 : Nat) (Option.some Jvm.ClassFile.FieldType.int)) ∈ ALL := all_mem 420 (by decide +kernel)
theorem k_421 : (Cond.methodLink "ScapegoatSpur$LazyTree" (47 : Nat) ({ cls := "ScapegoatSpur$LazyTree", name := "sumOfDepthsIn", desc := "(LScapegoatSpur$Node;I)I" } : MethodName)) ∈ ALL := all_mem 421 (by decide +kernel)
theorem k_422 : (Cond.static ({ cls := "ScapegoatSpur$LazyTree", name := "sumOfDepthsIn", desc := "(LScapegoatSpur$Node;I)I" } : MethodName)) ∈ ALL := all_mem 422 (by decide +kernel)
theorem k_423 : (Cond.code ({ cls := "ScapegoatSpur$LazyTree", name := "sumOfDepthsIn", desc := "(LScapegoatSpur$Node;I)I" } : MethodName) prog_4_method_26_code (2 : Nat) (Option.some Jvm.ClassFile.FieldType.int)) ∈ ALL := all_mem 423 (by decide +kernel)
theorem k_424 : (Cond.methodLink "ScapegoatSpurLaw" (129 : Nat) ({ cls := "ScapegoatSpur", name := "turns", desc := "()I" } : MethodName)) ∈ ALL := all_mem 424 (by decide +kernel)
theorem k_425 : (Cond.instanceMethod ({ cls := "ScapegoatSpur", name := "turns", desc := "()I" } : MethodName)) ∈ ALL := all_mem 425 (by decide +kernel)
theorem k_426 : (Cond.selects "ScapegoatSpur" ({ cls := "ScapegoatSpur", name := "turns", desc := "()I" } : MethodName) ({ cls := "ScapegoatSpur", name := "turns", desc := "()I" } : MethodName)) ∈ ALL := all_mem 426 (by decide +kernel)
theorem k_427 : (Cond.code ({ cls := "ScapegoatSpur", name := "turns", desc := "()I" } : MethodName) prog_1_method_18_code (1 : Nat) (Option.some Jvm.ClassFile.FieldType.int)) ∈ ALL := all_mem 427 (by decide +kernel)
theorem k_428 : (Cond.methodLink "ScapegoatSpur" (136 : Nat) ({ cls := "ScapegoatSpur$TurningTree", name := "turnCount", desc := "()I" } : MethodName)) ∈ ALL := all_mem 428 (by decide +kernel)
theorem k_429 : (Cond.instanceMethod ({ cls := "ScapegoatSpur$TurningTree", name := "turnCount", desc := "()I" } : MethodName)) ∈ ALL := all_mem 429 (by decide +kernel)
theorem k_430 : (Cond.selects "ScapegoatSpur$TurningTree" ({ cls := "ScapegoatSpur$TurningTree", name := "turnCount", desc := "()I" } : MethodName) ({ cls := "ScapegoatSpur$TurningTree", name := "turnCount", desc := "()I" } : MethodName)) ∈ ALL := all_mem 430 (by decide +kernel)
theorem k_431 : (Cond.code ({ cls := "ScapegoatSpur$TurningTree", name := "turnCount", desc := "()I" } : MethodName) prog_9_method_3_code (1 : Nat) (Option.some Jvm.ClassFile.FieldType.int)) ∈ ALL := all_mem 431 (by decide +kernel)
theorem k_432 : (Cond.methodLink "ScapegoatSpurLaw" (133 : Nat) ({ cls := "ScapegoatSpur", name := "entries", desc := "()I" } : MethodName)) ∈ ALL := all_mem 432 (by decide +kernel)
theorem k_433 : (Cond.instanceMethod ({ cls := "ScapegoatSpur", name := "entries", desc := "()I" } : MethodName)) ∈ ALL := all_mem 433 (by decide +kernel)
theorem k_434 : (Cond.selects "ScapegoatSpur" ({ cls := "ScapegoatSpur", name := "entries", desc := "()I" } : MethodName) ({ cls := "ScapegoatSpur", name := "entries", desc := "()I" } : MethodName)) ∈ ALL := all_mem 434 (by decide +kernel)
theorem k_435 : (Cond.code ({ cls := "ScapegoatSpur", name := "entries", desc := "()I" } : MethodName) prog_1_method_19_code (1 : Nat) (Option.some Jvm.ClassFile.FieldType.int)) ∈ ALL := all_mem 435 (by decide +kernel)
theorem k_436 : (Cond.methodLink "ScapegoatSpur" (139 : Nat) ({ cls := "ScapegoatSpur$SortedParts", name := "entryCount", desc := "()I" } : MethodName)) ∈ ALL := all_mem 436 (by decide +kernel)
theorem k_437 : (Cond.instanceMethod ({ cls := "ScapegoatSpur$SortedParts", name := "entryCount", desc := "()I" } : MethodName)) ∈ ALL := all_mem 437 (by decide +kernel)
theorem k_438 : (Cond.selects "ScapegoatSpur$SortedParts" ({ cls := "ScapegoatSpur$SortedParts", name := "entryCount", desc := "()I" } : MethodName) ({ cls := "ScapegoatSpur$SortedParts", name := "entryCount", desc := "()I" } : MethodName)) ∈ ALL := all_mem 438 (by decide +kernel)
theorem k_439 : (Cond.code ({ cls := "ScapegoatSpur$SortedParts", name := "entryCount", desc := "()I" } : MethodName) prog_8_method_3_code (1 : Nat) (Option.some Jvm.ClassFile.FieldType.int)) ∈ ALL := all_mem 439 (by decide +kernel)
theorem k_440 : (Cond.methodLink "ScapegoatSpurLaw" (144 : Nat) ({ cls := "ScapegoatSpur", name := "merges", desc := "()I" } : MethodName)) ∈ ALL := all_mem 440 (by decide +kernel)
theorem k_441 : (Cond.instanceMethod ({ cls := "ScapegoatSpur", name := "merges", desc := "()I" } : MethodName)) ∈ ALL := all_mem 441 (by decide +kernel)
theorem k_442 : (Cond.selects "ScapegoatSpur" ({ cls := "ScapegoatSpur", name := "merges", desc := "()I" } : MethodName) ({ cls := "ScapegoatSpur", name := "merges", desc := "()I" } : MethodName)) ∈ ALL := all_mem 442 (by decide +kernel)
theorem k_443 : (Cond.code ({ cls := "ScapegoatSpur", name := "merges", desc := "()I" } : MethodName) prog_1_method_22_code (1 : Nat) (Option.some Jvm.ClassFile.FieldType.int)) ∈ ALL := all_mem 443 (by decide +kernel)
theorem k_444 : (Cond.methodLink "ScapegoatSpur" (160 : Nat) ({ cls := "ScapegoatSpur$SortedParts", name := "mergeCount", desc := "()I" } : MethodName)) ∈ ALL := all_mem 444 (by decide +kernel)
theorem k_445 : (Cond.instanceMethod ({ cls := "ScapegoatSpur$SortedParts", name := "mergeCount", desc := "()I" } : MethodName)) ∈ ALL := all_mem 445 (by decide +kernel)
theorem k_446 : (Cond.selects "ScapegoatSpur$SortedParts" ({ cls := "ScapegoatSpur$SortedParts", name := "mergeCount", desc := "()I" } : MethodName) ({ cls := "ScapegoatSpur$SortedParts", name := "mergeCount", desc := "()I" } : MethodName)) ∈ ALL := all_mem 446 (by decide +kernel)
theorem k_447 : (Cond.code ({ cls := "ScapegoatSpur$SortedParts", name := "mergeCount", desc := "()I" } : MethodName) prog_8_method_4_code (1 : Nat) (Option.some Jvm.ClassFile.FieldType.int)) ∈ ALL := all_mem 447 (by decide +kernel)
theorem k_448 : (Cond.methodLink "ScapegoatSpurLaw" (151 : Nat) ({ cls := "ScapegoatSpur", name := "removePoint", desc := "(II)Z" } : MethodName)) ∈ ALL := all_mem 448 (by decide +kernel)
theorem k_449 : (Cond.instanceMethod ({ cls := "ScapegoatSpur", name := "removePoint", desc := "(II)Z" } : MethodName)) ∈ ALL := all_mem 449 (by decide +kernel)
theorem k_450 : (Cond.selects "ScapegoatSpur" ({ cls := "ScapegoatSpur", name := "removePoint", desc := "(II)Z" } : MethodName) ({ cls := "ScapegoatSpur", name := "removePoint", desc := "(II)Z" } : MethodName)) ∈ ALL := all_mem 450 (by decide +kernel)
theorem k_451 : (Cond.code ({ cls := "ScapegoatSpur", name := "removePoint", desc := "(II)Z" } : MethodName) prog_1_method_24_code (4 : Nat) (Option.some Jvm.ClassFile.FieldType.boolean)) ∈ ALL := all_mem 451 (by decide +kernel)
theorem k_452 : (Cond.methodLink "ScapegoatSpur" (163 : Nat) ({ cls := "ScapegoatSpur", name := "isPlace", desc := "(II)Z" } : MethodName)) ∈ ALL := all_mem 452 (by decide +kernel)
theorem k_453 : (Cond.static ({ cls := "ScapegoatSpur", name := "isPlace", desc := "(II)Z" } : MethodName)) ∈ ALL := all_mem 453 (by decide +kernel)
theorem k_454 : (Cond.code ({ cls := "ScapegoatSpur", name := "isPlace", desc := "(II)Z" } : MethodName) prog_1_method_32_code (2 : Nat) (Option.some Jvm.ClassFile.FieldType.boolean)) ∈ ALL := all_mem 454 (by decide +kernel)
theorem k_455 : (Cond.methodLink "ScapegoatSpur" (169 : Nat) ({ cls := "ScapegoatSpur$PointTree", name := "keyOf", desc := "(II)I" } : MethodName)) ∈ ALL := all_mem 455 (by decide +kernel)
theorem k_456 : (Cond.static ({ cls := "ScapegoatSpur$PointTree", name := "keyOf", desc := "(II)I" } : MethodName)) ∈ ALL := all_mem 456 (by decide +kernel)
theorem k_457 : (Cond.code ({ cls := "ScapegoatSpur$PointTree", name := "keyOf", desc := "(II)I" } : MethodName) prog_7_method_2_code (2 : Nat) (Option.some Jvm.ClassFile.FieldType.int)) ∈ ALL := all_mem 457 (by decide +kernel)
theorem k_458 : (Cond.methodLink "ScapegoatSpur" (173 : Nat) ({ cls := "ScapegoatSpur$PointTree", name := "holds", desc := "(I)Z" } : MethodName)) ∈ ALL := all_mem 458 (by decide +kernel)
theorem k_459 : (Cond.sameMethod "ScapegoatSpur$PointTree" "ScapegoatSpur$LazyTree" "holds" "(I)Z") ∈ ALL := all_mem 459 (by decide +kernel)
theorem k_461 : (Cond.selects "ScapegoatSpur$PointTree" ({ cls := "ScapegoatSpur$PointTree", name := "holds", desc := "(I)Z" } : MethodName) ({ cls := "ScapegoatSpur$LazyTree", name := "holds", desc := "(I)Z" } : MethodName)) ∈ ALL := all_mem 461 (by decide +kernel)
theorem k_462 : (Cond.instanceMethod ({ cls := "ScapegoatSpur$LazyTree", name := "holds", desc := "(I)Z" } : MethodName)) ∈ ALL := all_mem 462 (by decide +kernel)
theorem k_463 : (Cond.code ({ cls := "ScapegoatSpur$LazyTree", name := "holds", desc := "(I)Z" } : MethodName) prog_4_method_10_code (3 : Nat) (Option.some Jvm.ClassFile.FieldType.boolean)) ∈ ALL := all_mem 463 (by decide +kernel)
theorem k_464 : (Cond.methodLink "ScapegoatSpur" (178 : Nat) ({ cls := "ScapegoatSpur$PointTree", name := "retire", desc := "(I)V" } : MethodName)) ∈ ALL := all_mem 464 (by decide +kernel)
theorem k_465 : (Cond.sameMethod "ScapegoatSpur$PointTree" "ScapegoatSpur$LazyTree" "retire" "(I)V") ∈ ALL := all_mem 465 (by decide +kernel)
theorem k_466 : (Cond.selects "ScapegoatSpur$PointTree" ({ cls := "ScapegoatSpur$PointTree", name := "retire", desc := "(I)V" } : MethodName) ({ cls := "ScapegoatSpur$LazyTree", name := "retire", desc := "(I)V" } : MethodName)) ∈ ALL := all_mem 466 (by decide +kernel)
theorem k_467 : (Cond.methodLink "ScapegoatSpurLaw" (155 : Nat) ({ cls := "ScapegoatSpur", name := "points", desc := "()I" } : MethodName)) ∈ ALL := all_mem 467 (by decide +kernel)
theorem k_468 : (Cond.instanceMethod ({ cls := "ScapegoatSpur", name := "points", desc := "()I" } : MethodName)) ∈ ALL := all_mem 468 (by decide +kernel)
theorem k_469 : (Cond.selects "ScapegoatSpur" ({ cls := "ScapegoatSpur", name := "points", desc := "()I" } : MethodName) ({ cls := "ScapegoatSpur", name := "points", desc := "()I" } : MethodName)) ∈ ALL := all_mem 469 (by decide +kernel)
theorem k_470 : (Cond.code ({ cls := "ScapegoatSpur", name := "points", desc := "()I" } : MethodName) prog_1_method_25_code (1 : Nat) (Option.some Jvm.ClassFile.FieldType.int)) ∈ ALL := all_mem 470 (by decide +kernel)
theorem k_471 : (Cond.methodLink "ScapegoatSpur" (174 : Nat) ({ cls := "ScapegoatSpur$PointTree", name := "living", desc := "()I" } : MethodName)) ∈ ALL := all_mem 471 (by decide +kernel)
theorem k_472 : (Cond.sameMethod "ScapegoatSpur$PointTree" "ScapegoatSpur$LazyTree" "living" "()I") ∈ ALL := all_mem 472 (by decide +kernel)
theorem k_474 : (Cond.selects "ScapegoatSpur$PointTree" ({ cls := "ScapegoatSpur$PointTree", name := "living", desc := "()I" } : MethodName) ({ cls := "ScapegoatSpur$LazyTree", name := "living", desc := "()I" } : MethodName)) ∈ ALL := all_mem 474 (by decide +kernel)
theorem k_475 : (Cond.instanceMethod ({ cls := "ScapegoatSpur$LazyTree", name := "living", desc := "()I" } : MethodName)) ∈ ALL := all_mem 475 (by decide +kernel)
theorem k_476 : (Cond.code ({ cls := "ScapegoatSpur$LazyTree", name := "living", desc := "()I" } : MethodName) prog_4_method_4_code (1 : Nat) (Option.some Jvm.ClassFile.FieldType.int)) ∈ ALL := all_mem 476 (by decide +kernel)
theorem k_477 : (Cond.methodLink "ScapegoatSpurLaw" (159 : Nat) ({ cls := "ScapegoatSpur", name := "pointNodes", desc := "()I" } : MethodName)) ∈ ALL := all_mem 477 (by decide +kernel)
theorem k_478 : (Cond.instanceMethod ({ cls := "ScapegoatSpur", name := "pointNodes", desc := "()I" } : MethodName)) ∈ ALL := all_mem 478 (by decide +kernel)
theorem k_479 : (Cond.selects "ScapegoatSpur" ({ cls := "ScapegoatSpur", name := "pointNodes", desc := "()I" } : MethodName) ({ cls := "ScapegoatSpur", name := "pointNodes", desc := "()I" } : MethodName)) ∈ ALL := all_mem 479 (by decide +kernel)
theorem k_480 : (Cond.code ({ cls := "ScapegoatSpur", name := "pointNodes", desc := "()I" } : MethodName) prog_1_method_26_code (1 : Nat) (Option.some Jvm.ClassFile.FieldType.int)) ∈ ALL := all_mem 480 (by decide +kernel)
theorem k_481 : (Cond.methodLink "ScapegoatSpur" (179 : Nat) ({ cls := "ScapegoatSpur$PointTree", name := "nodeCount", desc := "()I" } : MethodName)) ∈ ALL := all_mem 481 (by decide +kernel)
theorem k_482 : (Cond.sameMethod "ScapegoatSpur$PointTree" "ScapegoatSpur$LazyTree" "nodeCount" "()I") ∈ ALL := all_mem 482 (by decide +kernel)
theorem k_483 : (Cond.selects "ScapegoatSpur$PointTree" ({ cls := "ScapegoatSpur$PointTree", name := "nodeCount", desc := "()I" } : MethodName) ({ cls := "ScapegoatSpur$LazyTree", name := "nodeCount", desc := "()I" } : MethodName)) ∈ ALL := all_mem 483 (by decide +kernel)
theorem k_484 : (Cond.methodLink "ScapegoatSpurLaw" (166 : Nat) ({ cls := "ScapegoatSpur", name := "pointHeight", desc := "()I" } : MethodName)) ∈ ALL := all_mem 484 (by decide +kernel)
theorem k_485 : (Cond.instanceMethod ({ cls := "ScapegoatSpur", name := "pointHeight", desc := "()I" } : MethodName)) ∈ ALL := all_mem 485 (by decide +kernel)
theorem k_486 : (Cond.selects "ScapegoatSpur" ({ cls := "ScapegoatSpur", name := "pointHeight", desc := "()I" } : MethodName) ({ cls := "ScapegoatSpur", name := "pointHeight", desc := "()I" } : MethodName)) ∈ ALL := all_mem 486 (by decide +kernel)
theorem k_487 : (Cond.code ({ cls := "ScapegoatSpur", name := "pointHeight", desc := "()I" } : MethodName) prog_1_method_28_code (1 : Nat) (Option.some Jvm.ClassFile.FieldType.int)) ∈ ALL := all_mem 487 (by decide +kernel)
theorem k_488 : (Cond.methodLink "ScapegoatSpur" (183 : Nat) ({ cls := "ScapegoatSpur$PointTree", name := "greatestDepth", desc := "()I" } : MethodName)) ∈ ALL := all_mem 488 (by decide +kernel)
theorem k_489 : (Cond.sameMethod "ScapegoatSpur$PointTree" "ScapegoatSpur$LazyTree" "greatestDepth" "()I") ∈ ALL := all_mem 489 (by decide +kernel)
theorem k_490 : (Cond.selects "ScapegoatSpur$PointTree" ({ cls := "ScapegoatSpur$PointTree", name := "greatestDepth", desc := "()I" } : MethodName) ({ cls := "ScapegoatSpur$LazyTree", name := "greatestDepth", desc := "()I" } : MethodName)) ∈ ALL := all_mem 490 (by decide +kernel)
theorem k_491 : (Cond.methodLink "ScapegoatSpurLaw" (177 : Nat) ({ cls := "ScapegoatSpur", name := "pointsRebuilt", desc := "()I" } : MethodName)) ∈ ALL := all_mem 491 (by decide +kernel)
theorem k_492 : (Cond.instanceMethod ({ cls := "ScapegoatSpur", name := "pointsRebuilt", desc := "()I" } : MethodName)) ∈ ALL := all_mem 492 (by decide +kernel)
theorem k_493 : (Cond.selects "ScapegoatSpur" ({ cls := "ScapegoatSpur", name := "pointsRebuilt", desc := "()I" } : MethodName) ({ cls := "ScapegoatSpur", name := "pointsRebuilt", desc := "()I" } : MethodName)) ∈ ALL := all_mem 493 (by decide +kernel)
theorem k_494 : (Cond.code ({ cls := "ScapegoatSpur", name := "pointsRebuilt", desc := "()I" } : MethodName) prog_1_method_31_code (1 : Nat) (Option.some Jvm.ClassFile.FieldType.int)) ∈ ALL := all_mem 494 (by decide +kernel)
theorem k_495 : (Cond.methodLink "ScapegoatSpur" (195 : Nat) ({ cls := "ScapegoatSpur$PointTree", name := "rebuiltWeight", desc := "()I" } : MethodName)) ∈ ALL := all_mem 495 (by decide +kernel)
theorem k_496 : (Cond.sameMethod "ScapegoatSpur$PointTree" "ScapegoatSpur$LazyTree" "rebuiltWeight" "()I") ∈ ALL := all_mem 496 (by decide +kernel)
theorem k_497 : (Cond.selects "ScapegoatSpur$PointTree" ({ cls := "ScapegoatSpur$PointTree", name := "rebuiltWeight", desc := "()I" } : MethodName) ({ cls := "ScapegoatSpur$LazyTree", name := "rebuiltWeight", desc := "()I" } : MethodName)) ∈ ALL := all_mem 497 (by decide +kernel)
theorem k_498 : (Cond.methodLink "ScapegoatSpurLaw" (63 : Nat) ({ cls := "ScapegoatSpurLaw", name := "add", desc := "(LScapegoatSpur;I[J)I" } : MethodName)) ∈ ALL := all_mem 498 (by decide +kernel)
theorem k_499 : (Cond.static ({ cls := "ScapegoatSpurLaw", name := "add", desc := "(LScapegoatSpur;I[J)I" } : MethodName)) ∈ ALL := all_mem 499 (by decide +kernel)
theorem k_501 : (Cond.classLink "ScapegoatSpurLaw" (13 : Nat) "java/lang/IllegalArgumentException") ∈ ALL := all_mem 501 (by decide +kernel)
theorem k_502 : (Cond.classLink "ScapegoatSpurLaw" (15 : Nat) "java/lang/IllegalStateException") ∈ ALL := all_mem 502 (by decide +kernel)
theorem k_503 : (Cond.methodLink "ScapegoatSpurLaw" (7 : Nat) ({ cls := "ScapegoatSpur", name := "add", desc := "(I)Z" } : MethodName)) ∈ ALL := all_mem 503 (by decide +kernel)
theorem k_504 : (Cond.instanceMethod ({ cls := "ScapegoatSpur", name := "add", desc := "(I)Z" } : MethodName)) ∈ ALL := all_mem 504 (by decide +kernel)
theorem k_505 : (Cond.selects "ScapegoatSpur" ({ cls := "ScapegoatSpur", name := "add", desc := "(I)Z" } : MethodName) ({ cls := "ScapegoatSpur", name := "add", desc := "(I)Z" } : MethodName)) ∈ ALL := all_mem 505 (by decide +kernel)
theorem k_506 : (Cond.code ({ cls := "ScapegoatSpur", name := "add", desc := "(I)Z" } : MethodName) prog_1_method_2_code (2 : Nat) (Option.some Jvm.ClassFile.FieldType.boolean)) ∈ ALL := all_mem 506 (by decide +kernel)
theorem k_507 : (Cond.classLink "ScapegoatSpur" (37 : Nat) "java/lang/IllegalArgumentException") ∈ ALL := all_mem 507 (by decide +kernel)
theorem k_508 : (Cond.instantiable "java/lang/IllegalArgumentException" (6 : Nat)) ∈ ALL := all_mem 508 (by decide +kernel)
theorem k_516 : (Cond.selects "java/lang/IllegalArgumentException" ({ cls := "java/lang/Throwable", name := "fillInStackTrace", desc := "(I)Ljava/lang/Throwable;" } : MethodName) ({ cls := "java/lang/Throwable", name := "fillInStackTrace", desc := "(I)Ljava/lang/Throwable;" } : MethodName)) ∈ ALL := all_mem 516 (by decide +kernel)
theorem k_517 : (Cond.selects "java/lang/IllegalArgumentException" ({ cls := "java/lang/Throwable", name := "fillInStackTrace", desc := "()Ljava/lang/Throwable;" } : MethodName) ({ cls := "java/lang/Throwable", name := "fillInStackTrace", desc := "()Ljava/lang/Throwable;" } : MethodName)) ∈ ALL := all_mem 517 (by decide +kernel)
theorem k_528 : (Cond.fieldLink "java/lang/Throwable" (198 : Nat) "java/lang/Throwable" "backtrace" "Ljava/lang/Object;") ∈ ALL := all_mem 528 (by decide +kernel)
theorem k_530 : (Cond.instanceMethod ({ cls := "java/lang/Throwable", name := "<init>", desc := "()V" } : MethodName)) ∈ ALL := all_mem 530 (by decide +kernel)
theorem k_531 : (Cond.code ({ cls := "java/lang/Throwable", name := "<init>", desc := "()V" } : MethodName) prog_20_method_1_code (1 : Nat) (Option.none : Option Jvm.ClassFile.FieldType)) ∈ ALL := all_mem 531 (by decide +kernel)
theorem k_532 : (Cond.methodLink "java/lang/Throwable" (1 : Nat) ({ cls := "java/lang/Object", name := "<init>", desc := "()V" } : MethodName)) ∈ ALL := all_mem 532 (by decide +kernel)
theorem k_533 : (Cond.fieldLink "java/lang/Throwable" (13 : Nat) "java/lang/Throwable" "UNASSIGNED_STACK" "[Ljava/lang/StackTraceElement;") ∈ ALL := all_mem 533 (by decide +kernel)
theorem k_535 : (Cond.fieldLink "java/lang/Throwable" (20 : Nat) "java/lang/Throwable" "SUPPRESSED_SENTINEL" "Ljava/util/List;") ∈ ALL := all_mem 535 (by decide +kernel)
theorem k_537 : (Cond.methodLink "java/lang/Throwable" (27 : Nat) ({ cls := "java/lang/Throwable", name := "fillInStackTrace", desc := "()Ljava/lang/Throwable;" } : MethodName)) ∈ ALL := all_mem 537 (by decide +kernel)
theorem k_538 : (Cond.instanceMethod ({ cls := "java/lang/Throwable", name := "fillInStackTrace", desc := "()Ljava/lang/Throwable;" } : MethodName)) ∈ ALL := all_mem 538 (by decide +kernel)
theorem k_539 : (Cond.sameMethod "java/lang/Throwable" "java/lang/Throwable" "fillInStackTrace" "()Ljava/lang/Throwable;") ∈ ALL := all_mem 539 (by decide +kernel)
theorem k_540 : (Cond.selects "java/lang/IllegalStateException" ({ cls := "java/lang/Throwable", name := "fillInStackTrace", desc := "()Ljava/lang/Throwable;" } : MethodName) ({ cls := "java/lang/Throwable", name := "fillInStackTrace", desc := "()Ljava/lang/Throwable;" } : MethodName)) ∈ ALL := all_mem 540 (by decide +kernel)
theorem k_541 : (Cond.selects "java/lang/IndexOutOfBoundsException" ({ cls := "java/lang/Throwable", name := "fillInStackTrace", desc := "()Ljava/lang/Throwable;" } : MethodName) ({ cls := "java/lang/Throwable", name := "fillInStackTrace", desc := "()Ljava/lang/Throwable;" } : MethodName)) ∈ ALL := all_mem 541 (by decide +kernel)
theorem k_542 : (Cond.selects "java/util/NoSuchElementException" ({ cls := "java/lang/Throwable", name := "fillInStackTrace", desc := "()Ljava/lang/Throwable;" } : MethodName) ({ cls := "java/lang/Throwable", name := "fillInStackTrace", desc := "()Ljava/lang/Throwable;" } : MethodName)) ∈ ALL := all_mem 542 (by decide +kernel)
theorem k_544 : (Cond.methodLink "java/lang/Throwable" (202 : Nat) ({ cls := "java/lang/Throwable", name := "fillInStackTrace", desc := "(I)Ljava/lang/Throwable;" } : MethodName)) ∈ ALL := all_mem 544 (by decide +kernel)
theorem k_546 : (Cond.instanceMethod ({ cls := "java/lang/Throwable", name := "fillInStackTrace", desc := "(I)Ljava/lang/Throwable;" } : MethodName)) ∈ ALL := all_mem 546 (by decide +kernel)
theorem k_547 : (Cond.instantiable "java/lang/Throwable" (6 : Nat)) ∈ ALL := all_mem 547 (by decide +kernel)
theorem k_550 : (Cond.methodLink "ScapegoatSpur" (41 : Nat) ({ cls := "java/lang/IllegalArgumentException", name := "<init>", desc := "(Ljava/lang/String;)V" } : MethodName)) ∈ ALL := all_mem 550 (by decide +kernel)
theorem k_551 : (Cond.instanceMethod ({ cls := "java/lang/IllegalArgumentException", name := "<init>", desc := "(Ljava/lang/String;)V" } : MethodName)) ∈ ALL := all_mem 551 (by decide +kernel)
theorem k_552 : (Cond.code ({ cls := "java/lang/IllegalArgumentException", name := "<init>", desc := "(Ljava/lang/String;)V" } : MethodName) prog_14_method_2_code (2 : Nat) (Option.none : Option Jvm.ClassFile.FieldType)) ∈ ALL := all_mem 552 (by decide +kernel)
theorem k_553 : (Cond.methodLink "java/lang/IllegalArgumentException" (7 : Nat) ({ cls := "java/lang/RuntimeException", name := "<init>", desc := "(Ljava/lang/String;)V" } : MethodName)) ∈ ALL := all_mem 553 (by decide +kernel)
theorem k_554 : (Cond.instanceMethod ({ cls := "java/lang/RuntimeException", name := "<init>", desc := "(Ljava/lang/String;)V" } : MethodName)) ∈ ALL := all_mem 554 (by decide +kernel)
theorem k_555 : (Cond.code ({ cls := "java/lang/RuntimeException", name := "<init>", desc := "(Ljava/lang/String;)V" } : MethodName) prog_18_method_2_code (2 : Nat) (Option.none : Option Jvm.ClassFile.FieldType)) ∈ ALL := all_mem 555 (by decide +kernel)
theorem k_556 : (Cond.methodLink "java/lang/RuntimeException" (7 : Nat) ({ cls := "java/lang/Exception", name := "<init>", desc := "(Ljava/lang/String;)V" } : MethodName)) ∈ ALL := all_mem 556 (by decide +kernel)
theorem k_557 : (Cond.instanceMethod ({ cls := "java/lang/Exception", name := "<init>", desc := "(Ljava/lang/String;)V" } : MethodName)) ∈ ALL := all_mem 557 (by decide +kernel)
theorem k_558 : (Cond.code ({ cls := "java/lang/Exception", name := "<init>", desc := "(Ljava/lang/String;)V" } : MethodName) prog_13_method_2_code (2 : Nat) (Option.none : Option Jvm.ClassFile.FieldType)) ∈ ALL := all_mem 558 (by decide +kernel)
theorem k_559 : (Cond.methodLink "java/lang/Exception" (7 : Nat) ({ cls := "java/lang/Throwable", name := "<init>", desc := "(Ljava/lang/String;)V" } : MethodName)) ∈ ALL := all_mem 559 (by decide +kernel)
theorem k_560 : (Cond.instanceMethod ({ cls := "java/lang/Throwable", name := "<init>", desc := "(Ljava/lang/String;)V" } : MethodName)) ∈ ALL := all_mem 560 (by decide +kernel)
theorem k_561 : (Cond.code ({ cls := "java/lang/Throwable", name := "<init>", desc := "(Ljava/lang/String;)V" } : MethodName) prog_20_method_2_code (2 : Nat) (Option.none : Option Jvm.ClassFile.FieldType)) ∈ ALL := all_mem 561 (by decide +kernel)
theorem k_563 : (Cond.fieldLink "java/lang/Throwable" (31 : Nat) "java/lang/Throwable" "detailMessage" "Ljava/lang/String;") ∈ ALL := all_mem 563 (by decide +kernel)
theorem k_564 : (Cond.fieldLink "java/lang/Throwable" (7 : Nat) "java/lang/Throwable" "cause" "Ljava/lang/Throwable;") ∈ ALL := all_mem 564 (by decide +kernel)
theorem k_565 : (Cond.fieldLink "java/lang/Throwable" (17 : Nat) "java/lang/Throwable" "stackTrace" "[Ljava/lang/StackTraceElement;") ∈ ALL := all_mem 565 (by decide +kernel)
theorem k_566 : (Cond.fieldLink "java/lang/Throwable" (24 : Nat) "java/lang/Throwable" "suppressedExceptions" "Ljava/util/List;") ∈ ALL := all_mem 566 (by decide +kernel)
theorem k_575 : (Cond.arrayClass Jvm.ClassFile.FieldType.byte) ∈ ALL := all_mem 575 (by decide +kernel)
theorem k_576 : (Cond.classLink "ScapegoatSpur" (52 : Nat) "java/lang/IllegalStateException") ∈ ALL := all_mem 576 (by decide +kernel)
theorem k_577 : (Cond.instantiable "java/lang/IllegalStateException" (6 : Nat)) ∈ ALL := all_mem 577 (by decide +kernel)
theorem k_579 : (Cond.selects "java/lang/IllegalStateException" ({ cls := "java/lang/Throwable", name := "fillInStackTrace", desc := "(I)Ljava/lang/Throwable;" } : MethodName) ({ cls := "java/lang/Throwable", name := "fillInStackTrace", desc := "(I)Ljava/lang/Throwable;" } : MethodName)) ∈ ALL := all_mem 579 (by decide +kernel)
theorem k_586 : (Cond.methodLink "ScapegoatSpur" (56 : Nat) ({ cls := "java/lang/IllegalStateException", name := "<init>", desc := "(Ljava/lang/String;)V" } : MethodName)) ∈ ALL := all_mem 586 (by decide +kernel)
theorem k_587 : (Cond.instanceMethod ({ cls := "java/lang/IllegalStateException", name := "<init>", desc := "(Ljava/lang/String;)V" } : MethodName)) ∈ ALL := all_mem 587 (by decide +kernel)
theorem k_588 : (Cond.code ({ cls := "java/lang/IllegalStateException", name := "<init>", desc := "(Ljava/lang/String;)V" } : MethodName) prog_15_method_2_code (2 : Nat) (Option.none : Option Jvm.ClassFile.FieldType)) ∈ ALL := all_mem 588 (by decide +kernel)
theorem k_589 : (Cond.methodLink "java/lang/IllegalStateException" (7 : Nat) ({ cls := "java/lang/RuntimeException", name := "<init>", desc := "(Ljava/lang/String;)V" } : MethodName)) ∈ ALL := all_mem 589 (by decide +kernel)
theorem k_592 : (Cond.methodLink "ScapegoatSpur" (57 : Nat) ({ cls := "ScapegoatSpur$KeyTree", name := "enter", desc := "(I)V" } : MethodName)) ∈ ALL := all_mem 592 (by decide +kernel)
theorem k_593 : (Cond.sameMethod "ScapegoatSpur$KeyTree" "ScapegoatSpur$LazyTree" "enter" "(I)V") ∈ ALL := all_mem 593 (by decide +kernel)
theorem k_595 : (Cond.selects "ScapegoatSpur$KeyTree" ({ cls := "ScapegoatSpur$KeyTree", name := "enter", desc := "(I)V" } : MethodName) ({ cls := "ScapegoatSpur$LazyTree", name := "enter", desc := "(I)V" } : MethodName)) ∈ ALL := all_mem 595 (by decide +kernel)
theorem k_596 : (Cond.instanceMethod ({ cls := "ScapegoatSpur$LazyTree", name := "enter", desc := "(I)V" } : MethodName)) ∈ ALL := all_mem 596 (by decide +kernel)
theorem k_597 : (Cond.code ({ cls := "ScapegoatSpur$LazyTree", name := "enter", desc := "(I)V" } : MethodName) prog_4_method_14_code (4 : Nat) (Option.none : Option Jvm.ClassFile.FieldType)) ∈ ALL := all_mem 597 (by decide +kernel)
theorem k_598 : (Cond.methodLink "ScapegoatSpur$LazyTree" (86 : Nat) ({ cls := "ScapegoatSpur$LazyTree", name := "addLeaf", desc := "(I)V" } : MethodName)) ∈ ALL := all_mem 598 (by decide +kernel)
theorem k_600 : (Cond.instanceMethod ({ cls := "ScapegoatSpur$LazyTree", name := "addLeaf", desc := "(I)V" } : MethodName)) ∈ ALL := all_mem 600 (by decide +kernel)
theorem k_601 : (Cond.code ({ cls := "ScapegoatSpur$LazyTree", name := "addLeaf", desc := "(I)V" } : MethodName) prog_4_method_15_code (7 : Nat) (Option.none : Option Jvm.ClassFile.FieldType)) ∈ ALL := all_mem 601 (by decide +kernel)
theorem k_602 : (Cond.classLink "ScapegoatSpur$LazyTree" (38 : Nat) "ScapegoatSpur$Node") ∈ ALL := all_mem 602 (by decide +kernel)
theorem k_603 : (Cond.instantiable "ScapegoatSpur$Node" (5 : Nat)) ∈ ALL := all_mem 603 (by decide +kernel)
theorem k_604 : (Cond.methodLink "ScapegoatSpur$LazyTree" (96 : Nat) ({ cls := "ScapegoatSpur$Node", name := "<init>", desc := "(I)V" } : MethodName)) ∈ ALL := all_mem 604 (by decide +kernel)
theorem k_605 : (Cond.instanceMethod ({ cls := "ScapegoatSpur$Node", name := "<init>", desc := "(I)V" } : MethodName)) ∈ ALL := all_mem 605 (by decide +kernel)
theorem k_606 : (Cond.code ({ cls := "ScapegoatSpur$Node", name := "<init>", desc := "(I)V" } : MethodName) prog_5_method_1_code (2 : Nat) (Option.none : Option Jvm.ClassFile.FieldType)) ∈ ALL := all_mem 606 (by decide +kernel)
theorem k_607 : (Cond.methodLink "ScapegoatSpur$Node" (1 : Nat) ({ cls := "java/lang/Object", name := "<init>", desc := "()V" } : MethodName)) ∈ ALL := all_mem 607 (by decide +kernel)
theorem k_608 : (Cond.fieldLink "ScapegoatSpur$Node" (17 : Nat) "ScapegoatSpur$Node" "key" "I") ∈ ALL := all_mem 608 (by decide +kernel)
theorem k_609 : (Cond.fieldLink "ScapegoatSpur$TurningTree" (43 : Nat) "ScapegoatSpur$Node" "key" "I") ∈ ALL := all_mem 609 (by decide +kernel)
theorem k_610 : (Cond.fieldLink "ScapegoatSpur$PointTree" (52 : Nat) "ScapegoatSpur$Node" "key" "I") ∈ ALL := all_mem 610 (by decide +kernel)
theorem k_611 : (Cond.fieldLink "ScapegoatSpur$LazyTree" (69 : Nat) "ScapegoatSpur$Node" "key" "I") ∈ ALL := all_mem 611 (by decide +kernel)
theorem k_612 : (Cond.fieldLink "ScapegoatSpur" (135 : Nat) "ScapegoatSpur$Node" "key" "I") ∈ ALL := all_mem 612 (by decide +kernel)
theorem k_613 : (Cond.fieldLink "ScapegoatSpur$Node" (7 : Nat) "ScapegoatSpur$Node" "alive" "Z") ∈ ALL := all_mem 613 (by decide +kernel)
theorem k_614 : (Cond.fieldLink "ScapegoatSpur$LazyTree" (54 : Nat) "ScapegoatSpur$Node" "alive" "Z") ∈ ALL := all_mem 614 (by decide +kernel)
theorem k_615 : (Cond.fieldLink "ScapegoatSpur$Node" (13 : Nat) "ScapegoatSpur$Node" "weight" "I") ∈ ALL := all_mem 615 (by decide +kernel)
theorem k_616 : (Cond.fieldLink "ScapegoatSpur$PointTree" (44 : Nat) "ScapegoatSpur$Node" "weight" "I") ∈ ALL := all_mem 616 (by decide +kernel)
theorem k_617 : (Cond.fieldLink "ScapegoatSpur$TurningTree" (79 : Nat) "ScapegoatSpur$Node" "weight" "I") ∈ ALL := all_mem 617 (by decide +kernel)
theorem k_618 : (Cond.fieldLink "ScapegoatSpur" (112 : Nat) "ScapegoatSpur$Node" "weight" "I") ∈ ALL := all_mem 618 (by decide +kernel)
theorem k_619 : (Cond.fieldLink "ScapegoatSpur$LazyTree" (100 : Nat) "ScapegoatSpur$Node" "weight" "I") ∈ ALL := all_mem 619 (by decide +kernel)
theorem k_620 : (Cond.fieldLink "ScapegoatSpur$TurningTree" (48 : Nat) "ScapegoatSpur$Node" "left" "LScapegoatSpur$Node;") ∈ ALL := all_mem 620 (by decide +kernel)
theorem k_621 : (Cond.fieldLink "ScapegoatSpur$PointTree" (25 : Nat) "ScapegoatSpur$Node" "left" "LScapegoatSpur$Node;") ∈ ALL := all_mem 621 (by decide +kernel)
theorem k_622 : (Cond.fieldLink "ScapegoatSpur$LazyTree" (76 : Nat) "ScapegoatSpur$Node" "left" "LScapegoatSpur$Node;") ∈ ALL := all_mem 622 (by decide +kernel)
theorem k_623 : (Cond.fieldLink "ScapegoatSpur$TurningTree" (51 : Nat) "ScapegoatSpur$Node" "right" "LScapegoatSpur$Node;") ∈ ALL := all_mem 623 (by decide +kernel)
theorem k_624 : (Cond.fieldLink "ScapegoatSpur$PointTree" (35 : Nat) "ScapegoatSpur$Node" "right" "LScapegoatSpur$Node;") ∈ ALL := all_mem 624 (by decide +kernel)
theorem k_625 : (Cond.fieldLink "ScapegoatSpur$LazyTree" (79 : Nat) "ScapegoatSpur$Node" "right" "LScapegoatSpur$Node;") ∈ ALL := all_mem 625 (by decide +kernel)
theorem k_637 : (Cond.methodLink "ScapegoatSpur$LazyTree" (89 : Nat) ({ cls := "ScapegoatSpur$LazyTree", name := "depthToRebuild", desc := "(LScapegoatSpur$NodeRow;)I" } : MethodName)) ∈ ALL := all_mem 637 (by decide +kernel)
theorem k_639 : (Cond.sameMethod "ScapegoatSpur$LazyTree" "ScapegoatSpur$LazyTree" "depthToRebuild" "(LScapegoatSpur$NodeRow;)I") ∈ ALL := all_mem 639 (by decide +kernel)
theorem k_640 : (Cond.selects "ScapegoatSpur$KeyTree" ({ cls := "ScapegoatSpur$LazyTree", name := "depthToRebuild", desc := "(LScapegoatSpur$NodeRow;)I" } : MethodName) ({ cls := "ScapegoatSpur$KeyTree", name := "depthToRebuild", desc := "(LScapegoatSpur$NodeRow;)I" } : MethodName)) ∈ ALL := all_mem 640 (by decide +kernel)
theorem k_641 : (Cond.instanceMethod ({ cls := "ScapegoatSpur$KeyTree", name := "depthToRebuild", desc := "(LScapegoatSpur$NodeRow;)I" } : MethodName)) ∈ ALL := all_mem 641 (by decide +kernel)
theorem k_642 : (Cond.code ({ cls := "ScapegoatSpur$KeyTree", name := "depthToRebuild", desc := "(LScapegoatSpur$NodeRow;)I" } : MethodName) prog_3_method_4_code (4 : Nat) (Option.some Jvm.ClassFile.FieldType.int)) ∈ ALL := all_mem 642 (by decide +kernel)
theorem k_643 : (Cond.methodLink "ScapegoatSpur$KeyTree" (15 : Nat) ({ cls := "ScapegoatSpur$NodeRow", name := "length", desc := "()I" } : MethodName)) ∈ ALL := all_mem 643 (by decide +kernel)
theorem k_644 : (Cond.methodLink "ScapegoatSpur$KeyTree" (21 : Nat) ({ cls := "ScapegoatSpur$KeyTree", name := "nodeCount", desc := "()I" } : MethodName)) ∈ ALL := all_mem 644 (by decide +kernel)
theorem k_645 : (Cond.methodLink "ScapegoatSpur$KeyTree" (24 : Nat) ({ cls := "ScapegoatSpur$KeyTree", name := "boundFor", desc := "(I)I" } : MethodName)) ∈ ALL := all_mem 645 (by decide +kernel)
theorem k_646 : (Cond.methodLink "ScapegoatSpur$KeyTree" (28 : Nat) ({ cls := "ScapegoatSpur$NodeRow", name := "at", desc := "(I)LScapegoatSpur$Node;" } : MethodName)) ∈ ALL := all_mem 646 (by decide +kernel)
theorem k_647 : (Cond.methodLink "ScapegoatSpur$KeyTree" (32 : Nat) ({ cls := "ScapegoatSpur$Node", name := "weightOf", desc := "(LScapegoatSpur$Node;)I" } : MethodName)) ∈ ALL := all_mem 647 (by decide +kernel)
theorem k_648 : (Cond.selects "ScapegoatSpur$PointTree" ({ cls := "ScapegoatSpur$LazyTree", name := "depthToRebuild", desc := "(LScapegoatSpur$NodeRow;)I" } : MethodName) ({ cls := "ScapegoatSpur$PointTree", name := "depthToRebuild", desc := "(LScapegoatSpur$NodeRow;)I" } : MethodName)) ∈ ALL := all_mem 648 (by decide +kernel)
theorem k_649 : (Cond.instanceMethod ({ cls := "ScapegoatSpur$PointTree", name := "depthToRebuild", desc := "(LScapegoatSpur$NodeRow;)I" } : MethodName)) ∈ ALL := all_mem 649 (by decide +kernel)
theorem k_650 : (Cond.code ({ cls := "ScapegoatSpur$PointTree", name := "depthToRebuild", desc := "(LScapegoatSpur$NodeRow;)I" } : MethodName) prog_7_method_6_code (4 : Nat) (Option.some Jvm.ClassFile.FieldType.int)) ∈ ALL := all_mem 650 (by decide +kernel)
theorem k_651 : (Cond.methodLink "ScapegoatSpur$PointTree" (9 : Nat) ({ cls := "ScapegoatSpur$NodeRow", name := "length", desc := "()I" } : MethodName)) ∈ ALL := all_mem 651 (by decide +kernel)
theorem k_652 : (Cond.methodLink "ScapegoatSpur$PointTree" (15 : Nat) ({ cls := "ScapegoatSpur$NodeRow", name := "at", desc := "(I)LScapegoatSpur$Node;" } : MethodName)) ∈ ALL := all_mem 652 (by decide +kernel)
theorem k_653 : (Cond.methodLink "ScapegoatSpur$PointTree" (19 : Nat) ({ cls := "ScapegoatSpur$PointTree", name := "hasHeavyChild", desc := "(LScapegoatSpur$Node;)Z" } : MethodName)) ∈ ALL := all_mem 653 (by decide +kernel)
theorem k_654 : (Cond.static ({ cls := "ScapegoatSpur$PointTree", name := "hasHeavyChild", desc := "(LScapegoatSpur$Node;)Z" } : MethodName)) ∈ ALL := all_mem 654 (by decide +kernel)
theorem k_655 : (Cond.code ({ cls := "ScapegoatSpur$PointTree", name := "hasHeavyChild", desc := "(LScapegoatSpur$Node;)Z" } : MethodName) prog_7_method_7_code (2 : Nat) (Option.some Jvm.ClassFile.FieldType.boolean)) ∈ ALL := all_mem 655 (by decide +kernel)
theorem k_656 : (Cond.methodLink "ScapegoatSpur$PointTree" (31 : Nat) ({ cls := "ScapegoatSpur$Node", name := "weightOf", desc := "(LScapegoatSpur$Node;)I" } : MethodName)) ∈ ALL := all_mem 656 (by decide +kernel)
theorem k_657 : (Cond.methodLink "ScapegoatSpur$PointTree" (38 : Nat) ({ cls := "java/lang/Math", name := "max", desc := "(II)I" } : MethodName)) ∈ ALL := all_mem 657 (by decide +kernel)
theorem k_658 : (Cond.methodLink "ScapegoatSpur$LazyTree" (93 : Nat) ({ cls := "ScapegoatSpur$LazyTree", name := "rebuild", desc := "(I)V" } : MethodName)) ∈ ALL := all_mem 658 (by decide +kernel)
theorem k_660 : (Cond.instanceMethod ({ cls := "ScapegoatSpur$LazyTree", name := "rebuild", desc := "(I)V" } : MethodName)) ∈ ALL := all_mem 660 (by decide +kernel)
theorem k_661 : (Cond.code ({ cls := "ScapegoatSpur$LazyTree", name := "rebuild", desc := "(I)V" } : MethodName) prog_4_method_16_code (5 : Nat) (Option.none : Option Jvm.ClassFile.FieldType)) ∈ ALL := all_mem 661 (by decide +kernel)
theorem k_662 : (Cond.methodLink "ScapegoatSpur" (61 : Nat) ({ cls := "ScapegoatSpur$TurningTree", name := "insert", desc := "(I)V" } : MethodName)) ∈ ALL := all_mem 662 (by decide +kernel)
theorem k_663 : (Cond.instanceMethod ({ cls := "ScapegoatSpur$TurningTree", name := "insert", desc := "(I)V" } : MethodName)) ∈ ALL := all_mem 663 (by decide +kernel)
theorem k_664 : (Cond.selects "ScapegoatSpur$TurningTree" ({ cls := "ScapegoatSpur$TurningTree", name := "insert", desc := "(I)V" } : MethodName) ({ cls := "ScapegoatSpur$TurningTree", name := "insert", desc := "(I)V" } : MethodName)) ∈ ALL := all_mem 664 (by decide +kernel)
theorem k_665 : (Cond.code ({ cls := "ScapegoatSpur$TurningTree", name := "insert", desc := "(I)V" } : MethodName) prog_9_method_6_code (4 : Nat) (Option.none : Option Jvm.ClassFile.FieldType)) ∈ ALL := all_mem 665 (by decide +kernel)
theorem k_666 : (Cond.classLink "ScapegoatSpur$TurningTree" (44 : Nat) "ScapegoatSpur$Node") ∈ ALL := all_mem 666 (by decide +kernel)
theorem k_667 : (Cond.methodLink "ScapegoatSpur$TurningTree" (54 : Nat) ({ cls := "ScapegoatSpur$Node", name := "<init>", desc := "(I)V" } : MethodName)) ∈ ALL := all_mem 667 (by decide +kernel)
theorem k_668 : (Cond.methodLink "ScapegoatSpur" (64 : Nat) ({ cls := "ScapegoatSpur$SortedParts", name := "enter", desc := "(I)V" } : MethodName)) ∈ ALL := all_mem 668 (by decide +kernel)
theorem k_669 : (Cond.instanceMethod ({ cls := "ScapegoatSpur$SortedParts", name := "enter", desc := "(I)V" } : MethodName)) ∈ ALL := all_mem 669 (by decide +kernel)
theorem k_670 : (Cond.selects "ScapegoatSpur$SortedParts" ({ cls := "ScapegoatSpur$SortedParts", name := "enter", desc := "(I)V" } : MethodName) ({ cls := "ScapegoatSpur$SortedParts", name := "enter", desc := "(I)V" } : MethodName)) ∈ ALL := all_mem 670 (by decide +kernel)
theorem k_671 : (Cond.code ({ cls := "ScapegoatSpur$SortedParts", name := "enter", desc := "(I)V" } : MethodName) prog_8_method_12_code (3 : Nat) (Option.none : Option Jvm.ClassFile.FieldType)) ∈ ALL := all_mem 671 (by decide +kernel)
theorem k_672 : (Cond.classLink "ScapegoatSpur$SortedParts" (24 : Nat) "ScapegoatSpur$Entry") ∈ ALL := all_mem 672 (by decide +kernel)
theorem k_673 : (Cond.instantiable "ScapegoatSpur$Entry" (4 : Nat)) ∈ ALL := all_mem 673 (by decide +kernel)
theorem k_674 : (Cond.methodLink "ScapegoatSpur$SortedParts" (46 : Nat) ({ cls := "ScapegoatSpur$Entry", name := "<init>", desc := "(I)V" } : MethodName)) ∈ ALL := all_mem 674 (by decide +kernel)
theorem k_675 : (Cond.instanceMethod ({ cls := "ScapegoatSpur$Entry", name := "<init>", desc := "(I)V" } : MethodName)) ∈ ALL := all_mem 675 (by decide +kernel)
theorem k_676 : (Cond.code ({ cls := "ScapegoatSpur$Entry", name := "<init>", desc := "(I)V" } : MethodName) prog_2_method_1_code (2 : Nat) (Option.none : Option Jvm.ClassFile.FieldType)) ∈ ALL := all_mem 676 (by decide +kernel)
theorem k_677 : (Cond.methodLink "ScapegoatSpur$Entry" (1 : Nat) ({ cls := "java/lang/Object", name := "<init>", desc := "()V" } : MethodName)) ∈ ALL := all_mem 677 (by decide +kernel)
theorem k_678 : (Cond.fieldLink "ScapegoatSpur$Entry" (17 : Nat) "ScapegoatSpur$Entry" "key" "I") ∈ ALL := all_mem 678 (by decide +kernel)
theorem k_679 : (Cond.fieldLink "ScapegoatSpur$SortedParts" (23 : Nat) "ScapegoatSpur$Entry" "key" "I") ∈ ALL := all_mem 679 (by decide +kernel)
theorem k_680 : (Cond.fieldLink "ScapegoatSpur" (85 : Nat) "ScapegoatSpur$Entry" "key" "I") ∈ ALL := all_mem 680 (by decide +kernel)
theorem k_681 : (Cond.fieldLink "ScapegoatSpur$Entry" (7 : Nat) "ScapegoatSpur$Entry" "alive" "Z") ∈ ALL := all_mem 681 (by decide +kernel)
theorem k_682 : (Cond.fieldLink "ScapegoatSpur$SortedParts" (35 : Nat) "ScapegoatSpur$Entry" "alive" "Z") ∈ ALL := all_mem 682 (by decide +kernel)
theorem k_683 : (Cond.fieldLink "ScapegoatSpur$Entry" (13 : Nat) "ScapegoatSpur$Entry" "part" "I") ∈ ALL := all_mem 683 (by decide +kernel)
theorem k_684 : (Cond.fieldLink "ScapegoatSpur$SortedParts" (43 : Nat) "ScapegoatSpur$Entry" "part" "I") ∈ ALL := all_mem 684 (by decide +kernel)
theorem k_685 : (Cond.fieldLink "ScapegoatSpur" (146 : Nat) "ScapegoatSpur$Entry" "part" "I") ∈ ALL := all_mem 685 (by decide +kernel)
theorem k_686 : (Cond.fieldLink "ScapegoatSpur$SortedParts" (28 : Nat) "ScapegoatSpur$Entry" "next" "LScapegoatSpur$Entry;") ∈ ALL := all_mem 686 (by decide +kernel)
theorem k_696 : (Cond.methodLink "ScapegoatSpur$SortedParts" (49 : Nat) ({ cls := "ScapegoatSpur$SortedParts", name := "insert", desc := "(LScapegoatSpur$Entry;)V" } : MethodName)) ∈ ALL := all_mem 696 (by decide +kernel)
theorem k_698 : (Cond.instanceMethod ({ cls := "ScapegoatSpur$SortedParts", name := "insert", desc := "(LScapegoatSpur$Entry;)V" } : MethodName)) ∈ ALL := all_mem 698 (by decide +kernel)
theorem k_699 : (Cond.code ({ cls := "ScapegoatSpur$SortedParts", name := "insert", desc := "(LScapegoatSpur$Entry;)V" } : MethodName) prog_8_method_13_code (4 : Nat) (Option.none : Option Jvm.ClassFile.FieldType)) ∈ ALL := all_mem 699 (by decide +kernel)
theorem k_700 : (Cond.methodLink "ScapegoatSpur$SortedParts" (53 : Nat) ({ cls := "ScapegoatSpur$SortedParts", name := "mergeEqualParts", desc := "()V" } : MethodName)) ∈ ALL := all_mem 700 (by decide +kernel)
theorem k_702 : (Cond.instanceMethod ({ cls := "ScapegoatSpur$SortedParts", name := "mergeEqualParts", desc := "()V" } : MethodName)) ∈ ALL := all_mem 702 (by decide +kernel)
theorem k_703 : (Cond.code ({ cls := "ScapegoatSpur$SortedParts", name := "mergeEqualParts", desc := "()V" } : MethodName) prog_8_method_14_code (2 : Nat) (Option.none : Option Jvm.ClassFile.FieldType)) ∈ ALL := all_mem 703 (by decide +kernel)
theorem k_704 : (Cond.methodLink "ScapegoatSpur$SortedParts" (39 : Nat) ({ cls := "ScapegoatSpur$SortedParts", name := "sizeOf", desc := "(I)I" } : MethodName)) ∈ ALL := all_mem 704 (by decide +kernel)
theorem k_706 : (Cond.instanceMethod ({ cls := "ScapegoatSpur$SortedParts", name := "sizeOf", desc := "(I)I" } : MethodName)) ∈ ALL := all_mem 706 (by decide +kernel)
theorem k_707 : (Cond.code ({ cls := "ScapegoatSpur$SortedParts", name := "sizeOf", desc := "(I)I" } : MethodName) prog_8_method_10_code (4 : Nat) (Option.some Jvm.ClassFile.FieldType.int)) ∈ ALL := all_mem 707 (by decide +kernel)
theorem k_708 : (Cond.methodLink "ScapegoatSpur$SortedParts" (56 : Nat) ({ cls := "ScapegoatSpur$SortedParts", name := "renumber", desc := "(II)V" } : MethodName)) ∈ ALL := all_mem 708 (by decide +kernel)
theorem k_710 : (Cond.instanceMethod ({ cls := "ScapegoatSpur$SortedParts", name := "renumber", desc := "(II)V" } : MethodName)) ∈ ALL := all_mem 710 (by decide +kernel)
theorem k_711 : (Cond.code ({ cls := "ScapegoatSpur$SortedParts", name := "renumber", desc := "(II)V" } : MethodName) prog_8_method_15_code (4 : Nat) (Option.none : Option Jvm.ClassFile.FieldType)) ∈ ALL := all_mem 711 (by decide +kernel)
theorem k_712 : (Cond.methodLink "ScapegoatSpurLaw" (88 : Nat) ({ cls := "ScapegoatSpurLaw", name := "keyAt", desc := "(LScapegoatSpur;I[J)I" } : MethodName)) ∈ ALL := all_mem 712 (by decide +kernel)
theorem k_713 : (Cond.static ({ cls := "ScapegoatSpurLaw", name := "keyAt", desc := "(LScapegoatSpur;I[J)I" } : MethodName)) ∈ ALL := all_mem 713 (by decide +kernel)
theorem k_715 : (Cond.classLink "ScapegoatSpurLaw" (21 : Nat) "java/lang/IndexOutOfBoundsException") ∈ ALL := all_mem 715 (by decide +kernel)
theorem k_716 : (Cond.methodLink "ScapegoatSpurLaw" (17 : Nat) ({ cls := "ScapegoatSpur", name := "keyAt", desc := "(I)I" } : MethodName)) ∈ ALL := all_mem 716 (by decide +kernel)
theorem k_717 : (Cond.instanceMethod ({ cls := "ScapegoatSpur", name := "keyAt", desc := "(I)I" } : MethodName)) ∈ ALL := all_mem 717 (by decide +kernel)
theorem k_718 : (Cond.selects "ScapegoatSpur" ({ cls := "ScapegoatSpur", name := "keyAt", desc := "(I)I" } : MethodName) ({ cls := "ScapegoatSpur", name := "keyAt", desc := "(I)I" } : MethodName)) ∈ ALL := all_mem 718 (by decide +kernel)
theorem k_719 : (Cond.code ({ cls := "ScapegoatSpur", name := "keyAt", desc := "(I)I" } : MethodName) prog_1_method_7_code (3 : Nat) (Option.some Jvm.ClassFile.FieldType.int)) ∈ ALL := all_mem 719 (by decide +kernel)
theorem k_720 : (Cond.methodLink "ScapegoatSpur" (76 : Nat) ({ cls := "ScapegoatSpur$SortedParts", name := "livingWithRank", desc := "(I)LScapegoatSpur$Entry;" } : MethodName)) ∈ ALL := all_mem 720 (by decide +kernel)
theorem k_721 : (Cond.instanceMethod ({ cls := "ScapegoatSpur$SortedParts", name := "livingWithRank", desc := "(I)LScapegoatSpur$Entry;" } : MethodName)) ∈ ALL := all_mem 721 (by decide +kernel)
theorem k_722 : (Cond.selects "ScapegoatSpur$SortedParts" ({ cls := "ScapegoatSpur$SortedParts", name := "livingWithRank", desc := "(I)LScapegoatSpur$Entry;" } : MethodName) ({ cls := "ScapegoatSpur$SortedParts", name := "livingWithRank", desc := "(I)LScapegoatSpur$Entry;" } : MethodName)) ∈ ALL := all_mem 722 (by decide +kernel)
theorem k_723 : (Cond.code ({ cls := "ScapegoatSpur$SortedParts", name := "livingWithRank", desc := "(I)LScapegoatSpur$Entry;" } : MethodName) prog_8_method_8_code (4 : Nat) (Option.some (Jvm.ClassFile.FieldType.object "ScapegoatSpur$Entry"))) ∈ ALL := all_mem 723 (by decide +kernel)
theorem k_724 : (Cond.classLink "ScapegoatSpur" (80 : Nat) "java/lang/IndexOutOfBoundsException") ∈ ALL := all_mem 724 (by decide +kernel)
theorem k_725 : (Cond.instantiable "java/lang/IndexOutOfBoundsException" (6 : Nat)) ∈ ALL := all_mem 725 (by decide +kernel)
theorem k_727 : (Cond.selects "java/lang/IndexOutOfBoundsException" ({ cls := "java/lang/Throwable", name := "fillInStackTrace", desc := "(I)Ljava/lang/Throwable;" } : MethodName) ({ cls := "java/lang/Throwable", name := "fillInStackTrace", desc := "(I)Ljava/lang/Throwable;" } : MethodName)) ∈ ALL := all_mem 727 (by decide +kernel)
theorem k_734 : (Cond.methodLink "ScapegoatSpur" (84 : Nat) ({ cls := "java/lang/IndexOutOfBoundsException", name := "<init>", desc := "(Ljava/lang/String;)V" } : MethodName)) ∈ ALL := all_mem 734 (by decide +kernel)
theorem k_735 : (Cond.instanceMethod ({ cls := "java/lang/IndexOutOfBoundsException", name := "<init>", desc := "(Ljava/lang/String;)V" } : MethodName)) ∈ ALL := all_mem 735 (by decide +kernel)
theorem k_736 : (Cond.code ({ cls := "java/lang/IndexOutOfBoundsException", name := "<init>", desc := "(Ljava/lang/String;)V" } : MethodName) prog_16_method_2_code (2 : Nat) (Option.none : Option Jvm.ClassFile.FieldType)) ∈ ALL := all_mem 736 (by decide +kernel)
theorem k_737 : (Cond.methodLink "java/lang/IndexOutOfBoundsException" (7 : Nat) ({ cls := "java/lang/RuntimeException", name := "<init>", desc := "(Ljava/lang/String;)V" } : MethodName)) ∈ ALL := all_mem 737 (by decide +kernel)
theorem k_740 : (Cond.methodLink "ScapegoatSpurLaw" (103 : Nat) ({ cls := "ScapegoatSpurLaw", name := "depth", desc := "(LScapegoatSpur;I[J)I" } : MethodName)) ∈ ALL := all_mem 740 (by decide +kernel)
theorem k_741 : (Cond.static ({ cls := "ScapegoatSpurLaw", name := "depth", desc := "(LScapegoatSpur;I[J)I" } : MethodName)) ∈ ALL := all_mem 741 (by decide +kernel)
theorem k_743 : (Cond.classLink "ScapegoatSpurLaw" (26 : Nat) "java/util/NoSuchElementException") ∈ ALL := all_mem 743 (by decide +kernel)
theorem k_744 : (Cond.methodLink "ScapegoatSpurLaw" (23 : Nat) ({ cls := "ScapegoatSpur", name := "depth", desc := "(I)I" } : MethodName)) ∈ ALL := all_mem 744 (by decide +kernel)
theorem k_745 : (Cond.instanceMethod ({ cls := "ScapegoatSpur", name := "depth", desc := "(I)I" } : MethodName)) ∈ ALL := all_mem 745 (by decide +kernel)
theorem k_746 : (Cond.selects "ScapegoatSpur" ({ cls := "ScapegoatSpur", name := "depth", desc := "(I)I" } : MethodName) ({ cls := "ScapegoatSpur", name := "depth", desc := "(I)I" } : MethodName)) ∈ ALL := all_mem 746 (by decide +kernel)
theorem k_747 : (Cond.code ({ cls := "ScapegoatSpur", name := "depth", desc := "(I)I" } : MethodName) prog_1_method_11_code (3 : Nat) (Option.some Jvm.ClassFile.FieldType.int)) ∈ ALL := all_mem 747 (by decide +kernel)
theorem k_748 : (Cond.methodLink "ScapegoatSpur" (100 : Nat) ({ cls := "ScapegoatSpur$KeyTree", name := "depthOf", desc := "(I)I" } : MethodName)) ∈ ALL := all_mem 748 (by decide +kernel)
theorem k_749 : (Cond.sameMethod "ScapegoatSpur$KeyTree" "ScapegoatSpur$LazyTree" "depthOf" "(I)I") ∈ ALL := all_mem 749 (by decide +kernel)
theorem k_751 : (Cond.selects "ScapegoatSpur$KeyTree" ({ cls := "ScapegoatSpur$KeyTree", name := "depthOf", desc := "(I)I" } : MethodName) ({ cls := "ScapegoatSpur$LazyTree", name := "depthOf", desc := "(I)I" } : MethodName)) ∈ ALL := all_mem 751 (by decide +kernel)
theorem k_752 : (Cond.instanceMethod ({ cls := "ScapegoatSpur$LazyTree", name := "depthOf", desc := "(I)I" } : MethodName)) ∈ ALL := all_mem 752 (by decide +kernel)
theorem k_753 : (Cond.code ({ cls := "ScapegoatSpur$LazyTree", name := "depthOf", desc := "(I)I" } : MethodName) prog_4_method_11_code (2 : Nat) (Option.some Jvm.ClassFile.FieldType.int)) ∈ ALL := all_mem 753 (by decide +kernel)
theorem k_754 : (Cond.classLink "ScapegoatSpur" (103 : Nat) "java/util/NoSuchElementException") ∈ ALL := all_mem 754 (by decide +kernel)
theorem k_755 : (Cond.instantiable "java/util/NoSuchElementException" (6 : Nat)) ∈ ALL := all_mem 755 (by decide +kernel)
theorem k_757 : (Cond.selects "java/util/NoSuchElementException" ({ cls := "java/lang/Throwable", name := "fillInStackTrace", desc := "(I)Ljava/lang/Throwable;" } : MethodName) ({ cls := "java/lang/Throwable", name := "fillInStackTrace", desc := "(I)Ljava/lang/Throwable;" } : MethodName)) ∈ ALL := all_mem 757 (by decide +kernel)
theorem k_764 : (Cond.methodLink "ScapegoatSpur" (107 : Nat) ({ cls := "java/util/NoSuchElementException", name := "<init>", desc := "(Ljava/lang/String;)V" } : MethodName)) ∈ ALL := all_mem 764 (by decide +kernel)
theorem k_765 : (Cond.instanceMethod ({ cls := "java/util/NoSuchElementException", name := "<init>", desc := "(Ljava/lang/String;)V" } : MethodName)) ∈ ALL := all_mem 765 (by decide +kernel)
theorem k_766 : (Cond.code ({ cls := "java/util/NoSuchElementException", name := "<init>", desc := "(Ljava/lang/String;)V" } : MethodName) prog_21_method_4_code (2 : Nat) (Option.none : Option Jvm.ClassFile.FieldType)) ∈ ALL := all_mem 766 (by decide +kernel)
theorem k_767 : (Cond.methodLink "java/util/NoSuchElementException" (13 : Nat) ({ cls := "java/lang/RuntimeException", name := "<init>", desc := "(Ljava/lang/String;)V" } : MethodName)) ∈ ALL := all_mem 767 (by decide +kernel)
theorem k_770 : (Cond.methodLink "ScapegoatSpurLaw" (106 : Nat) ({ cls := "ScapegoatSpurLaw", name := "weight", desc := "(LScapegoatSpur;I[J)I" } : MethodName)) ∈ ALL := all_mem 770 (by decide +kernel)
theorem k_771 : (Cond.static ({ cls := "ScapegoatSpurLaw", name := "weight", desc := "(LScapegoatSpur;I[J)I" } : MethodName)) ∈ ALL := all_mem 771 (by decide +kernel)
theorem k_773 : (Cond.methodLink "ScapegoatSpurLaw" (28 : Nat) ({ cls := "ScapegoatSpur", name := "weight", desc := "(I)I" } : MethodName)) ∈ ALL := all_mem 773 (by decide +kernel)
theorem k_774 : (Cond.instanceMethod ({ cls := "ScapegoatSpur", name := "weight", desc := "(I)I" } : MethodName)) ∈ ALL := all_mem 774 (by decide +kernel)
theorem k_775 : (Cond.selects "ScapegoatSpur" ({ cls := "ScapegoatSpur", name := "weight", desc := "(I)I" } : MethodName) ({ cls := "ScapegoatSpur", name := "weight", desc := "(I)I" } : MethodName)) ∈ ALL := all_mem 775 (by decide +kernel)
theorem k_776 : (Cond.code ({ cls := "ScapegoatSpur", name := "weight", desc := "(I)I" } : MethodName) prog_1_method_12_code (3 : Nat) (Option.some Jvm.ClassFile.FieldType.int)) ∈ ALL := all_mem 776 (by decide +kernel)
theorem k_777 : (Cond.methodLink "ScapegoatSpur" (108 : Nat) ({ cls := "ScapegoatSpur$KeyTree", name := "find", desc := "(I)LScapegoatSpur$Node;" } : MethodName)) ∈ ALL := all_mem 777 (by decide +kernel)
theorem k_778 : (Cond.sameMethod "ScapegoatSpur$KeyTree" "ScapegoatSpur$LazyTree" "find" "(I)LScapegoatSpur$Node;") ∈ ALL := all_mem 778 (by decide +kernel)
theorem k_780 : (Cond.selects "ScapegoatSpur$KeyTree" ({ cls := "ScapegoatSpur$KeyTree", name := "find", desc := "(I)LScapegoatSpur$Node;" } : MethodName) ({ cls := "ScapegoatSpur$LazyTree", name := "find", desc := "(I)LScapegoatSpur$Node;" } : MethodName)) ∈ ALL := all_mem 780 (by decide +kernel)
theorem k_781 : (Cond.methodLink "ScapegoatSpurLaw" (122 : Nat) ({ cls := "ScapegoatSpurLaw", name := "depthInTurning", desc := "(LScapegoatSpur;I[J)I" } : MethodName)) ∈ ALL := all_mem 781 (by decide +kernel)
theorem k_782 : (Cond.static ({ cls := "ScapegoatSpurLaw", name := "depthInTurning", desc := "(LScapegoatSpur;I[J)I" } : MethodName)) ∈ ALL := all_mem 782 (by decide +kernel)
theorem k_784 : (Cond.methodLink "ScapegoatSpurLaw" (31 : Nat) ({ cls := "ScapegoatSpur", name := "depthInTurning", desc := "(I)I" } : MethodName)) ∈ ALL := all_mem 784 (by decide +kernel)
theorem k_785 : (Cond.instanceMethod ({ cls := "ScapegoatSpur", name := "depthInTurning", desc := "(I)I" } : MethodName)) ∈ ALL := all_mem 785 (by decide +kernel)
theorem k_786 : (Cond.selects "ScapegoatSpur" ({ cls := "ScapegoatSpur", name := "depthInTurning", desc := "(I)I" } : MethodName) ({ cls := "ScapegoatSpur", name := "depthInTurning", desc := "(I)I" } : MethodName)) ∈ ALL := all_mem 786 (by decide +kernel)
theorem k_787 : (Cond.code ({ cls := "ScapegoatSpur", name := "depthInTurning", desc := "(I)I" } : MethodName) prog_1_method_16_code (3 : Nat) (Option.some Jvm.ClassFile.FieldType.int)) ∈ ALL := all_mem 787 (by decide +kernel)
theorem k_788 : (Cond.methodLink "ScapegoatSpur" (126 : Nat) ({ cls := "ScapegoatSpur$TurningTree", name := "depthOf", desc := "(I)I" } : MethodName)) ∈ ALL := all_mem 788 (by decide +kernel)
theorem k_789 : (Cond.instanceMethod ({ cls := "ScapegoatSpur$TurningTree", name := "depthOf", desc := "(I)I" } : MethodName)) ∈ ALL := all_mem 789 (by decide +kernel)
theorem k_790 : (Cond.selects "ScapegoatSpur$TurningTree" ({ cls := "ScapegoatSpur$TurningTree", name := "depthOf", desc := "(I)I" } : MethodName) ({ cls := "ScapegoatSpur$TurningTree", name := "depthOf", desc := "(I)I" } : MethodName)) ∈ ALL := all_mem 790 (by decide +kernel)
theorem k_791 : (Cond.code ({ cls := "ScapegoatSpur$TurningTree", name := "depthOf", desc := "(I)I" } : MethodName) prog_9_method_4_code (2 : Nat) (Option.some Jvm.ClassFile.FieldType.int)) ∈ ALL := all_mem 791 (by decide +kernel)
theorem k_793 : (Cond.methodLink "ScapegoatSpurLaw" (125 : Nat) ({ cls := "ScapegoatSpurLaw", name := "turningRoot", desc := "(LScapegoatSpur;[J)I" } : MethodName)) ∈ ALL := all_mem 793 (by decide +kernel)
theorem k_794 : (Cond.static ({ cls := "ScapegoatSpurLaw", name := "turningRoot", desc := "(LScapegoatSpur;[J)I" } : MethodName)) ∈ ALL := all_mem 794 (by decide +kernel)
theorem k_796 : (Cond.methodLink "ScapegoatSpurLaw" (34 : Nat) ({ cls := "ScapegoatSpur", name := "turningRoot", desc := "()I" } : MethodName)) ∈ ALL := all_mem 796 (by decide +kernel)
theorem k_797 : (Cond.instanceMethod ({ cls := "ScapegoatSpur", name := "turningRoot", desc := "()I" } : MethodName)) ∈ ALL := all_mem 797 (by decide +kernel)
theorem k_798 : (Cond.selects "ScapegoatSpur" ({ cls := "ScapegoatSpur", name := "turningRoot", desc := "()I" } : MethodName) ({ cls := "ScapegoatSpur", name := "turningRoot", desc := "()I" } : MethodName)) ∈ ALL := all_mem 798 (by decide +kernel)
theorem k_799 : (Cond.code ({ cls := "ScapegoatSpur", name := "turningRoot", desc := "()I" } : MethodName) prog_1_method_17_code (2 : Nat) (Option.some Jvm.ClassFile.FieldType.int)) ∈ ALL := all_mem 799 (by decide +kernel)
theorem k_800 : (Cond.methodLink "ScapegoatSpur" (129 : Nat) ({ cls := "ScapegoatSpur$TurningTree", name := "top", desc := "()LScapegoatSpur$Node;" } : MethodName)) ∈ ALL := all_mem 800 (by decide +kernel)
theorem k_801 : (Cond.instanceMethod ({ cls := "ScapegoatSpur$TurningTree", name := "top", desc := "()LScapegoatSpur$Node;" } : MethodName)) ∈ ALL := all_mem 801 (by decide +kernel)
theorem k_802 : (Cond.selects "ScapegoatSpur$TurningTree" ({ cls := "ScapegoatSpur$TurningTree", name := "top", desc := "()LScapegoatSpur$Node;" } : MethodName) ({ cls := "ScapegoatSpur$TurningTree", name := "top", desc := "()LScapegoatSpur$Node;" } : MethodName)) ∈ ALL := all_mem 802 (by decide +kernel)
theorem k_803 : (Cond.code ({ cls := "ScapegoatSpur$TurningTree", name := "top", desc := "()LScapegoatSpur$Node;" } : MethodName) prog_9_method_2_code (1 : Nat) (Option.some (Jvm.ClassFile.FieldType.object "ScapegoatSpur$Node"))) ∈ ALL := all_mem 803 (by decide +kernel)
theorem k_805 : (Cond.methodLink "ScapegoatSpurLaw" (137 : Nat) ({ cls := "ScapegoatSpurLaw", name := "partOf", desc := "(LScapegoatSpur;I[J)I" } : MethodName)) ∈ ALL := all_mem 805 (by decide +kernel)
theorem k_806 : (Cond.static ({ cls := "ScapegoatSpurLaw", name := "partOf", desc := "(LScapegoatSpur;I[J)I" } : MethodName)) ∈ ALL := all_mem 806 (by decide +kernel)
theorem k_808 : (Cond.methodLink "ScapegoatSpurLaw" (38 : Nat) ({ cls := "ScapegoatSpur", name := "partOf", desc := "(I)I" } : MethodName)) ∈ ALL := all_mem 808 (by decide +kernel)
theorem k_809 : (Cond.instanceMethod ({ cls := "ScapegoatSpur", name := "partOf", desc := "(I)I" } : MethodName)) ∈ ALL := all_mem 809 (by decide +kernel)
theorem k_810 : (Cond.selects "ScapegoatSpur" ({ cls := "ScapegoatSpur", name := "partOf", desc := "(I)I" } : MethodName) ({ cls := "ScapegoatSpur", name := "partOf", desc := "(I)I" } : MethodName)) ∈ ALL := all_mem 810 (by decide +kernel)
theorem k_811 : (Cond.code ({ cls := "ScapegoatSpur", name := "partOf", desc := "(I)I" } : MethodName) prog_1_method_20_code (3 : Nat) (Option.some Jvm.ClassFile.FieldType.int)) ∈ ALL := all_mem 811 (by decide +kernel)
theorem k_812 : (Cond.methodLink "ScapegoatSpur" (142 : Nat) ({ cls := "ScapegoatSpur$SortedParts", name := "find", desc := "(I)LScapegoatSpur$Entry;" } : MethodName)) ∈ ALL := all_mem 812 (by decide +kernel)
theorem k_814 : (Cond.methodLink "ScapegoatSpurLaw" (140 : Nat) ({ cls := "ScapegoatSpurLaw", name := "entry", desc := "(LScapegoatSpur;II[J)I" } : MethodName)) ∈ ALL := all_mem 814 (by decide +kernel)
theorem k_815 : (Cond.static ({ cls := "ScapegoatSpurLaw", name := "entry", desc := "(LScapegoatSpur;II[J)I" } : MethodName)) ∈ ALL := all_mem 815 (by decide +kernel)
theorem k_817 : (Cond.methodLink "ScapegoatSpurLaw" (41 : Nat) ({ cls := "ScapegoatSpur", name := "entry", desc := "(II)I" } : MethodName)) ∈ ALL := all_mem 817 (by decide +kernel)
theorem k_818 : (Cond.instanceMethod ({ cls := "ScapegoatSpur", name := "entry", desc := "(II)I" } : MethodName)) ∈ ALL := all_mem 818 (by decide +kernel)
theorem k_819 : (Cond.selects "ScapegoatSpur" ({ cls := "ScapegoatSpur", name := "entry", desc := "(II)I" } : MethodName) ({ cls := "ScapegoatSpur", name := "entry", desc := "(II)I" } : MethodName)) ∈ ALL := all_mem 819 (by decide +kernel)
theorem k_820 : (Cond.code ({ cls := "ScapegoatSpur", name := "entry", desc := "(II)I" } : MethodName) prog_1_method_21_code (4 : Nat) (Option.some Jvm.ClassFile.FieldType.int)) ∈ ALL := all_mem 820 (by decide +kernel)
theorem k_821 : (Cond.methodLink "ScapegoatSpur" (149 : Nat) ({ cls := "ScapegoatSpur$SortedParts", name := "hasPart", desc := "(I)Z" } : MethodName)) ∈ ALL := all_mem 821 (by decide +kernel)
theorem k_822 : (Cond.instanceMethod ({ cls := "ScapegoatSpur$SortedParts", name := "hasPart", desc := "(I)Z" } : MethodName)) ∈ ALL := all_mem 822 (by decide +kernel)
theorem k_823 : (Cond.selects "ScapegoatSpur$SortedParts" ({ cls := "ScapegoatSpur$SortedParts", name := "hasPart", desc := "(I)Z" } : MethodName) ({ cls := "ScapegoatSpur$SortedParts", name := "hasPart", desc := "(I)Z" } : MethodName)) ∈ ALL := all_mem 823 (by decide +kernel)
theorem k_824 : (Cond.code ({ cls := "ScapegoatSpur$SortedParts", name := "hasPart", desc := "(I)Z" } : MethodName) prog_8_method_9_code (2 : Nat) (Option.some Jvm.ClassFile.FieldType.boolean)) ∈ ALL := all_mem 824 (by decide +kernel)
theorem k_826 : (Cond.methodLink "ScapegoatSpur" (154 : Nat) ({ cls := "ScapegoatSpur$SortedParts", name := "entryAt", desc := "(II)LScapegoatSpur$Entry;" } : MethodName)) ∈ ALL := all_mem 826 (by decide +kernel)
theorem k_827 : (Cond.instanceMethod ({ cls := "ScapegoatSpur$SortedParts", name := "entryAt", desc := "(II)LScapegoatSpur$Entry;" } : MethodName)) ∈ ALL := all_mem 827 (by decide +kernel)
theorem k_828 : (Cond.selects "ScapegoatSpur$SortedParts" ({ cls := "ScapegoatSpur$SortedParts", name := "entryAt", desc := "(II)LScapegoatSpur$Entry;" } : MethodName) ({ cls := "ScapegoatSpur$SortedParts", name := "entryAt", desc := "(II)LScapegoatSpur$Entry;" } : MethodName)) ∈ ALL := all_mem 828 (by decide +kernel)
theorem k_829 : (Cond.code ({ cls := "ScapegoatSpur$SortedParts", name := "entryAt", desc := "(II)LScapegoatSpur$Entry;" } : MethodName) prog_8_method_11_code (5 : Nat) (Option.some (Jvm.ClassFile.FieldType.object "ScapegoatSpur$Entry"))) ∈ ALL := all_mem 829 (by decide +kernel)
theorem k_831 : (Cond.methodLink "ScapegoatSpurLaw" (148 : Nat) ({ cls := "ScapegoatSpurLaw", name := "addPoint", desc := "(LScapegoatSpur;II[J)I" } : MethodName)) ∈ ALL := all_mem 831 (by decide +kernel)
theorem k_832 : (Cond.static ({ cls := "ScapegoatSpurLaw", name := "addPoint", desc := "(LScapegoatSpur;II[J)I" } : MethodName)) ∈ ALL := all_mem 832 (by decide +kernel)
theorem k_834 : (Cond.methodLink "ScapegoatSpurLaw" (45 : Nat) ({ cls := "ScapegoatSpur", name := "addPoint", desc := "(II)Z" } : MethodName)) ∈ ALL := all_mem 834 (by decide +kernel)
theorem k_835 : (Cond.instanceMethod ({ cls := "ScapegoatSpur", name := "addPoint", desc := "(II)Z" } : MethodName)) ∈ ALL := all_mem 835 (by decide +kernel)
theorem k_836 : (Cond.selects "ScapegoatSpur" ({ cls := "ScapegoatSpur", name := "addPoint", desc := "(II)Z" } : MethodName) ({ cls := "ScapegoatSpur", name := "addPoint", desc := "(II)Z" } : MethodName)) ∈ ALL := all_mem 836 (by decide +kernel)
theorem k_837 : (Cond.code ({ cls := "ScapegoatSpur", name := "addPoint", desc := "(II)Z" } : MethodName) prog_1_method_23_code (4 : Nat) (Option.some Jvm.ClassFile.FieldType.boolean)) ∈ ALL := all_mem 837 (by decide +kernel)
theorem k_840 : (Cond.methodLink "ScapegoatSpur" (177 : Nat) ({ cls := "ScapegoatSpur$PointTree", name := "enter", desc := "(I)V" } : MethodName)) ∈ ALL := all_mem 840 (by decide +kernel)
theorem k_841 : (Cond.sameMethod "ScapegoatSpur$PointTree" "ScapegoatSpur$LazyTree" "enter" "(I)V") ∈ ALL := all_mem 841 (by decide +kernel)
theorem k_842 : (Cond.selects "ScapegoatSpur$PointTree" ({ cls := "ScapegoatSpur$PointTree", name := "enter", desc := "(I)V" } : MethodName) ({ cls := "ScapegoatSpur$LazyTree", name := "enter", desc := "(I)V" } : MethodName)) ∈ ALL := all_mem 842 (by decide +kernel)
theorem k_843 : (Cond.methodLink "ScapegoatSpurLaw" (163 : Nat) ({ cls := "ScapegoatSpurLaw", name := "pointDepth", desc := "(LScapegoatSpur;II[J)I" } : MethodName)) ∈ ALL := all_mem 843 (by decide +kernel)
theorem k_844 : (Cond.static ({ cls := "ScapegoatSpurLaw", name := "pointDepth", desc := "(LScapegoatSpur;II[J)I" } : MethodName)) ∈ ALL := all_mem 844 (by decide +kernel)
theorem k_846 : (Cond.methodLink "ScapegoatSpurLaw" (49 : Nat) ({ cls := "ScapegoatSpur", name := "pointDepth", desc := "(II)I" } : MethodName)) ∈ ALL := all_mem 846 (by decide +kernel)
theorem k_847 : (Cond.instanceMethod ({ cls := "ScapegoatSpur", name := "pointDepth", desc := "(II)I" } : MethodName)) ∈ ALL := all_mem 847 (by decide +kernel)
theorem k_848 : (Cond.selects "ScapegoatSpur" ({ cls := "ScapegoatSpur", name := "pointDepth", desc := "(II)I" } : MethodName) ({ cls := "ScapegoatSpur", name := "pointDepth", desc := "(II)I" } : MethodName)) ∈ ALL := all_mem 848 (by decide +kernel)
theorem k_849 : (Cond.code ({ cls := "ScapegoatSpur", name := "pointDepth", desc := "(II)I" } : MethodName) prog_1_method_27_code (4 : Nat) (Option.some Jvm.ClassFile.FieldType.int)) ∈ ALL := all_mem 849 (by decide +kernel)
theorem k_850 : (Cond.methodLink "ScapegoatSpur" (180 : Nat) ({ cls := "ScapegoatSpur$PointTree", name := "depthOf", desc := "(I)I" } : MethodName)) ∈ ALL := all_mem 850 (by decide +kernel)
theorem k_851 : (Cond.sameMethod "ScapegoatSpur$PointTree" "ScapegoatSpur$LazyTree" "depthOf" "(I)I") ∈ ALL := all_mem 851 (by decide +kernel)
theorem k_852 : (Cond.selects "ScapegoatSpur$PointTree" ({ cls := "ScapegoatSpur$PointTree", name := "depthOf", desc := "(I)I" } : MethodName) ({ cls := "ScapegoatSpur$LazyTree", name := "depthOf", desc := "(I)I" } : MethodName)) ∈ ALL := all_mem 852 (by decide +kernel)
theorem k_854 : (Cond.methodLink "ScapegoatSpurLaw" (170 : Nat) ({ cls := "ScapegoatSpurLaw", name := "countIn", desc := "(LScapegoatSpur;IIII[J)I" } : MethodName)) ∈ ALL := all_mem 854 (by decide +kernel)
theorem k_855 : (Cond.static ({ cls := "ScapegoatSpurLaw", name := "countIn", desc := "(LScapegoatSpur;IIII[J)I" } : MethodName)) ∈ ALL := all_mem 855 (by decide +kernel)
theorem k_857 : (Cond.methodLink "ScapegoatSpurLaw" (52 : Nat) ({ cls := "ScapegoatSpur", name := "countIn", desc := "(IIII)I" } : MethodName)) ∈ ALL := all_mem 857 (by decide +kernel)
theorem k_858 : (Cond.instanceMethod ({ cls := "ScapegoatSpur", name := "countIn", desc := "(IIII)I" } : MethodName)) ∈ ALL := all_mem 858 (by decide +kernel)
theorem k_859 : (Cond.selects "ScapegoatSpur" ({ cls := "ScapegoatSpur", name := "countIn", desc := "(IIII)I" } : MethodName) ({ cls := "ScapegoatSpur", name := "countIn", desc := "(IIII)I" } : MethodName)) ∈ ALL := all_mem 859 (by decide +kernel)
theorem k_860 : (Cond.code ({ cls := "ScapegoatSpur", name := "countIn", desc := "(IIII)I" } : MethodName) prog_1_method_29_code (5 : Nat) (Option.some Jvm.ClassFile.FieldType.int)) ∈ ALL := all_mem 860 (by decide +kernel)
theorem k_862 : (Cond.methodLink "ScapegoatSpur" (186 : Nat) ({ cls := "ScapegoatSpur$PointTree", name := "livingInBox", desc := "(IIII)I" } : MethodName)) ∈ ALL := all_mem 862 (by decide +kernel)
theorem k_863 : (Cond.instanceMethod ({ cls := "ScapegoatSpur$PointTree", name := "livingInBox", desc := "(IIII)I" } : MethodName)) ∈ ALL := all_mem 863 (by decide +kernel)
theorem k_864 : (Cond.selects "ScapegoatSpur$PointTree" ({ cls := "ScapegoatSpur$PointTree", name := "livingInBox", desc := "(IIII)I" } : MethodName) ({ cls := "ScapegoatSpur$PointTree", name := "livingInBox", desc := "(IIII)I" } : MethodName)) ∈ ALL := all_mem 864 (by decide +kernel)
theorem k_865 : (Cond.code ({ cls := "ScapegoatSpur$PointTree", name := "livingInBox", desc := "(IIII)I" } : MethodName) prog_7_method_8_code (9 : Nat) (Option.some Jvm.ClassFile.FieldType.int)) ∈ ALL := all_mem 865 (by decide +kernel)
theorem k_866 : (Cond.methodLink "ScapegoatSpur$PointTree" (48 : Nat) ({ cls := "ScapegoatSpur$PointTree", name := "livingNodes", desc := "()LScapegoatSpur$NodeRow;" } : MethodName)) ∈ ALL := all_mem 866 (by decide +kernel)
theorem k_867 : (Cond.sameMethod "ScapegoatSpur$PointTree" "ScapegoatSpur$LazyTree" "livingNodes" "()LScapegoatSpur$NodeRow;") ∈ ALL := all_mem 867 (by decide +kernel)
theorem k_869 : (Cond.selects "ScapegoatSpur$PointTree" ({ cls := "ScapegoatSpur$PointTree", name := "livingNodes", desc := "()LScapegoatSpur$NodeRow;" } : MethodName) ({ cls := "ScapegoatSpur$LazyTree", name := "livingNodes", desc := "()LScapegoatSpur$NodeRow;" } : MethodName)) ∈ ALL := all_mem 869 (by decide +kernel)
theorem k_870 : (Cond.instanceMethod ({ cls := "ScapegoatSpur$LazyTree", name := "livingNodes", desc := "()LScapegoatSpur$NodeRow;" } : MethodName)) ∈ ALL := all_mem 870 (by decide +kernel)
theorem k_871 : (Cond.code ({ cls := "ScapegoatSpur$LazyTree", name := "livingNodes", desc := "()LScapegoatSpur$NodeRow;" } : MethodName) prog_4_method_19_code (1 : Nat) (Option.some (Jvm.ClassFile.FieldType.object "ScapegoatSpur$NodeRow"))) ∈ ALL := all_mem 871 (by decide +kernel)
theorem k_872 : (Cond.methodLink "ScapegoatSpur$PointTree" (55 : Nat) ({ cls := "ScapegoatSpur$PointTree", name := "firstOf", desc := "(I)I" } : MethodName)) ∈ ALL := all_mem 872 (by decide +kernel)
theorem k_873 : (Cond.static ({ cls := "ScapegoatSpur$PointTree", name := "firstOf", desc := "(I)I" } : MethodName)) ∈ ALL := all_mem 873 (by decide +kernel)
theorem k_874 : (Cond.code ({ cls := "ScapegoatSpur$PointTree", name := "firstOf", desc := "(I)I" } : MethodName) prog_7_method_3_code (1 : Nat) (Option.some Jvm.ClassFile.FieldType.int)) ∈ ALL := all_mem 874 (by decide +kernel)
theorem k_875 : (Cond.methodLink "ScapegoatSpur$PointTree" (59 : Nat) ({ cls := "ScapegoatSpur$PointTree", name := "isBetween", desc := "(III)Z" } : MethodName)) ∈ ALL := all_mem 875 (by decide +kernel)
theorem k_876 : (Cond.static ({ cls := "ScapegoatSpur$PointTree", name := "isBetween", desc := "(III)Z" } : MethodName)) ∈ ALL := all_mem 876 (by decide +kernel)
theorem k_877 : (Cond.code ({ cls := "ScapegoatSpur$PointTree", name := "isBetween", desc := "(III)Z" } : MethodName) prog_7_method_9_code (3 : Nat) (Option.some Jvm.ClassFile.FieldType.boolean)) ∈ ALL := all_mem 877 (by decide +kernel)
theorem k_878 : (Cond.methodLink "ScapegoatSpur$PointTree" (63 : Nat) ({ cls := "ScapegoatSpur$PointTree", name := "secondOf", desc := "(I)I" } : MethodName)) ∈ ALL := all_mem 878 (by decide +kernel)
theorem k_879 : (Cond.static ({ cls := "ScapegoatSpur$PointTree", name := "secondOf", desc := "(I)I" } : MethodName)) ∈ ALL := all_mem 879 (by decide +kernel)
theorem k_880 : (Cond.code ({ cls := "ScapegoatSpur$PointTree", name := "secondOf", desc := "(I)I" } : MethodName) prog_7_method_4_code (1 : Nat) (Option.some Jvm.ClassFile.FieldType.int)) ∈ ALL := all_mem 880 (by decide +kernel)
theorem k_881 : (Cond.methodLink "ScapegoatSpurLaw" (174 : Nat) ({ cls := "ScapegoatSpurLaw", name := "nearest", desc := "(LScapegoatSpur;II[J)I" } : MethodName)) ∈ ALL := all_mem 881 (by decide +kernel)
theorem k_882 : (Cond.static ({ cls := "ScapegoatSpurLaw", name := "nearest", desc := "(LScapegoatSpur;II[J)I" } : MethodName)) ∈ ALL := all_mem 882 (by decide +kernel)
theorem k_884 : (Cond.methodLink "ScapegoatSpurLaw" (56 : Nat) ({ cls := "ScapegoatSpur", name := "nearest", desc := "(II)I" } : MethodName)) ∈ ALL := all_mem 884 (by decide +kernel)
theorem k_885 : (Cond.instanceMethod ({ cls := "ScapegoatSpur", name := "nearest", desc := "(II)I" } : MethodName)) ∈ ALL := all_mem 885 (by decide +kernel)
theorem k_886 : (Cond.selects "ScapegoatSpur" ({ cls := "ScapegoatSpur", name := "nearest", desc := "(II)I" } : MethodName) ({ cls := "ScapegoatSpur", name := "nearest", desc := "(II)I" } : MethodName)) ∈ ALL := all_mem 886 (by decide +kernel)
theorem k_887 : (Cond.code ({ cls := "ScapegoatSpur", name := "nearest", desc := "(II)I" } : MethodName) prog_1_method_30_code (4 : Nat) (Option.some Jvm.ClassFile.FieldType.int)) ∈ ALL := all_mem 887 (by decide +kernel)
theorem k_888 : (Cond.methodLink "ScapegoatSpur" (190 : Nat) ({ cls := "ScapegoatSpur$PointTree", name := "livingNearestTo", desc := "(II)I" } : MethodName)) ∈ ALL := all_mem 888 (by decide +kernel)
theorem k_889 : (Cond.instanceMethod ({ cls := "ScapegoatSpur$PointTree", name := "livingNearestTo", desc := "(II)I" } : MethodName)) ∈ ALL := all_mem 889 (by decide +kernel)
theorem k_890 : (Cond.selects "ScapegoatSpur$PointTree" ({ cls := "ScapegoatSpur$PointTree", name := "livingNearestTo", desc := "(II)I" } : MethodName) ({ cls := "ScapegoatSpur$PointTree", name := "livingNearestTo", desc := "(II)I" } : MethodName)) ∈ ALL := all_mem 890 (by decide +kernel)
theorem k_891 : (Cond.code ({ cls := "ScapegoatSpur$PointTree", name := "livingNearestTo", desc := "(II)I" } : MethodName) prog_7_method_10_code (9 : Nat) (Option.some Jvm.ClassFile.FieldType.int)) ∈ ALL := all_mem 891 (by decide +kernel)
theorem k_892 : (Cond.methodLink "ScapegoatSpur$PointTree" (66 : Nat) ({ cls := "ScapegoatSpur$PointTree", name := "squaredDistance", desc := "(III)I" } : MethodName)) ∈ ALL := all_mem 892 (by decide +kernel)
theorem k_893 : (Cond.static ({ cls := "ScapegoatSpur$PointTree", name := "squaredDistance", desc := "(III)I" } : MethodName)) ∈ ALL := all_mem 893 (by decide +kernel)
theorem k_894 : (Cond.code ({ cls := "ScapegoatSpur$PointTree", name := "squaredDistance", desc := "(III)I" } : MethodName) prog_7_method_11_code (5 : Nat) (Option.some Jvm.ClassFile.FieldType.int)) ∈ ALL := all_mem 894 (by decide +kernel)
theorem k_896 : (Cond.classLink "ScapegoatSpurLaw" (60 : Nat) "ScapegoatSpurModel") ∈ ALL := all_mem 896 (by decide +kernel)
theorem k_897 : (Cond.instantiable "ScapegoatSpurModel" (19 : Nat)) ∈ ALL := all_mem 897 (by decide +kernel)
theorem k_898 : (Cond.methodLink "ScapegoatSpurLaw" (62 : Nat) ({ cls := "ScapegoatSpurModel", name := "<init>", desc := "()V" } : MethodName)) ∈ ALL := all_mem 898 (by decide +kernel)
theorem k_899 : (Cond.instanceMethod ({ cls := "ScapegoatSpurModel", name := "<init>", desc := "()V" } : MethodName)) ∈ ALL := all_mem 899 (by decide +kernel)
theorem k_900 : (Cond.code ({ cls := "ScapegoatSpurModel", name := "<init>", desc := "()V" } : MethodName) prog_11_method_1_code (1 : Nat) (Option.none : Option Jvm.ClassFile.FieldType)) ∈ ALL := all_mem 900 (by decide +kernel)
theorem k_901 : (Cond.methodLink "ScapegoatSpurModel" (1 : Nat) ({ cls := "java/lang/Object", name := "<init>", desc := "()V" } : MethodName)) ∈ ALL := all_mem 901 (by decide +kernel)
theorem k_902 : (Cond.fieldLink "ScapegoatSpurModel" (60 : Nat) "ScapegoatSpurModel" "nodes" "I") ∈ ALL := all_mem 902 (by decide +kernel)
theorem k_903 : (Cond.fieldLink "ScapegoatSpurModel" (134 : Nat) "ScapegoatSpurModel" "drops" "I") ∈ ALL := all_mem 903 (by decide +kernel)
theorem k_904 : (Cond.fieldLink "ScapegoatSpurModel" (73 : Nat) "ScapegoatSpurModel" "rebuilt" "I") ∈ ALL := all_mem 904 (by decide +kernel)
theorem k_905 : (Cond.fieldLink "ScapegoatSpurModel" (90 : Nat) "ScapegoatSpurModel" "turns" "I") ∈ ALL := all_mem 905 (by decide +kernel)
theorem k_906 : (Cond.fieldLink "ScapegoatSpurModel" (83 : Nat) "ScapegoatSpurModel" "merges" "I") ∈ ALL := all_mem 906 (by decide +kernel)
theorem k_907 : (Cond.fieldLink "ScapegoatSpurModel" (7 : Nat) "ScapegoatSpurModel" "key" "[I") ∈ ALL := all_mem 907 (by decide +kernel)
theorem k_908 : (Cond.fieldLink "ScapegoatSpurModel" (13 : Nat) "ScapegoatSpurModel" "isAlive" "[Z") ∈ ALL := all_mem 908 (by decide +kernel)
theorem k_909 : (Cond.fieldLink "ScapegoatSpurModel" (17 : Nat) "ScapegoatSpurModel" "spot" "[I") ∈ ALL := all_mem 909 (by decide +kernel)
theorem k_910 : (Cond.fieldLink "ScapegoatSpurModel" (20 : Nat) "ScapegoatSpurModel" "turning" "[I") ∈ ALL := all_mem 910 (by decide +kernel)
theorem k_911 : (Cond.fieldLink "ScapegoatSpurModel" (23 : Nat) "ScapegoatSpurModel" "part" "[I") ∈ ALL := all_mem 911 (by decide +kernel)
theorem k_912 : (Cond.fieldLink "ScapegoatSpurModel" (149 : Nat) "ScapegoatSpurModel" "pointNodes" "I") ∈ ALL := all_mem 912 (by decide +kernel)
theorem k_913 : (Cond.fieldLink "ScapegoatSpurModel" (165 : Nat) "ScapegoatSpurModel" "pointsRebuilt" "I") ∈ ALL := all_mem 913 (by decide +kernel)
theorem k_914 : (Cond.fieldLink "ScapegoatSpurModel" (26 : Nat) "ScapegoatSpurModel" "first" "[I") ∈ ALL := all_mem 914 (by decide +kernel)
theorem k_915 : (Cond.fieldLink "ScapegoatSpurModel" (29 : Nat) "ScapegoatSpurModel" "second" "[I") ∈ ALL := all_mem 915 (by decide +kernel)
theorem k_916 : (Cond.fieldLink "ScapegoatSpurModel" (32 : Nat) "ScapegoatSpurModel" "isPointAlive" "[Z") ∈ ALL := all_mem 916 (by decide +kernel)
theorem k_917 : (Cond.fieldLink "ScapegoatSpurModel" (35 : Nat) "ScapegoatSpurModel" "pointSpot" "[I") ∈ ALL := all_mem 917 (by decide +kernel)
theorem k_918 : (Cond.fieldLink "ScapegoatSpurModel" (38 : Nat) "ScapegoatSpurModel" "isOpen" "[Z") ∈ ALL := all_mem 918 (by decide +kernel)
theorem k_919 : (Cond.fieldLink "ScapegoatSpurModel" (41 : Nat) "ScapegoatSpurModel" "next" "[I") ∈ ALL := all_mem 919 (by decide +kernel)
theorem k_920 : (Cond.fieldLink "ScapegoatSpurModel" (44 : Nat) "ScapegoatSpurModel" "thrown" "I") ∈ ALL := all_mem 920 (by decide +kernel)
theorem k_960 : (Cond.arrayClass Jvm.ClassFile.FieldType.int) ∈ ALL := all_mem 960 (by decide +kernel)
theorem k_961 : (Cond.arrayClass Jvm.ClassFile.FieldType.boolean) ∈ ALL := all_mem 961 (by decide +kernel)
theorem k_962 : (Cond.methodLink "ScapegoatSpurLaw" (69 : Nat) ({ cls := "ScapegoatSpurModel", name := "thrown", desc := "()I" } : MethodName)) ∈ ALL := all_mem 962 (by decide +kernel)
theorem k_963 : (Cond.instanceMethod ({ cls := "ScapegoatSpurModel", name := "thrown", desc := "()I" } : MethodName)) ∈ ALL := all_mem 963 (by decide +kernel)
theorem k_964 : (Cond.selects "ScapegoatSpurModel" ({ cls := "ScapegoatSpurModel", name := "thrown", desc := "()I" } : MethodName) ({ cls := "ScapegoatSpurModel", name := "thrown", desc := "()I" } : MethodName)) ∈ ALL := all_mem 964 (by decide +kernel)
theorem k_965 : (Cond.code ({ cls := "ScapegoatSpurModel", name := "thrown", desc := "()I" } : MethodName) prog_11_method_2_code (1 : Nat) (Option.some Jvm.ClassFile.FieldType.int)) ∈ ALL := all_mem 965 (by decide +kernel)
theorem k_966 : (Cond.methodLink "ScapegoatSpurLaw" (68 : Nat) ({ cls := "ScapegoatSpurModel", name := "add", desc := "(I)Z" } : MethodName)) ∈ ALL := all_mem 966 (by decide +kernel)
theorem k_967 : (Cond.instanceMethod ({ cls := "ScapegoatSpurModel", name := "add", desc := "(I)Z" } : MethodName)) ∈ ALL := all_mem 967 (by decide +kernel)
theorem k_968 : (Cond.selects "ScapegoatSpurModel" ({ cls := "ScapegoatSpurModel", name := "add", desc := "(I)Z" } : MethodName) ({ cls := "ScapegoatSpurModel", name := "add", desc := "(I)Z" } : MethodName)) ∈ ALL := all_mem 968 (by decide +kernel)
theorem k_969 : (Cond.code ({ cls := "ScapegoatSpurModel", name := "add", desc := "(I)Z" } : MethodName) prog_11_method_25_code (6 : Nat) (Option.some Jvm.ClassFile.FieldType.boolean)) ∈ ALL := all_mem 969 (by decide +kernel)
theorem k_970 : (Cond.methodLink "ScapegoatSpurModel" (110 : Nat) ({ cls := "ScapegoatSpurModel", name := "nodeOf", desc := "(I)I" } : MethodName)) ∈ ALL := all_mem 970 (by decide +kernel)
theorem k_972 : (Cond.instanceMethod ({ cls := "ScapegoatSpurModel", name := "nodeOf", desc := "(I)I" } : MethodName)) ∈ ALL := all_mem 972 (by decide +kernel)
theorem k_973 : (Cond.code ({ cls := "ScapegoatSpurModel", name := "nodeOf", desc := "(I)I" } : MethodName) prog_11_method_11_code (4 : Nat) (Option.some Jvm.ClassFile.FieldType.int)) ∈ ALL := all_mem 973 (by decide +kernel)
theorem k_974 : (Cond.methodLink "ScapegoatSpurModel" (113 : Nat) ({ cls := "ScapegoatSpurModel", name := "living", desc := "()I" } : MethodName)) ∈ ALL := all_mem 974 (by decide +kernel)
theorem k_976 : (Cond.instanceMethod ({ cls := "ScapegoatSpurModel", name := "living", desc := "()I" } : MethodName)) ∈ ALL := all_mem 976 (by decide +kernel)
theorem k_977 : (Cond.code ({ cls := "ScapegoatSpurModel", name := "living", desc := "()I" } : MethodName) prog_11_method_12_code (3 : Nat) (Option.some Jvm.ClassFile.FieldType.int)) ∈ ALL := all_mem 977 (by decide +kernel)
theorem k_978 : (Cond.methodLink "ScapegoatSpurModel" (117 : Nat) ({ cls := "ScapegoatSpurModel", name := "can", desc := "(I)Z" } : MethodName)) ∈ ALL := all_mem 978 (by decide +kernel)
theorem k_980 : (Cond.instanceMethod ({ cls := "ScapegoatSpurModel", name := "can", desc := "(I)Z" } : MethodName)) ∈ ALL := all_mem 980 (by decide +kernel)
theorem k_981 : (Cond.code ({ cls := "ScapegoatSpurModel", name := "can", desc := "(I)Z" } : MethodName) prog_11_method_3_code (2 : Nat) (Option.some Jvm.ClassFile.FieldType.boolean)) ∈ ALL := all_mem 981 (by decide +kernel)
theorem k_982 : (Cond.methodLink "ScapegoatSpurModel" (121 : Nat) ({ cls := "ScapegoatSpurModel", name := "grows", desc := "(I)V" } : MethodName)) ∈ ALL := all_mem 982 (by decide +kernel)
theorem k_984 : (Cond.instanceMethod ({ cls := "ScapegoatSpurModel", name := "grows", desc := "(I)V" } : MethodName)) ∈ ALL := all_mem 984 (by decide +kernel)
theorem k_985 : (Cond.code ({ cls := "ScapegoatSpurModel", name := "grows", desc := "(I)V" } : MethodName) prog_11_method_23_code (3 : Nat) (Option.none : Option Jvm.ClassFile.FieldType)) ∈ ALL := all_mem 985 (by decide +kernel)
theorem k_986 : (Cond.methodLink "ScapegoatSpurModel" (103 : Nat) ({ cls := "ScapegoatSpurModel", name := "leaf", desc := "([II)I" } : MethodName)) ∈ ALL := all_mem 986 (by decide +kernel)
theorem k_988 : (Cond.instanceMethod ({ cls := "ScapegoatSpurModel", name := "leaf", desc := "([II)I" } : MethodName)) ∈ ALL := all_mem 988 (by decide +kernel)
theorem k_989 : (Cond.code ({ cls := "ScapegoatSpurModel", name := "leaf", desc := "([II)I" } : MethodName) prog_11_method_14_code (5 : Nat) (Option.some Jvm.ClassFile.FieldType.int)) ∈ ALL := all_mem 989 (by decide +kernel)
theorem k_990 : (Cond.methodLink "ScapegoatSpurModel" (63 : Nat) ({ cls := "ScapegoatSpurModel", name := "nodeAt", desc := "([III)I" } : MethodName)) ∈ ALL := all_mem 990 (by decide +kernel)
theorem k_991 : (Cond.static ({ cls := "ScapegoatSpurModel", name := "nodeAt", desc := "([III)I" } : MethodName)) ∈ ALL := all_mem 991 (by decide +kernel)
theorem k_992 : (Cond.code ({ cls := "ScapegoatSpurModel", name := "nodeAt", desc := "([III)I" } : MethodName) prog_11_method_8_code (5 : Nat) (Option.some Jvm.ClassFile.FieldType.int)) ∈ ALL := all_mem 992 (by decide +kernel)
theorem k_993 : (Cond.methodLink "ScapegoatSpurModel" (107 : Nat) ({ cls := "ScapegoatSpurModel", name := "balancesAbove", desc := "(I)V" } : MethodName)) ∈ ALL := all_mem 993 (by decide +kernel)
theorem k_995 : (Cond.instanceMethod ({ cls := "ScapegoatSpurModel", name := "balancesAbove", desc := "(I)V" } : MethodName)) ∈ ALL := all_mem 995 (by decide +kernel)
theorem k_996 : (Cond.code ({ cls := "ScapegoatSpurModel", name := "balancesAbove", desc := "(I)V" } : MethodName) prog_11_method_22_code (3 : Nat) (Option.none : Option Jvm.ClassFile.FieldType)) ∈ ALL := all_mem 996 (by decide +kernel)
theorem k_997 : (Cond.methodLink "ScapegoatSpurModel" (100 : Nat) ({ cls := "ScapegoatSpurModel", name := "balance", desc := "(I)V" } : MethodName)) ∈ ALL := all_mem 997 (by decide +kernel)
theorem k_999 : (Cond.instanceMethod ({ cls := "ScapegoatSpurModel", name := "balance", desc := "(I)V" } : MethodName)) ∈ ALL := all_mem 999 (by decide +kernel)
theorem k_1000 : (Cond.code ({ cls := "ScapegoatSpurModel", name := "balance", desc := "(I)V" } : MethodName) prog_11_method_21_code (4 : Nat) (Option.none : Option Jvm.ClassFile.FieldType)) ∈ ALL := all_mem 1000 (by decide +kernel)
theorem k_1001 : (Cond.methodLink "ScapegoatSpurModel" (93 : Nat) ({ cls := "ScapegoatSpurModel", name := "load", desc := "(I)I" } : MethodName)) ∈ ALL := all_mem 1001 (by decide +kernel)
theorem k_1003 : (Cond.instanceMethod ({ cls := "ScapegoatSpurModel", name := "load", desc := "(I)I" } : MethodName)) ∈ ALL := all_mem 1003 (by decide +kernel)
theorem k_1004 : (Cond.code ({ cls := "ScapegoatSpurModel", name := "load", desc := "(I)I" } : MethodName) prog_11_method_19_code (2 : Nat) (Option.some Jvm.ClassFile.FieldType.int)) ∈ ALL := all_mem 1004 (by decide +kernel)
theorem k_1005 : (Cond.methodLink "ScapegoatSpurModel" (67 : Nat) ({ cls := "ScapegoatSpurModel", name := "weightAt", desc := "([III)I" } : MethodName)) ∈ ALL := all_mem 1005 (by decide +kernel)
theorem k_1006 : (Cond.static ({ cls := "ScapegoatSpurModel", name := "weightAt", desc := "([III)I" } : MethodName)) ∈ ALL := all_mem 1006 (by decide +kernel)
theorem k_1007 : (Cond.code ({ cls := "ScapegoatSpurModel", name := "weightAt", desc := "([III)I" } : MethodName) prog_11_method_7_code (5 : Nat) (Option.some Jvm.ClassFile.FieldType.int)) ∈ ALL := all_mem 1007 (by decide +kernel)
theorem k_1008 : (Cond.methodLink "ScapegoatSpurModel" (52 : Nat) ({ cls := "ScapegoatSpurModel", name := "isBelow", desc := "(II)Z" } : MethodName)) ∈ ALL := all_mem 1008 (by decide +kernel)
theorem k_1009 : (Cond.static ({ cls := "ScapegoatSpurModel", name := "isBelow", desc := "(II)Z" } : MethodName)) ∈ ALL := all_mem 1009 (by decide +kernel)
theorem k_1010 : (Cond.code ({ cls := "ScapegoatSpurModel", name := "isBelow", desc := "(II)Z" } : MethodName) prog_11_method_5_code (2 : Nat) (Option.some Jvm.ClassFile.FieldType.boolean)) ∈ ALL := all_mem 1010 (by decide +kernel)
theorem k_1011 : (Cond.methodLink "ScapegoatSpurModel" (48 : Nat) ({ cls := "ScapegoatSpurModel", name := "depthOf", desc := "(I)I" } : MethodName)) ∈ ALL := all_mem 1011 (by decide +kernel)
theorem k_1012 : (Cond.static ({ cls := "ScapegoatSpurModel", name := "depthOf", desc := "(I)I" } : MethodName)) ∈ ALL := all_mem 1012 (by decide +kernel)
theorem k_1013 : (Cond.code ({ cls := "ScapegoatSpurModel", name := "depthOf", desc := "(I)I" } : MethodName) prog_11_method_4_code (3 : Nat) (Option.some Jvm.ClassFile.FieldType.int)) ∈ ALL := all_mem 1013 (by decide +kernel)
theorem k_1014 : (Cond.methodLink "ScapegoatSpurModel" (96 : Nat) ({ cls := "ScapegoatSpurModel", name := "turn", desc := "(IZ)V" } : MethodName)) ∈ ALL := all_mem 1014 (by decide +kernel)
theorem k_1016 : (Cond.instanceMethod ({ cls := "ScapegoatSpurModel", name := "turn", desc := "(IZ)V" } : MethodName)) ∈ ALL := all_mem 1016 (by decide +kernel)
theorem k_1017 : (Cond.code ({ cls := "ScapegoatSpurModel", name := "turn", desc := "(IZ)V" } : MethodName) prog_11_method_20_code (9 : Nat) (Option.none : Option Jvm.ClassFile.FieldType)) ∈ ALL := all_mem 1017 (by decide +kernel)
theorem k_1018 : (Cond.methodLink "ScapegoatSpurModel" (86 : Nat) ({ cls := "ScapegoatSpurModel", name := "moved", desc := "(III)I" } : MethodName)) ∈ ALL := all_mem 1018 (by decide +kernel)
theorem k_1019 : (Cond.static ({ cls := "ScapegoatSpurModel", name := "moved", desc := "(III)I" } : MethodName)) ∈ ALL := all_mem 1019 (by decide +kernel)
theorem k_1020 : (Cond.code ({ cls := "ScapegoatSpurModel", name := "moved", desc := "(III)I" } : MethodName) prog_11_method_6_code (4 : Nat) (Option.some Jvm.ClassFile.FieldType.int)) ∈ ALL := all_mem 1020 (by decide +kernel)
theorem k_1021 : (Cond.methodLink "ScapegoatSpurModel" (124 : Nat) ({ cls := "ScapegoatSpurModel", name := "copies", desc := "(II)V" } : MethodName)) ∈ ALL := all_mem 1021 (by decide +kernel)
theorem k_1023 : (Cond.instanceMethod ({ cls := "ScapegoatSpurModel", name := "copies", desc := "(II)V" } : MethodName)) ∈ ALL := all_mem 1023 (by decide +kernel)
theorem k_1024 : (Cond.code ({ cls := "ScapegoatSpurModel", name := "copies", desc := "(II)V" } : MethodName) prog_11_method_13_code (3 : Nat) (Option.none : Option Jvm.ClassFile.FieldType)) ∈ ALL := all_mem 1024 (by decide +kernel)
theorem k_1025 : (Cond.methodLink "ScapegoatSpurModel" (128 : Nat) ({ cls := "ScapegoatSpurModel", name := "growTree", desc := "(I)V" } : MethodName)) ∈ ALL := all_mem 1025 (by decide +kernel)
theorem k_1027 : (Cond.instanceMethod ({ cls := "ScapegoatSpurModel", name := "growTree", desc := "(I)V" } : MethodName)) ∈ ALL := all_mem 1027 (by decide +kernel)
theorem k_1028 : (Cond.code ({ cls := "ScapegoatSpurModel", name := "growTree", desc := "(I)V" } : MethodName) prog_11_method_16_code (4 : Nat) (Option.none : Option Jvm.ClassFile.FieldType)) ∈ ALL := all_mem 1028 (by decide +kernel)
theorem k_1029 : (Cond.methodLink "ScapegoatSpurModel" (70 : Nat) ({ cls := "ScapegoatSpurModel", name := "boundOf", desc := "(I)I" } : MethodName)) ∈ ALL := all_mem 1029 (by decide +kernel)
theorem k_1030 : (Cond.static ({ cls := "ScapegoatSpurModel", name := "boundOf", desc := "(I)I" } : MethodName)) ∈ ALL := all_mem 1030 (by decide +kernel)
theorem k_1031 : (Cond.code ({ cls := "ScapegoatSpurModel", name := "boundOf", desc := "(I)I" } : MethodName) prog_11_method_10_code (6 : Nat) (Option.some Jvm.ClassFile.FieldType.int)) ∈ ALL := all_mem 1031 (by decide +kernel)
theorem k_1032 : (Cond.constantLong "ScapegoatSpurModel" (56 : Nat) (3 : Int64)) ∈ ALL := all_mem 1032 (by decide +kernel)
theorem k_1033 : (Cond.constantLong "ScapegoatSpurModel" (58 : Nat) (2 : Int64)) ∈ ALL := all_mem 1033 (by decide +kernel)
theorem k_1034 : (Cond.methodLink "ScapegoatSpurModel" (76 : Nat) ({ cls := "ScapegoatSpurModel", name := "layOut", desc := "(I)V" } : MethodName)) ∈ ALL := all_mem 1034 (by decide +kernel)
theorem k_1036 : (Cond.instanceMethod ({ cls := "ScapegoatSpurModel", name := "layOut", desc := "(I)V" } : MethodName)) ∈ ALL := all_mem 1036 (by decide +kernel)
theorem k_1037 : (Cond.code ({ cls := "ScapegoatSpurModel", name := "layOut", desc := "(I)V" } : MethodName) prog_11_method_15_code (9 : Nat) (Option.none : Option Jvm.ClassFile.FieldType)) ∈ ALL := all_mem 1037 (by decide +kernel)
theorem k_1038 : (Cond.methodLink "ScapegoatSpurModel" (131 : Nat) ({ cls := "ScapegoatSpurModel", name := "growParts", desc := "()V" } : MethodName)) ∈ ALL := all_mem 1038 (by decide +kernel)
theorem k_1040 : (Cond.instanceMethod ({ cls := "ScapegoatSpurModel", name := "growParts", desc := "()V" } : MethodName)) ∈ ALL := all_mem 1040 (by decide +kernel)
theorem k_1041 : (Cond.code ({ cls := "ScapegoatSpurModel", name := "growParts", desc := "()V" } : MethodName) prog_11_method_18_code (3 : Nat) (Option.none : Option Jvm.ClassFile.FieldType)) ∈ ALL := all_mem 1041 (by decide +kernel)
theorem k_1042 : (Cond.methodLink "ScapegoatSpurModel" (80 : Nat) ({ cls := "ScapegoatSpurModel", name := "inPart", desc := "(I)I" } : MethodName)) ∈ ALL := all_mem 1042 (by decide +kernel)
theorem k_1044 : (Cond.instanceMethod ({ cls := "ScapegoatSpurModel", name := "inPart", desc := "(I)I" } : MethodName)) ∈ ALL := all_mem 1044 (by decide +kernel)
theorem k_1045 : (Cond.code ({ cls := "ScapegoatSpurModel", name := "inPart", desc := "(I)I" } : MethodName) prog_11_method_17_code (4 : Nat) (Option.some Jvm.ClassFile.FieldType.int)) ∈ ALL := all_mem 1045 (by decide +kernel)
theorem k_1046 : (Cond.methodLink "ScapegoatSpurLaw" (75 : Nat) ({ cls := "ScapegoatSpurModel", name := "remove", desc := "(I)Z" } : MethodName)) ∈ ALL := all_mem 1046 (by decide +kernel)
theorem k_1047 : (Cond.instanceMethod ({ cls := "ScapegoatSpurModel", name := "remove", desc := "(I)Z" } : MethodName)) ∈ ALL := all_mem 1047 (by decide +kernel)
theorem k_1048 : (Cond.selects "ScapegoatSpurModel" ({ cls := "ScapegoatSpurModel", name := "remove", desc := "(I)Z" } : MethodName) ({ cls := "ScapegoatSpurModel", name := "remove", desc := "(I)Z" } : MethodName)) ∈ ALL := all_mem 1048 (by decide +kernel)
theorem k_1049 : (Cond.code ({ cls := "ScapegoatSpurModel", name := "remove", desc := "(I)Z" } : MethodName) prog_11_method_27_code (3 : Nat) (Option.some Jvm.ClassFile.FieldType.boolean)) ∈ ALL := all_mem 1049 (by decide +kernel)
theorem k_1050 : (Cond.methodLink "ScapegoatSpurModel" (137 : Nat) ({ cls := "ScapegoatSpurModel", name := "leaves", desc := "(I)V" } : MethodName)) ∈ ALL := all_mem 1050 (by decide +kernel)
theorem k_1052 : (Cond.instanceMethod ({ cls := "ScapegoatSpurModel", name := "leaves", desc := "(I)V" } : MethodName)) ∈ ALL := all_mem 1052 (by decide +kernel)
theorem k_1053 : (Cond.code ({ cls := "ScapegoatSpurModel", name := "leaves", desc := "(I)V" } : MethodName) prog_11_method_24_code (9 : Nat) (Option.none : Option Jvm.ClassFile.FieldType)) ∈ ALL := all_mem 1053 (by decide +kernel)
theorem k_1054 : (Cond.methodLink "ScapegoatSpurModel" (140 : Nat) ({ cls := "ScapegoatSpurModel", name := "drop", desc := "()V" } : MethodName)) ∈ ALL := all_mem 1054 (by decide +kernel)
theorem k_1056 : (Cond.instanceMethod ({ cls := "ScapegoatSpurModel", name := "drop", desc := "()V" } : MethodName)) ∈ ALL := all_mem 1056 (by decide +kernel)
theorem k_1057 : (Cond.code ({ cls := "ScapegoatSpurModel", name := "drop", desc := "()V" } : MethodName) prog_11_method_26_code (5 : Nat) (Option.none : Option Jvm.ClassFile.FieldType)) ∈ ALL := all_mem 1057 (by decide +kernel)
theorem k_1058 : (Cond.methodLink "ScapegoatSpurLaw" (79 : Nat) ({ cls := "ScapegoatSpurModel", name := "contains", desc := "(I)Z" } : MethodName)) ∈ ALL := all_mem 1058 (by decide +kernel)
theorem k_1059 : (Cond.instanceMethod ({ cls := "ScapegoatSpurModel", name := "contains", desc := "(I)Z" } : MethodName)) ∈ ALL := all_mem 1059 (by decide +kernel)
theorem k_1060 : (Cond.selects "ScapegoatSpurModel" ({ cls := "ScapegoatSpurModel", name := "contains", desc := "(I)Z" } : MethodName) ({ cls := "ScapegoatSpurModel", name := "contains", desc := "(I)Z" } : MethodName)) ∈ ALL := all_mem 1060 (by decide +kernel)
theorem k_1061 : (Cond.code ({ cls := "ScapegoatSpurModel", name := "contains", desc := "(I)Z" } : MethodName) prog_11_method_28_code (3 : Nat) (Option.some Jvm.ClassFile.FieldType.boolean)) ∈ ALL := all_mem 1061 (by decide +kernel)
theorem k_1062 : (Cond.methodLink "ScapegoatSpurLaw" (83 : Nat) ({ cls := "ScapegoatSpurModel", name := "size", desc := "()I" } : MethodName)) ∈ ALL := all_mem 1062 (by decide +kernel)
theorem k_1063 : (Cond.instanceMethod ({ cls := "ScapegoatSpurModel", name := "size", desc := "()I" } : MethodName)) ∈ ALL := all_mem 1063 (by decide +kernel)
theorem k_1064 : (Cond.selects "ScapegoatSpurModel" ({ cls := "ScapegoatSpurModel", name := "size", desc := "()I" } : MethodName) ({ cls := "ScapegoatSpurModel", name := "size", desc := "()I" } : MethodName)) ∈ ALL := all_mem 1064 (by decide +kernel)
theorem k_1065 : (Cond.code ({ cls := "ScapegoatSpurModel", name := "size", desc := "()I" } : MethodName) prog_11_method_29_code (1 : Nat) (Option.some Jvm.ClassFile.FieldType.int)) ∈ ALL := all_mem 1065 (by decide +kernel)
theorem k_1066 : (Cond.methodLink "ScapegoatSpurLaw" (87 : Nat) ({ cls := "ScapegoatSpurModel", name := "rank", desc := "(I)I" } : MethodName)) ∈ ALL := all_mem 1066 (by decide +kernel)
theorem k_1067 : (Cond.instanceMethod ({ cls := "ScapegoatSpurModel", name := "rank", desc := "(I)I" } : MethodName)) ∈ ALL := all_mem 1067 (by decide +kernel)
theorem k_1068 : (Cond.selects "ScapegoatSpurModel" ({ cls := "ScapegoatSpurModel", name := "rank", desc := "(I)I" } : MethodName) ({ cls := "ScapegoatSpurModel", name := "rank", desc := "(I)I" } : MethodName)) ∈ ALL := all_mem 1068 (by decide +kernel)
theorem k_1069 : (Cond.code ({ cls := "ScapegoatSpurModel", name := "rank", desc := "(I)I" } : MethodName) prog_11_method_30_code (4 : Nat) (Option.some Jvm.ClassFile.FieldType.int)) ∈ ALL := all_mem 1069 (by decide +kernel)
theorem k_1070 : (Cond.methodLink "ScapegoatSpurLaw" (90 : Nat) ({ cls := "ScapegoatSpurModel", name := "keyAt", desc := "(I)I" } : MethodName)) ∈ ALL := all_mem 1070 (by decide +kernel)
theorem k_1071 : (Cond.instanceMethod ({ cls := "ScapegoatSpurModel", name := "keyAt", desc := "(I)I" } : MethodName)) ∈ ALL := all_mem 1071 (by decide +kernel)
theorem k_1072 : (Cond.selects "ScapegoatSpurModel" ({ cls := "ScapegoatSpurModel", name := "keyAt", desc := "(I)I" } : MethodName) ({ cls := "ScapegoatSpurModel", name := "keyAt", desc := "(I)I" } : MethodName)) ∈ ALL := all_mem 1072 (by decide +kernel)
theorem k_1073 : (Cond.code ({ cls := "ScapegoatSpurModel", name := "keyAt", desc := "(I)I" } : MethodName) prog_11_method_31_code (4 : Nat) (Option.some Jvm.ClassFile.FieldType.int)) ∈ ALL := all_mem 1073 (by decide +kernel)
theorem k_1074 : (Cond.methodLink "ScapegoatSpurLaw" (94 : Nat) ({ cls := "ScapegoatSpurModel", name := "nodes", desc := "()I" } : MethodName)) ∈ ALL := all_mem 1074 (by decide +kernel)
theorem k_1075 : (Cond.instanceMethod ({ cls := "ScapegoatSpurModel", name := "nodes", desc := "()I" } : MethodName)) ∈ ALL := all_mem 1075 (by decide +kernel)
theorem k_1076 : (Cond.selects "ScapegoatSpurModel" ({ cls := "ScapegoatSpurModel", name := "nodes", desc := "()I" } : MethodName) ({ cls := "ScapegoatSpurModel", name := "nodes", desc := "()I" } : MethodName)) ∈ ALL := all_mem 1076 (by decide +kernel)
theorem k_1077 : (Cond.code ({ cls := "ScapegoatSpurModel", name := "nodes", desc := "()I" } : MethodName) prog_11_method_32_code (1 : Nat) (Option.some Jvm.ClassFile.FieldType.int)) ∈ ALL := all_mem 1077 (by decide +kernel)
theorem k_1078 : (Cond.methodLink "ScapegoatSpurLaw" (98 : Nat) ({ cls := "ScapegoatSpurModel", name := "bound", desc := "()I" } : MethodName)) ∈ ALL := all_mem 1078 (by decide +kernel)
theorem k_1079 : (Cond.instanceMethod ({ cls := "ScapegoatSpurModel", name := "bound", desc := "()I" } : MethodName)) ∈ ALL := all_mem 1079 (by decide +kernel)
theorem k_1080 : (Cond.selects "ScapegoatSpurModel" ({ cls := "ScapegoatSpurModel", name := "bound", desc := "()I" } : MethodName) ({ cls := "ScapegoatSpurModel", name := "bound", desc := "()I" } : MethodName)) ∈ ALL := all_mem 1080 (by decide +kernel)
theorem k_1081 : (Cond.code ({ cls := "ScapegoatSpurModel", name := "bound", desc := "()I" } : MethodName) prog_11_method_33_code (1 : Nat) (Option.some Jvm.ClassFile.FieldType.int)) ∈ ALL := all_mem 1081 (by decide +kernel)
theorem k_1082 : (Cond.methodLink "ScapegoatSpurLaw" (102 : Nat) ({ cls := "ScapegoatSpurModel", name := "height", desc := "()I" } : MethodName)) ∈ ALL := all_mem 1082 (by decide +kernel)
theorem k_1083 : (Cond.instanceMethod ({ cls := "ScapegoatSpurModel", name := "height", desc := "()I" } : MethodName)) ∈ ALL := all_mem 1083 (by decide +kernel)
theorem k_1084 : (Cond.selects "ScapegoatSpurModel" ({ cls := "ScapegoatSpurModel", name := "height", desc := "()I" } : MethodName) ({ cls := "ScapegoatSpurModel", name := "height", desc := "()I" } : MethodName)) ∈ ALL := all_mem 1084 (by decide +kernel)
theorem k_1085 : (Cond.code ({ cls := "ScapegoatSpurModel", name := "height", desc := "()I" } : MethodName) prog_11_method_34_code (1 : Nat) (Option.some Jvm.ClassFile.FieldType.int)) ∈ ALL := all_mem 1085 (by decide +kernel)
theorem k_1086 : (Cond.methodLink "ScapegoatSpurModel" (143 : Nat) ({ cls := "ScapegoatSpurModel", name := "heightOf", desc := "([II)I" } : MethodName)) ∈ ALL := all_mem 1086 (by decide +kernel)
theorem k_1087 : (Cond.static ({ cls := "ScapegoatSpurModel", name := "heightOf", desc := "([II)I" } : MethodName)) ∈ ALL := all_mem 1087 (by decide +kernel)
theorem k_1088 : (Cond.code ({ cls := "ScapegoatSpurModel", name := "heightOf", desc := "([II)I" } : MethodName) prog_11_method_9_code (4 : Nat) (Option.some Jvm.ClassFile.FieldType.int)) ∈ ALL := all_mem 1088 (by decide +kernel)
theorem k_1089 : (Cond.methodLink "ScapegoatSpurLaw" (105 : Nat) ({ cls := "ScapegoatSpurModel", name := "depth", desc := "(I)I" } : MethodName)) ∈ ALL := all_mem 1089 (by decide +kernel)
theorem k_1090 : (Cond.instanceMethod ({ cls := "ScapegoatSpurModel", name := "depth", desc := "(I)I" } : MethodName)) ∈ ALL := all_mem 1090 (by decide +kernel)
theorem k_1091 : (Cond.selects "ScapegoatSpurModel" ({ cls := "ScapegoatSpurModel", name := "depth", desc := "(I)I" } : MethodName) ({ cls := "ScapegoatSpurModel", name := "depth", desc := "(I)I" } : MethodName)) ∈ ALL := all_mem 1091 (by decide +kernel)
theorem k_1092 : (Cond.code ({ cls := "ScapegoatSpurModel", name := "depth", desc := "(I)I" } : MethodName) prog_11_method_36_code (2 : Nat) (Option.some Jvm.ClassFile.FieldType.int)) ∈ ALL := all_mem 1092 (by decide +kernel)
theorem k_1093 : (Cond.methodLink "ScapegoatSpurModel" (146 : Nat) ({ cls := "ScapegoatSpurModel", name := "isNode", desc := "(I)Z" } : MethodName)) ∈ ALL := all_mem 1093 (by decide +kernel)
theorem k_1095 : (Cond.instanceMethod ({ cls := "ScapegoatSpurModel", name := "isNode", desc := "(I)Z" } : MethodName)) ∈ ALL := all_mem 1095 (by decide +kernel)
theorem k_1096 : (Cond.code ({ cls := "ScapegoatSpurModel", name := "isNode", desc := "(I)Z" } : MethodName) prog_11_method_35_code (2 : Nat) (Option.some Jvm.ClassFile.FieldType.boolean)) ∈ ALL := all_mem 1096 (by decide +kernel)
theorem k_1097 : (Cond.methodLink "ScapegoatSpurLaw" (108 : Nat) ({ cls := "ScapegoatSpurModel", name := "weight", desc := "(I)I" } : MethodName)) ∈ ALL := all_mem 1097 (by decide +kernel)
theorem k_1098 : (Cond.instanceMethod ({ cls := "ScapegoatSpurModel", name := "weight", desc := "(I)I" } : MethodName)) ∈ ALL := all_mem 1098 (by decide +kernel)
theorem k_1099 : (Cond.selects "ScapegoatSpurModel" ({ cls := "ScapegoatSpurModel", name := "weight", desc := "(I)I" } : MethodName) ({ cls := "ScapegoatSpurModel", name := "weight", desc := "(I)I" } : MethodName)) ∈ ALL := all_mem 1099 (by decide +kernel)
theorem k_1100 : (Cond.code ({ cls := "ScapegoatSpurModel", name := "weight", desc := "(I)I" } : MethodName) prog_11_method_37_code (2 : Nat) (Option.some Jvm.ClassFile.FieldType.int)) ∈ ALL := all_mem 1100 (by decide +kernel)
theorem k_1101 : (Cond.methodLink "ScapegoatSpurLaw" (112 : Nat) ({ cls := "ScapegoatSpurModel", name := "rebuilt", desc := "()I" } : MethodName)) ∈ ALL := all_mem 1101 (by decide +kernel)
theorem k_1102 : (Cond.instanceMethod ({ cls := "ScapegoatSpurModel", name := "rebuilt", desc := "()I" } : MethodName)) ∈ ALL := all_mem 1102 (by decide +kernel)
theorem k_1103 : (Cond.selects "ScapegoatSpurModel" ({ cls := "ScapegoatSpurModel", name := "rebuilt", desc := "()I" } : MethodName) ({ cls := "ScapegoatSpurModel", name := "rebuilt", desc := "()I" } : MethodName)) ∈ ALL := all_mem 1103 (by decide +kernel)
theorem k_1104 : (Cond.code ({ cls := "ScapegoatSpurModel", name := "rebuilt", desc := "()I" } : MethodName) prog_11_method_38_code (1 : Nat) (Option.some Jvm.ClassFile.FieldType.int)) ∈ ALL := all_mem 1104 (by decide +kernel)
theorem k_1105 : (Cond.methodLink "ScapegoatSpurLaw" (116 : Nat) ({ cls := "ScapegoatSpurModel", name := "drops", desc := "()I" } : MethodName)) ∈ ALL := all_mem 1105 (by decide +kernel)
theorem k_1106 : (Cond.instanceMethod ({ cls := "ScapegoatSpurModel", name := "drops", desc := "()I" } : MethodName)) ∈ ALL := all_mem 1106 (by decide +kernel)
theorem k_1107 : (Cond.selects "ScapegoatSpurModel" ({ cls := "ScapegoatSpurModel", name := "drops", desc := "()I" } : MethodName) ({ cls := "ScapegoatSpurModel", name := "drops", desc := "()I" } : MethodName)) ∈ ALL := all_mem 1107 (by decide +kernel)
theorem k_1108 : (Cond.code ({ cls := "ScapegoatSpurModel", name := "drops", desc := "()I" } : MethodName) prog_11_method_39_code (1 : Nat) (Option.some Jvm.ClassFile.FieldType.int)) ∈ ALL := all_mem 1108 (by decide +kernel)
theorem k_1109 : (Cond.methodLink "ScapegoatSpurLaw" (121 : Nat) ({ cls := "ScapegoatSpurModel", name := "averageDepth", desc := "()F" } : MethodName)) ∈ ALL := all_mem 1109 (by decide +kernel)
theorem k_1110 : (Cond.instanceMethod ({ cls := "ScapegoatSpurModel", name := "averageDepth", desc := "()F" } : MethodName)) ∈ ALL := all_mem 1110 (by decide +kernel)
theorem k_1111 : (Cond.selects "ScapegoatSpurModel" ({ cls := "ScapegoatSpurModel", name := "averageDepth", desc := "()F" } : MethodName) ({ cls := "ScapegoatSpurModel", name := "averageDepth", desc := "()F" } : MethodName)) ∈ ALL := all_mem 1111 (by decide +kernel)
theorem k_1112 : (Cond.code ({ cls := "ScapegoatSpurModel", name := "averageDepth", desc := "()F" } : MethodName) prog_11_method_40_code (3 : Nat) (Option.some Jvm.ClassFile.FieldType.float)) ∈ ALL := all_mem 1112 (by decide +kernel)
theorem k_1113 : (Cond.methodLink "ScapegoatSpurLaw" (124 : Nat) ({ cls := "ScapegoatSpurModel", name := "depthInTurning", desc := "(I)I" } : MethodName)) ∈ ALL := all_mem 1113 (by decide +kernel)
theorem k_1114 : (Cond.instanceMethod ({ cls := "ScapegoatSpurModel", name := "depthInTurning", desc := "(I)I" } : MethodName)) ∈ ALL := all_mem 1114 (by decide +kernel)
theorem k_1115 : (Cond.selects "ScapegoatSpurModel" ({ cls := "ScapegoatSpurModel", name := "depthInTurning", desc := "(I)I" } : MethodName) ({ cls := "ScapegoatSpurModel", name := "depthInTurning", desc := "(I)I" } : MethodName)) ∈ ALL := all_mem 1115 (by decide +kernel)
theorem k_1116 : (Cond.code ({ cls := "ScapegoatSpurModel", name := "depthInTurning", desc := "(I)I" } : MethodName) prog_11_method_41_code (3 : Nat) (Option.some Jvm.ClassFile.FieldType.int)) ∈ ALL := all_mem 1116 (by decide +kernel)
theorem k_1117 : (Cond.methodLink "ScapegoatSpurLaw" (128 : Nat) ({ cls := "ScapegoatSpurModel", name := "turningRoot", desc := "()I" } : MethodName)) ∈ ALL := all_mem 1117 (by decide +kernel)
theorem k_1118 : (Cond.instanceMethod ({ cls := "ScapegoatSpurModel", name := "turningRoot", desc := "()I" } : MethodName)) ∈ ALL := all_mem 1118 (by decide +kernel)
theorem k_1119 : (Cond.selects "ScapegoatSpurModel" ({ cls := "ScapegoatSpurModel", name := "turningRoot", desc := "()I" } : MethodName) ({ cls := "ScapegoatSpurModel", name := "turningRoot", desc := "()I" } : MethodName)) ∈ ALL := all_mem 1119 (by decide +kernel)
theorem k_1120 : (Cond.code ({ cls := "ScapegoatSpurModel", name := "turningRoot", desc := "()I" } : MethodName) prog_11_method_42_code (2 : Nat) (Option.some Jvm.ClassFile.FieldType.int)) ∈ ALL := all_mem 1120 (by decide +kernel)
theorem k_1121 : (Cond.methodLink "ScapegoatSpurLaw" (132 : Nat) ({ cls := "ScapegoatSpurModel", name := "turns", desc := "()I" } : MethodName)) ∈ ALL := all_mem 1121 (by decide +kernel)
theorem k_1122 : (Cond.instanceMethod ({ cls := "ScapegoatSpurModel", name := "turns", desc := "()I" } : MethodName)) ∈ ALL := all_mem 1122 (by decide +kernel)
theorem k_1123 : (Cond.selects "ScapegoatSpurModel" ({ cls := "ScapegoatSpurModel", name := "turns", desc := "()I" } : MethodName) ({ cls := "ScapegoatSpurModel", name := "turns", desc := "()I" } : MethodName)) ∈ ALL := all_mem 1123 (by decide +kernel)
theorem k_1124 : (Cond.code ({ cls := "ScapegoatSpurModel", name := "turns", desc := "()I" } : MethodName) prog_11_method_43_code (1 : Nat) (Option.some Jvm.ClassFile.FieldType.int)) ∈ ALL := all_mem 1124 (by decide +kernel)
theorem k_1125 : (Cond.methodLink "ScapegoatSpurLaw" (136 : Nat) ({ cls := "ScapegoatSpurModel", name := "entries", desc := "()I" } : MethodName)) ∈ ALL := all_mem 1125 (by decide +kernel)
theorem k_1126 : (Cond.instanceMethod ({ cls := "ScapegoatSpurModel", name := "entries", desc := "()I" } : MethodName)) ∈ ALL := all_mem 1126 (by decide +kernel)
theorem k_1127 : (Cond.selects "ScapegoatSpurModel" ({ cls := "ScapegoatSpurModel", name := "entries", desc := "()I" } : MethodName) ({ cls := "ScapegoatSpurModel", name := "entries", desc := "()I" } : MethodName)) ∈ ALL := all_mem 1127 (by decide +kernel)
theorem k_1128 : (Cond.code ({ cls := "ScapegoatSpurModel", name := "entries", desc := "()I" } : MethodName) prog_11_method_44_code (1 : Nat) (Option.some Jvm.ClassFile.FieldType.int)) ∈ ALL := all_mem 1128 (by decide +kernel)
theorem k_1129 : (Cond.methodLink "ScapegoatSpurLaw" (139 : Nat) ({ cls := "ScapegoatSpurModel", name := "partOf", desc := "(I)I" } : MethodName)) ∈ ALL := all_mem 1129 (by decide +kernel)
theorem k_1130 : (Cond.instanceMethod ({ cls := "ScapegoatSpurModel", name := "partOf", desc := "(I)I" } : MethodName)) ∈ ALL := all_mem 1130 (by decide +kernel)
theorem k_1131 : (Cond.selects "ScapegoatSpurModel" ({ cls := "ScapegoatSpurModel", name := "partOf", desc := "(I)I" } : MethodName) ({ cls := "ScapegoatSpurModel", name := "partOf", desc := "(I)I" } : MethodName)) ∈ ALL := all_mem 1131 (by decide +kernel)
theorem k_1132 : (Cond.code ({ cls := "ScapegoatSpurModel", name := "partOf", desc := "(I)I" } : MethodName) prog_11_method_45_code (2 : Nat) (Option.some Jvm.ClassFile.FieldType.int)) ∈ ALL := all_mem 1132 (by decide +kernel)
theorem k_1133 : (Cond.methodLink "ScapegoatSpurLaw" (143 : Nat) ({ cls := "ScapegoatSpurModel", name := "entry", desc := "(II)I" } : MethodName)) ∈ ALL := all_mem 1133 (by decide +kernel)
theorem k_1134 : (Cond.instanceMethod ({ cls := "ScapegoatSpurModel", name := "entry", desc := "(II)I" } : MethodName)) ∈ ALL := all_mem 1134 (by decide +kernel)
theorem k_1135 : (Cond.selects "ScapegoatSpurModel" ({ cls := "ScapegoatSpurModel", name := "entry", desc := "(II)I" } : MethodName) ({ cls := "ScapegoatSpurModel", name := "entry", desc := "(II)I" } : MethodName)) ∈ ALL := all_mem 1135 (by decide +kernel)
theorem k_1136 : (Cond.code ({ cls := "ScapegoatSpurModel", name := "entry", desc := "(II)I" } : MethodName) prog_11_method_46_code (6 : Nat) (Option.some Jvm.ClassFile.FieldType.int)) ∈ ALL := all_mem 1136 (by decide +kernel)
theorem k_1137 : (Cond.methodLink "ScapegoatSpurLaw" (147 : Nat) ({ cls := "ScapegoatSpurModel", name := "merges", desc := "()I" } : MethodName)) ∈ ALL := all_mem 1137 (by decide +kernel)
theorem k_1138 : (Cond.instanceMethod ({ cls := "ScapegoatSpurModel", name := "merges", desc := "()I" } : MethodName)) ∈ ALL := all_mem 1138 (by decide +kernel)
theorem k_1139 : (Cond.selects "ScapegoatSpurModel" ({ cls := "ScapegoatSpurModel", name := "merges", desc := "()I" } : MethodName) ({ cls := "ScapegoatSpurModel", name := "merges", desc := "()I" } : MethodName)) ∈ ALL := all_mem 1139 (by decide +kernel)
theorem k_1140 : (Cond.code ({ cls := "ScapegoatSpurModel", name := "merges", desc := "()I" } : MethodName) prog_11_method_47_code (1 : Nat) (Option.some Jvm.ClassFile.FieldType.int)) ∈ ALL := all_mem 1140 (by decide +kernel)
theorem k_1141 : (Cond.methodLink "ScapegoatSpurLaw" (150 : Nat) ({ cls := "ScapegoatSpurModel", name := "addPoint", desc := "(II)Z" } : MethodName)) ∈ ALL := all_mem 1141 (by decide +kernel)
theorem k_1142 : (Cond.instanceMethod ({ cls := "ScapegoatSpurModel", name := "addPoint", desc := "(II)Z" } : MethodName)) ∈ ALL := all_mem 1142 (by decide +kernel)
theorem k_1143 : (Cond.selects "ScapegoatSpurModel" ({ cls := "ScapegoatSpurModel", name := "addPoint", desc := "(II)Z" } : MethodName) ({ cls := "ScapegoatSpurModel", name := "addPoint", desc := "(II)Z" } : MethodName)) ∈ ALL := all_mem 1143 (by decide +kernel)
theorem k_1144 : (Cond.code ({ cls := "ScapegoatSpurModel", name := "addPoint", desc := "(II)Z" } : MethodName) prog_11_method_56_code (7 : Nat) (Option.some Jvm.ClassFile.FieldType.boolean)) ∈ ALL := all_mem 1144 (by decide +kernel)
theorem k_1145 : (Cond.methodLink "ScapegoatSpurModel" (171 : Nat) ({ cls := "ScapegoatSpurModel", name := "pointOf", desc := "(II)I" } : MethodName)) ∈ ALL := all_mem 1145 (by decide +kernel)
theorem k_1147 : (Cond.instanceMethod ({ cls := "ScapegoatSpurModel", name := "pointOf", desc := "(II)I" } : MethodName)) ∈ ALL := all_mem 1147 (by decide +kernel)
theorem k_1148 : (Cond.code ({ cls := "ScapegoatSpurModel", name := "pointOf", desc := "(II)I" } : MethodName) prog_11_method_48_code (5 : Nat) (Option.some Jvm.ClassFile.FieldType.int)) ∈ ALL := all_mem 1148 (by decide +kernel)
theorem k_1149 : (Cond.methodLink "ScapegoatSpurModel" (175 : Nat) ({ cls := "ScapegoatSpurModel", name := "livingPoints", desc := "()I" } : MethodName)) ∈ ALL := all_mem 1149 (by decide +kernel)
theorem k_1151 : (Cond.instanceMethod ({ cls := "ScapegoatSpurModel", name := "livingPoints", desc := "()I" } : MethodName)) ∈ ALL := all_mem 1151 (by decide +kernel)
theorem k_1152 : (Cond.code ({ cls := "ScapegoatSpurModel", name := "livingPoints", desc := "()I" } : MethodName) prog_11_method_50_code (3 : Nat) (Option.some Jvm.ClassFile.FieldType.int)) ∈ ALL := all_mem 1152 (by decide +kernel)
theorem k_1153 : (Cond.methodLink "ScapegoatSpurModel" (152 : Nat) ({ cls := "ScapegoatSpurModel", name := "isLess", desc := "(IIIII)Z" } : MethodName)) ∈ ALL := all_mem 1153 (by decide +kernel)
theorem k_1154 : (Cond.static ({ cls := "ScapegoatSpurModel", name := "isLess", desc := "(IIIII)Z" } : MethodName)) ∈ ALL := all_mem 1154 (by decide +kernel)
theorem k_1155 : (Cond.code ({ cls := "ScapegoatSpurModel", name := "isLess", desc := "(IIIII)Z" } : MethodName) prog_11_method_49_code (5 : Nat) (Option.some Jvm.ClassFile.FieldType.boolean)) ∈ ALL := all_mem 1155 (by decide +kernel)
theorem k_1156 : (Cond.methodLink "ScapegoatSpurModel" (178 : Nat) ({ cls := "ScapegoatSpurModel", name := "growPoints", desc := "(I)V" } : MethodName)) ∈ ALL := all_mem 1156 (by decide +kernel)
theorem k_1158 : (Cond.instanceMethod ({ cls := "ScapegoatSpurModel", name := "growPoints", desc := "(I)V" } : MethodName)) ∈ ALL := all_mem 1158 (by decide +kernel)
theorem k_1159 : (Cond.code ({ cls := "ScapegoatSpurModel", name := "growPoints", desc := "(I)V" } : MethodName) prog_11_method_55_code (6 : Nat) (Option.none : Option Jvm.ClassFile.FieldType)) ∈ ALL := all_mem 1159 (by decide +kernel)
theorem k_1160 : (Cond.methodLink "ScapegoatSpurModel" (162 : Nat) ({ cls := "ScapegoatSpurModel", name := "pointWeight", desc := "(I)I" } : MethodName)) ∈ ALL := all_mem 1160 (by decide +kernel)
theorem k_1162 : (Cond.instanceMethod ({ cls := "ScapegoatSpurModel", name := "pointWeight", desc := "(I)I" } : MethodName)) ∈ ALL := all_mem 1162 (by decide +kernel)
theorem k_1163 : (Cond.code ({ cls := "ScapegoatSpurModel", name := "pointWeight", desc := "(I)I" } : MethodName) prog_11_method_54_code (2 : Nat) (Option.some Jvm.ClassFile.FieldType.int)) ∈ ALL := all_mem 1163 (by decide +kernel)
theorem k_1164 : (Cond.methodLink "ScapegoatSpurModel" (168 : Nat) ({ cls := "ScapegoatSpurModel", name := "layOutPoints", desc := "(I)V" } : MethodName)) ∈ ALL := all_mem 1164 (by decide +kernel)
theorem k_1166 : (Cond.instanceMethod ({ cls := "ScapegoatSpurModel", name := "layOutPoints", desc := "(I)V" } : MethodName)) ∈ ALL := all_mem 1166 (by decide +kernel)
theorem k_1167 : (Cond.code ({ cls := "ScapegoatSpurModel", name := "layOutPoints", desc := "(I)V" } : MethodName) prog_11_method_53_code (5 : Nat) (Option.none : Option Jvm.ClassFile.FieldType)) ∈ ALL := all_mem 1167 (by decide +kernel)
theorem k_1168 : (Cond.methodLink "ScapegoatSpurModel" (156 : Nat) ({ cls := "ScapegoatSpurModel", name := "pointsBefore", desc := "(I)I" } : MethodName)) ∈ ALL := all_mem 1168 (by decide +kernel)
theorem k_1170 : (Cond.instanceMethod ({ cls := "ScapegoatSpurModel", name := "pointsBefore", desc := "(I)I" } : MethodName)) ∈ ALL := all_mem 1170 (by decide +kernel)
theorem k_1171 : (Cond.code ({ cls := "ScapegoatSpurModel", name := "pointsBefore", desc := "(I)I" } : MethodName) prog_11_method_51_code (4 : Nat) (Option.some Jvm.ClassFile.FieldType.int)) ∈ ALL := all_mem 1171 (by decide +kernel)
theorem k_1172 : (Cond.methodLink "ScapegoatSpurModel" (159 : Nat) ({ cls := "ScapegoatSpurModel", name := "pointsWith", desc := "(I)I" } : MethodName)) ∈ ALL := all_mem 1172 (by decide +kernel)
theorem k_1174 : (Cond.instanceMethod ({ cls := "ScapegoatSpurModel", name := "pointsWith", desc := "(I)I" } : MethodName)) ∈ ALL := all_mem 1174 (by decide +kernel)
theorem k_1175 : (Cond.code ({ cls := "ScapegoatSpurModel", name := "pointsWith", desc := "(I)I" } : MethodName) prog_11_method_52_code (4 : Nat) (Option.some Jvm.ClassFile.FieldType.int)) ∈ ALL := all_mem 1175 (by decide +kernel)
theorem k_1176 : (Cond.methodLink "ScapegoatSpurLaw" (154 : Nat) ({ cls := "ScapegoatSpurModel", name := "removePoint", desc := "(II)Z" } : MethodName)) ∈ ALL := all_mem 1176 (by decide +kernel)
theorem k_1177 : (Cond.instanceMethod ({ cls := "ScapegoatSpurModel", name := "removePoint", desc := "(II)Z" } : MethodName)) ∈ ALL := all_mem 1177 (by decide +kernel)
theorem k_1178 : (Cond.selects "ScapegoatSpurModel" ({ cls := "ScapegoatSpurModel", name := "removePoint", desc := "(II)Z" } : MethodName) ({ cls := "ScapegoatSpurModel", name := "removePoint", desc := "(II)Z" } : MethodName)) ∈ ALL := all_mem 1178 (by decide +kernel)
theorem k_1179 : (Cond.code ({ cls := "ScapegoatSpurModel", name := "removePoint", desc := "(II)Z" } : MethodName) prog_11_method_57_code (6 : Nat) (Option.some Jvm.ClassFile.FieldType.boolean)) ∈ ALL := all_mem 1179 (by decide +kernel)
theorem k_1180 : (Cond.methodLink "ScapegoatSpurLaw" (158 : Nat) ({ cls := "ScapegoatSpurModel", name := "points", desc := "()I" } : MethodName)) ∈ ALL := all_mem 1180 (by decide +kernel)
theorem k_1181 : (Cond.instanceMethod ({ cls := "ScapegoatSpurModel", name := "points", desc := "()I" } : MethodName)) ∈ ALL := all_mem 1181 (by decide +kernel)
theorem k_1182 : (Cond.selects "ScapegoatSpurModel" ({ cls := "ScapegoatSpurModel", name := "points", desc := "()I" } : MethodName) ({ cls := "ScapegoatSpurModel", name := "points", desc := "()I" } : MethodName)) ∈ ALL := all_mem 1182 (by decide +kernel)
theorem k_1183 : (Cond.code ({ cls := "ScapegoatSpurModel", name := "points", desc := "()I" } : MethodName) prog_11_method_58_code (1 : Nat) (Option.some Jvm.ClassFile.FieldType.int)) ∈ ALL := all_mem 1183 (by decide +kernel)
theorem k_1184 : (Cond.methodLink "ScapegoatSpurLaw" (162 : Nat) ({ cls := "ScapegoatSpurModel", name := "pointNodes", desc := "()I" } : MethodName)) ∈ ALL := all_mem 1184 (by decide +kernel)
theorem k_1185 : (Cond.instanceMethod ({ cls := "ScapegoatSpurModel", name := "pointNodes", desc := "()I" } : MethodName)) ∈ ALL := all_mem 1185 (by decide +kernel)
theorem k_1186 : (Cond.selects "ScapegoatSpurModel" ({ cls := "ScapegoatSpurModel", name := "pointNodes", desc := "()I" } : MethodName) ({ cls := "ScapegoatSpurModel", name := "pointNodes", desc := "()I" } : MethodName)) ∈ ALL := all_mem 1186 (by decide +kernel)
theorem k_1187 : (Cond.code ({ cls := "ScapegoatSpurModel", name := "pointNodes", desc := "()I" } : MethodName) prog_11_method_59_code (1 : Nat) (Option.some Jvm.ClassFile.FieldType.int)) ∈ ALL := all_mem 1187 (by decide +kernel)
theorem k_1188 : (Cond.methodLink "ScapegoatSpurLaw" (165 : Nat) ({ cls := "ScapegoatSpurModel", name := "pointDepth", desc := "(II)I" } : MethodName)) ∈ ALL := all_mem 1188 (by decide +kernel)
theorem k_1189 : (Cond.instanceMethod ({ cls := "ScapegoatSpurModel", name := "pointDepth", desc := "(II)I" } : MethodName)) ∈ ALL := all_mem 1189 (by decide +kernel)
theorem k_1190 : (Cond.selects "ScapegoatSpurModel" ({ cls := "ScapegoatSpurModel", name := "pointDepth", desc := "(II)I" } : MethodName) ({ cls := "ScapegoatSpurModel", name := "pointDepth", desc := "(II)I" } : MethodName)) ∈ ALL := all_mem 1190 (by decide +kernel)
theorem k_1191 : (Cond.code ({ cls := "ScapegoatSpurModel", name := "pointDepth", desc := "(II)I" } : MethodName) prog_11_method_60_code (4 : Nat) (Option.some Jvm.ClassFile.FieldType.int)) ∈ ALL := all_mem 1191 (by decide +kernel)
theorem k_1192 : (Cond.methodLink "ScapegoatSpurLaw" (169 : Nat) ({ cls := "ScapegoatSpurModel", name := "pointHeight", desc := "()I" } : MethodName)) ∈ ALL := all_mem 1192 (by decide +kernel)
theorem k_1193 : (Cond.instanceMethod ({ cls := "ScapegoatSpurModel", name := "pointHeight", desc := "()I" } : MethodName)) ∈ ALL := all_mem 1193 (by decide +kernel)
theorem k_1194 : (Cond.selects "ScapegoatSpurModel" ({ cls := "ScapegoatSpurModel", name := "pointHeight", desc := "()I" } : MethodName) ({ cls := "ScapegoatSpurModel", name := "pointHeight", desc := "()I" } : MethodName)) ∈ ALL := all_mem 1194 (by decide +kernel)
theorem k_1195 : (Cond.code ({ cls := "ScapegoatSpurModel", name := "pointHeight", desc := "()I" } : MethodName) prog_11_method_61_code (1 : Nat) (Option.some Jvm.ClassFile.FieldType.int)) ∈ ALL := all_mem 1195 (by decide +kernel)
theorem k_1196 : (Cond.methodLink "ScapegoatSpurLaw" (173 : Nat) ({ cls := "ScapegoatSpurModel", name := "countIn", desc := "(IIII)I" } : MethodName)) ∈ ALL := all_mem 1196 (by decide +kernel)
theorem k_1197 : (Cond.instanceMethod ({ cls := "ScapegoatSpurModel", name := "countIn", desc := "(IIII)I" } : MethodName)) ∈ ALL := all_mem 1197 (by decide +kernel)
theorem k_1198 : (Cond.selects "ScapegoatSpurModel" ({ cls := "ScapegoatSpurModel", name := "countIn", desc := "(IIII)I" } : MethodName) ({ cls := "ScapegoatSpurModel", name := "countIn", desc := "(IIII)I" } : MethodName)) ∈ ALL := all_mem 1198 (by decide +kernel)
theorem k_1199 : (Cond.code ({ cls := "ScapegoatSpurModel", name := "countIn", desc := "(IIII)I" } : MethodName) prog_11_method_62_code (7 : Nat) (Option.some Jvm.ClassFile.FieldType.int)) ∈ ALL := all_mem 1199 (by decide +kernel)
theorem k_1200 : (Cond.methodLink "ScapegoatSpurLaw" (176 : Nat) ({ cls := "ScapegoatSpurModel", name := "nearest", desc := "(II)I" } : MethodName)) ∈ ALL := all_mem 1200 (by decide +kernel)
theorem k_1201 : (Cond.instanceMethod ({ cls := "ScapegoatSpurModel", name := "nearest", desc := "(II)I" } : MethodName)) ∈ ALL := all_mem 1201 (by decide +kernel)
theorem k_1202 : (Cond.selects "ScapegoatSpurModel" ({ cls := "ScapegoatSpurModel", name := "nearest", desc := "(II)I" } : MethodName) ({ cls := "ScapegoatSpurModel", name := "nearest", desc := "(II)I" } : MethodName)) ∈ ALL := all_mem 1202 (by decide +kernel)
theorem k_1203 : (Cond.code ({ cls := "ScapegoatSpurModel", name := "nearest", desc := "(II)I" } : MethodName) prog_11_method_63_code (8 : Nat) (Option.some Jvm.ClassFile.FieldType.int)) ∈ ALL := all_mem 1203 (by decide +kernel)
theorem k_1204 : (Cond.constant "ScapegoatSpurModel" (181 : Nat) (1000000 : Int32)) ∈ ALL := all_mem 1204 (by decide +kernel)
theorem k_1205 : (Cond.methodLink "ScapegoatSpurLaw" (180 : Nat) ({ cls := "ScapegoatSpurModel", name := "pointsRebuilt", desc := "()I" } : MethodName)) ∈ ALL := all_mem 1205 (by decide +kernel)
theorem k_1206 : (Cond.instanceMethod ({ cls := "ScapegoatSpurModel", name := "pointsRebuilt", desc := "()I" } : MethodName)) ∈ ALL := all_mem 1206 (by decide +kernel)
theorem k_1207 : (Cond.selects "ScapegoatSpurModel" ({ cls := "ScapegoatSpurModel", name := "pointsRebuilt", desc := "()I" } : MethodName) ({ cls := "ScapegoatSpurModel", name := "pointsRebuilt", desc := "()I" } : MethodName)) ∈ ALL := all_mem 1207 (by decide +kernel)
theorem k_1208 : (Cond.code ({ cls := "ScapegoatSpurModel", name := "pointsRebuilt", desc := "()I" } : MethodName) prog_11_method_64_code (1 : Nat) (Option.some Jvm.ClassFile.FieldType.int)) ∈ ALL := all_mem 1208 (by decide +kernel)
theorem k_1209 : (Cond.arrayClass Jvm.ClassFile.FieldType.long) ∈ ALL := all_mem 1209 (by decide +kernel)
theorem k_1215 : (Cond.sameMethod "java/lang/Throwable" "java/lang/Throwable" "fillInStackTrace" "(I)Ljava/lang/Throwable;") ∈ ALL := all_mem 1215 (by decide +kernel)
theorem in_X0 : ∀ w ∈ u_ws RX0 TX0 4, w ∈ ALL := by
  have h : (u_ws RX0 TX0 4).all (fun w => decide (w ∈ lw_tbl) && goodWord w) = true := by decide +kernel
  intro w hw
  have h1 := List.all_eq_true.mp h w hw
  simp only [Bool.and_eq_true, decide_eq_true_eq] at h1
  exact List.mem_filter.mpr ⟨List.mem_append_right _ h1.1, h1.2⟩
theorem in_X1 : ∀ w ∈ u_ws RX1 TX1 6, w ∈ ALL := by
  have h : (u_ws RX1 TX1 6).all (fun w => decide (w ∈ lw_tbl) && goodWord w) = true := by decide +kernel
  intro w hw
  have h1 := List.all_eq_true.mp h w hw
  simp only [Bool.and_eq_true, decide_eq_true_eq] at h1
  exact List.mem_filter.mpr ⟨List.mem_append_right _ h1.1, h1.2⟩
theorem in_X3 : ∀ w ∈ u_ws RX3 TX3 5, w ∈ ALL := by
  have h : (u_ws RX3 TX3 5).all (fun w => decide (w ∈ lw_tbl) && goodWord w) = true := by decide +kernel
  intro w hw
  have h1 := List.all_eq_true.mp h w hw
  simp only [Bool.and_eq_true, decide_eq_true_eq] at h1
  exact List.mem_filter.mpr ⟨List.mem_append_right _ h1.1, h1.2⟩
theorem in_X4 : ∀ w ∈ u_ws RX4 TX4 2, w ∈ ALL := by
  have h : (u_ws RX4 TX4 2).all (fun w => decide (w ∈ lw_tbl) && goodWord w) = true := by decide +kernel
  intro w hw
  have h1 := List.all_eq_true.mp h w hw
  simp only [Bool.and_eq_true, decide_eq_true_eq] at h1
  exact List.mem_filter.mpr ⟨List.mem_append_right _ h1.1, h1.2⟩
theorem in_X5 : ∀ w ∈ u_ws RX5 TX5 6, w ∈ ALL := by
  have h : (u_ws RX5 TX5 6).all (fun w => decide (w ∈ lw_tbl) && goodWord w) = true := by decide +kernel
  intro w hw
  have h1 := List.all_eq_true.mp h w hw
  simp only [Bool.and_eq_true, decide_eq_true_eq] at h1
  exact List.mem_filter.mpr ⟨List.mem_append_right _ h1.1, h1.2⟩
theorem in_X6 : ∀ w ∈ u_ws RX6 TX6 4, w ∈ ALL := by
  have h : (u_ws RX6 TX6 4).all (fun w => decide (w ∈ lw_tbl) && goodWord w) = true := by decide +kernel
  intro w hw
  have h1 := List.all_eq_true.mp h w hw
  simp only [Bool.and_eq_true, decide_eq_true_eq] at h1
  exact List.mem_filter.mpr ⟨List.mem_append_right _ h1.1, h1.2⟩
theorem in_X7 : ∀ w ∈ u_ws RX7 TX7 3, w ∈ ALL := by
  have h : (u_ws RX7 TX7 3).all (fun w => decide (w ∈ lw_tbl) && goodWord w) = true := by decide +kernel
  intro w hw
  have h1 := List.all_eq_true.mp h w hw
  simp only [Bool.and_eq_true, decide_eq_true_eq] at h1
  exact List.mem_filter.mpr ⟨List.mem_append_right _ h1.1, h1.2⟩
theorem in_X8 : ∀ w ∈ u_ws RX8 TX8 4, w ∈ ALL := by
  have h : (u_ws RX8 TX8 4).all (fun w => decide (w ∈ lw_tbl) && goodWord w) = true := by decide +kernel
  intro w hw
  have h1 := List.all_eq_true.mp h w hw
  simp only [Bool.and_eq_true, decide_eq_true_eq] at h1
  exact List.mem_filter.mpr ⟨List.mem_append_right _ h1.1, h1.2⟩
theorem in_X9 : ∀ w ∈ u_ws RX9 TX9 19, w ∈ ALL := by
  have h : (u_ws RX9 TX9 19).all (fun w => decide (w ∈ lw_tbl) && goodWord w) = true := by decide +kernel
  intro w hw
  have h1 := List.all_eq_true.mp h w hw
  simp only [Bool.and_eq_true, decide_eq_true_eq] at h1
  exact List.mem_filter.mpr ⟨List.mem_append_right _ h1.1, h1.2⟩
