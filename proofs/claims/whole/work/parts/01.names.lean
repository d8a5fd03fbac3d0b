-- ===== PART A: goes FIRST, ahead of the names: the tables' words, and 'selects' of the private methods out of them =====
/-- a private method of a class that the tables say can be made, by its rows of tables_1 -/
def lw_okq (q : MethodName × Nat) : Prop := (q.1.cls ≠ "java/lang/invoke/MethodHandle" ∧ q.1.cls ≠ "java/lang/invoke/VarHandle") ∧ Cond.instantiable q.1.cls q.2 ∈ tables_1 ∧ Cond.privateMethod q.1 ∈ tables_1 ∧ Cond.instanceMethod q.1 ∈ tables_1
theorem lw_p0 : lw_okq (⟨"SwapOrbits", "begin", "(II)V"⟩, 8) := ⟨⟨by decide +kernel, by decide +kernel⟩, List.mem_of_getElem? (i := 13) (by decide +kernel), List.mem_of_getElem? (i := 124) (by decide +kernel), List.mem_of_getElem? (i := 125) (by decide +kernel)⟩
theorem lw_p1 : lw_okq (⟨"SwapOrbits", "forgetGroup", "()V"⟩, 8) := ⟨⟨by decide +kernel, by decide +kernel⟩, List.mem_of_getElem? (i := 13) (by decide +kernel), List.mem_of_getElem? (i := 147) (by decide +kernel), List.mem_of_getElem? (i := 148) (by decide +kernel)⟩
theorem lw_p2 : lw_okq (⟨"SwapOrbits", "isRow", "(I)Z"⟩, 8) := ⟨⟨by decide +kernel, by decide +kernel⟩, List.mem_of_getElem? (i := 13) (by decide +kernel), List.mem_of_getElem? (i := 184) (by decide +kernel), List.mem_of_getElem? (i := 185) (by decide +kernel)⟩
theorem lw_p3 : lw_okq (⟨"SwapOrbits", "isPoint", "(I)Z"⟩, 8) := ⟨⟨by decide +kernel, by decide +kernel⟩, List.mem_of_getElem? (i := 13) (by decide +kernel), List.mem_of_getElem? (i := 210) (by decide +kernel), List.mem_of_getElem? (i := 211) (by decide +kernel)⟩
theorem lw_p4 : lw_okq (⟨"SwapOrbits", "knownGroup", "()LSwapOrbits$Group;"⟩, 8) := ⟨⟨by decide +kernel, by decide +kernel⟩, List.mem_of_getElem? (i := 13) (by decide +kernel), List.mem_of_getElem? (i := 240) (by decide +kernel), List.mem_of_getElem? (i := 241) (by decide +kernel)⟩
theorem lw_p5 : lw_okq (⟨"SwapOrbits$Group", "find", "(I)V"⟩, 5) := ⟨⟨by decide +kernel, by decide +kernel⟩, List.mem_of_getElem? (i := 75) (by decide +kernel), List.mem_of_getElem? (i := 252) (by decide +kernel), List.mem_of_getElem? (i := 253) (by decide +kernel)⟩
theorem lw_p6 : lw_okq (⟨"SwapOrbits$Group", "putInOrder", "()V"⟩, 5) := ⟨⟨by decide +kernel, by decide +kernel⟩, List.mem_of_getElem? (i := 75) (by decide +kernel), List.mem_of_getElem? (i := 266) (by decide +kernel), List.mem_of_getElem? (i := 267) (by decide +kernel)⟩
theorem lw_p7 : lw_okq (⟨"SwapOrbits$Edges", "areAllTakenToEdges", "(I)Z"⟩, 1) := ⟨⟨by decide +kernel, by decide +kernel⟩, List.mem_of_getElem? (i := 42) (by decide +kernel), List.mem_of_getElem? (i := 314) (by decide +kernel), List.mem_of_getElem? (i := 315) (by decide +kernel)⟩
theorem lw_p8 : lw_okq (⟨"SwapOrbits", "countKeptAndFit", "(I)I"⟩, 8) := ⟨⟨by decide +kernel, by decide +kernel⟩, List.mem_of_getElem? (i := 13) (by decide +kernel), List.mem_of_getElem? (i := 320) (by decide +kernel), List.mem_of_getElem? (i := 321) (by decide +kernel)⟩
theorem lw_p9 : lw_okq (⟨"SwapOrbits$Edges", "isLikeALesserNeighbour", "(II)Z"⟩, 1) := ⟨⟨by decide +kernel, by decide +kernel⟩, List.mem_of_getElem? (i := 42) (by decide +kernel), List.mem_of_getElem? (i := 340) (by decide +kernel), List.mem_of_getElem? (i := 341) (by decide +kernel)⟩
theorem lw_p10 : lw_okq (⟨"SwapOrbits", "knownTable", "()LSwapOrbits$OrbitTable;"⟩, 8) := ⟨⟨by decide +kernel, by decide +kernel⟩, List.mem_of_getElem? (i := 13) (by decide +kernel), List.mem_of_getElem? (i := 370) (by decide +kernel), List.mem_of_getElem? (i := 371) (by decide +kernel)⟩
theorem lw_p11 : lw_okq (⟨"SwapOrbits$OrbitTable", "flood", "(ILSwapOrbits$Plans;LSwapOrbits$Moves;)I"⟩, 6) := ⟨⟨by decide +kernel, by decide +kernel⟩, List.mem_of_getElem? (i := 98) (by decide +kernel), List.mem_of_getElem? (i := 382) (by decide +kernel), List.mem_of_getElem? (i := 383) (by decide +kernel)⟩
theorem lw_p12 : lw_okq (⟨"SwapOrbits$OrbitTable", "find", "(I)V"⟩, 6) := ⟨⟨by decide +kernel, by decide +kernel⟩, List.mem_of_getElem? (i := 98) (by decide +kernel), List.mem_of_getElem? (i := 386) (by decide +kernel), List.mem_of_getElem? (i := 387) (by decide +kernel)⟩
theorem lw_p13 : lw_okq (⟨"SwapOrbits", "isShare", "(I)Z"⟩, 8) := ⟨⟨by decide +kernel, by decide +kernel⟩, List.mem_of_getElem? (i := 13) (by decide +kernel), List.mem_of_getElem? (i := 399) (by decide +kernel), List.mem_of_getElem? (i := 400) (by decide +kernel)⟩
theorem lw_p14 : lw_okq (⟨"SwapOrbits", "mayHave", "(II)Z"⟩, 8) := ⟨⟨by decide +kernel, by decide +kernel⟩, List.mem_of_getElem? (i := 13) (by decide +kernel), List.mem_of_getElem? (i := 403) (by decide +kernel), List.mem_of_getElem? (i := 404) (by decide +kernel)⟩
theorem lw_p15 : lw_okq (⟨"SwapOrbits", "countHeadsOf", "(I)I"⟩, 8) := ⟨⟨by decide +kernel, by decide +kernel⟩, List.mem_of_getElem? (i := 13) (by decide +kernel), List.mem_of_getElem? (i := 410) (by decide +kernel), List.mem_of_getElem? (i := 411) (by decide +kernel)⟩
def lw_privs_1 : List (MethodName × Nat) := [(⟨"SwapOrbits", "begin", "(II)V"⟩, 8), (⟨"SwapOrbits", "forgetGroup", "()V"⟩, 8), (⟨"SwapOrbits", "isRow", "(I)Z"⟩, 8), (⟨"SwapOrbits", "isPoint", "(I)Z"⟩, 8), (⟨"SwapOrbits", "knownGroup", "()LSwapOrbits$Group;"⟩, 8), (⟨"SwapOrbits$Group", "find", "(I)V"⟩, 5), (⟨"SwapOrbits$Group", "putInOrder", "()V"⟩, 5), (⟨"SwapOrbits$Edges", "areAllTakenToEdges", "(I)Z"⟩, 1), (⟨"SwapOrbits", "countKeptAndFit", "(I)I"⟩, 8), (⟨"SwapOrbits$Edges", "isLikeALesserNeighbour", "(II)Z"⟩, 1), (⟨"SwapOrbits", "knownTable", "()LSwapOrbits$OrbitTable;"⟩, 8), (⟨"SwapOrbits$OrbitTable", "flood", "(ILSwapOrbits$Plans;LSwapOrbits$Moves;)I"⟩, 6), (⟨"SwapOrbits$OrbitTable", "find", "(I)V"⟩, 6), (⟨"SwapOrbits", "isShare", "(I)Z"⟩, 8), (⟨"SwapOrbits", "mayHave", "(II)Z"⟩, 8), (⟨"SwapOrbits", "countHeadsOf", "(I)I"⟩, 8)]
theorem lw_r1 : ∀ q ∈ lw_privs_1, lw_okq q := List.forall_mem_cons.mpr ⟨lw_p0, List.forall_mem_cons.mpr ⟨lw_p1, List.forall_mem_cons.mpr ⟨lw_p2, List.forall_mem_cons.mpr ⟨lw_p3, List.forall_mem_cons.mpr ⟨lw_p4, List.forall_mem_cons.mpr ⟨lw_p5, List.forall_mem_cons.mpr ⟨lw_p6, List.forall_mem_cons.mpr ⟨lw_p7, List.forall_mem_cons.mpr ⟨lw_p8, List.forall_mem_cons.mpr ⟨lw_p9, List.forall_mem_cons.mpr ⟨lw_p10, List.forall_mem_cons.mpr ⟨lw_p11, List.forall_mem_cons.mpr ⟨lw_p12, List.forall_mem_cons.mpr ⟨lw_p13, List.forall_mem_cons.mpr ⟨lw_p14, List.forall_mem_cons.mpr ⟨lw_p15, fun _ h => absurd h List.not_mem_nil⟩⟩⟩⟩⟩⟩⟩⟩⟩⟩⟩⟩⟩⟩⟩⟩
theorem lw_p16 : lw_okq (⟨"SwapOrbits", "countFitHeads", "()I"⟩, 8) := ⟨⟨by decide +kernel, by decide +kernel⟩, List.mem_of_getElem? (i := 13) (by decide +kernel), List.mem_of_getElem? (i := 426) (by decide +kernel), List.mem_of_getElem? (i := 427) (by decide +kernel)⟩
theorem lw_p17 : lw_okq (⟨"SwapOrbitsModel", "begins", "(II)V"⟩, 23) := ⟨⟨by decide +kernel, by decide +kernel⟩, List.mem_of_getElem? (i := 487) (by decide +kernel), List.mem_of_getElem? (i := 493) (by decide +kernel), List.mem_of_getElem? (i := 494) (by decide +kernel)⟩
theorem lw_p18 : lw_okq (⟨"SwapOrbitsModel", "reads", "(I)Z"⟩, 23) := ⟨⟨by decide +kernel, by decide +kernel⟩, List.mem_of_getElem? (i := 487) (by decide +kernel), List.mem_of_getElem? (i := 579) (by decide +kernel), List.mem_of_getElem? (i := 580) (by decide +kernel)⟩
theorem lw_p19 : lw_okq (⟨"SwapOrbitsModel", "placeAtHand", "()I"⟩, 23) := ⟨⟨by decide +kernel, by decide +kernel⟩, List.mem_of_getElem? (i := 487) (by decide +kernel), List.mem_of_getElem? (i := 599) (by decide +kernel), List.mem_of_getElem? (i := 600) (by decide +kernel)⟩
theorem lw_p20 : lw_okq (⟨"SwapOrbitsModel", "factorial", "(I)I"⟩, 23) := ⟨⟨by decide +kernel, by decide +kernel⟩, List.mem_of_getElem? (i := 487) (by decide +kernel), List.mem_of_getElem? (i := 603) (by decide +kernel), List.mem_of_getElem? (i := 604) (by decide +kernel)⟩
theorem lw_p21 : lw_okq (⟨"SwapOrbitsModel", "findGroup", "()V"⟩, 23) := ⟨⟨by decide +kernel, by decide +kernel⟩, List.mem_of_getElem? (i := 487) (by decide +kernel), List.mem_of_getElem? (i := 607) (by decide +kernel), List.mem_of_getElem? (i := 608) (by decide +kernel)⟩
theorem lw_p22 : lw_okq (⟨"SwapOrbitsModel", "take", "(I)V"⟩, 23) := ⟨⟨by decide +kernel, by decide +kernel⟩, List.mem_of_getElem? (i := 487) (by decide +kernel), List.mem_of_getElem? (i := 611) (by decide +kernel), List.mem_of_getElem? (i := 612) (by decide +kernel)⟩
theorem lw_p23 : lw_okq (⟨"SwapOrbitsModel", "rowAtHand", "()I"⟩, 23) := ⟨⟨by decide +kernel, by decide +kernel⟩, List.mem_of_getElem? (i := 487) (by decide +kernel), List.mem_of_getElem? (i := 615) (by decide +kernel), List.mem_of_getElem? (i := 616) (by decide +kernel)⟩
theorem lw_p24 : lw_okq (⟨"SwapOrbitsModel", "isNumber", "(I)Z"⟩, 23) := ⟨⟨by decide +kernel, by decide +kernel⟩, List.mem_of_getElem? (i := 487) (by decide +kernel), List.mem_of_getElem? (i := 623) (by decide +kernel), List.mem_of_getElem? (i := 624) (by decide +kernel)⟩
theorem lw_p25 : lw_okq (⟨"SwapOrbitsModel", "cyclesOf", "(I)I"⟩, 23) := ⟨⟨by decide +kernel, by decide +kernel⟩, List.mem_of_getElem? (i := 487) (by decide +kernel), List.mem_of_getElem? (i := 631) (by decide +kernel), List.mem_of_getElem? (i := 632) (by decide +kernel)⟩
theorem lw_p26 : lw_okq (⟨"SwapOrbitsModel", "keptBy", "(IZ)I"⟩, 23) := ⟨⟨by decide +kernel, by decide +kernel⟩, List.mem_of_getElem? (i := 487) (by decide +kernel), List.mem_of_getElem? (i := 651) (by decide +kernel), List.mem_of_getElem? (i := 652) (by decide +kernel)⟩
theorem lw_p27 : lw_okq (⟨"SwapOrbitsModel", "look", "(I)V"⟩, 23) := ⟨⟨by decide +kernel, by decide +kernel⟩, List.mem_of_getElem? (i := 487) (by decide +kernel), List.mem_of_getElem? (i := 655) (by decide +kernel), List.mem_of_getElem? (i := 656) (by decide +kernel)⟩
theorem lw_p28 : lw_okq (⟨"SwapOrbitsModel", "looksOn", "()V"⟩, 23) := ⟨⟨by decide +kernel, by decide +kernel⟩, List.mem_of_getElem? (i := 487) (by decide +kernel), List.mem_of_getElem? (i := 659) (by decide +kernel), List.mem_of_getElem? (i := 660) (by decide +kernel)⟩
theorem lw_p29 : lw_okq (⟨"SwapOrbitsModel", "isFitNow", "()Z"⟩, 23) := ⟨⟨by decide +kernel, by decide +kernel⟩, List.mem_of_getElem? (i := 487) (by decide +kernel), List.mem_of_getElem? (i := 663) (by decide +kernel), List.mem_of_getElem? (i := 664) (by decide +kernel)⟩
theorem lw_p30 : lw_okq (⟨"SwapOrbitsModel", "areKept", "()Z"⟩, 23) := ⟨⟨by decide +kernel, by decide +kernel⟩, List.mem_of_getElem? (i := 487) (by decide +kernel), List.mem_of_getElem? (i := 671) (by decide +kernel), List.mem_of_getElem? (i := 672) (by decide +kernel)⟩
theorem lw_p31 : lw_okq (⟨"SwapOrbitsModel", "findOrbits", "()V"⟩, 23) := ⟨⟨by decide +kernel, by decide +kernel⟩, List.mem_of_getElem? (i := 487) (by decide +kernel), List.mem_of_getElem? (i := 679) (by decide +kernel), List.mem_of_getElem? (i := 680) (by decide +kernel)⟩
def lw_privs_2 : List (MethodName × Nat) := [(⟨"SwapOrbits", "countFitHeads", "()I"⟩, 8), (⟨"SwapOrbitsModel", "begins", "(II)V"⟩, 23), (⟨"SwapOrbitsModel", "reads", "(I)Z"⟩, 23), (⟨"SwapOrbitsModel", "placeAtHand", "()I"⟩, 23), (⟨"SwapOrbitsModel", "factorial", "(I)I"⟩, 23), (⟨"SwapOrbitsModel", "findGroup", "()V"⟩, 23), (⟨"SwapOrbitsModel", "take", "(I)V"⟩, 23), (⟨"SwapOrbitsModel", "rowAtHand", "()I"⟩, 23), (⟨"SwapOrbitsModel", "isNumber", "(I)Z"⟩, 23), (⟨"SwapOrbitsModel", "cyclesOf", "(I)I"⟩, 23), (⟨"SwapOrbitsModel", "keptBy", "(IZ)I"⟩, 23), (⟨"SwapOrbitsModel", "look", "(I)V"⟩, 23), (⟨"SwapOrbitsModel", "looksOn", "()V"⟩, 23), (⟨"SwapOrbitsModel", "isFitNow", "()Z"⟩, 23), (⟨"SwapOrbitsModel", "areKept", "()Z"⟩, 23), (⟨"SwapOrbitsModel", "findOrbits", "()V"⟩, 23)]
theorem lw_r2 : ∀ q ∈ lw_privs_2, lw_okq q := List.forall_mem_cons.mpr ⟨lw_p16, List.forall_mem_cons.mpr ⟨lw_p17, List.forall_mem_cons.mpr ⟨lw_p18, List.forall_mem_cons.mpr ⟨lw_p19, List.forall_mem_cons.mpr ⟨lw_p20, List.forall_mem_cons.mpr ⟨lw_p21, List.forall_mem_cons.mpr ⟨lw_p22, List.forall_mem_cons.mpr ⟨lw_p23, List.forall_mem_cons.mpr ⟨lw_p24, List.forall_mem_cons.mpr ⟨lw_p25, List.forall_mem_cons.mpr ⟨lw_p26, List.forall_mem_cons.mpr ⟨lw_p27, List.forall_mem_cons.mpr ⟨lw_p28, List.forall_mem_cons.mpr ⟨lw_p29, List.forall_mem_cons.mpr ⟨lw_p30, List.forall_mem_cons.mpr ⟨lw_p31, fun _ h => absurd h List.not_mem_nil⟩⟩⟩⟩⟩⟩⟩⟩⟩⟩⟩⟩⟩⟩⟩⟩
theorem lw_p32 : lw_okq (⟨"SwapOrbitsModel", "joins", "(I)V"⟩, 23) := ⟨⟨by decide +kernel, by decide +kernel⟩, List.mem_of_getElem? (i := 487) (by decide +kernel), List.mem_of_getElem? (i := 683) (by decide +kernel), List.mem_of_getElem? (i := 684) (by decide +kernel)⟩
theorem lw_p33 : lw_okq (⟨"SwapOrbitsModel", "makes", "(I)I"⟩, 23) := ⟨⟨by decide +kernel, by decide +kernel⟩, List.mem_of_getElem? (i := 487) (by decide +kernel), List.mem_of_getElem? (i := 687) (by decide +kernel), List.mem_of_getElem? (i := 688) (by decide +kernel)⟩
theorem lw_p34 : lw_okq (⟨"SwapOrbitsModel", "isPlan", "(I)Z"⟩, 23) := ⟨⟨by decide +kernel, by decide +kernel⟩, List.mem_of_getElem? (i := 487) (by decide +kernel), List.mem_of_getElem? (i := 711) (by decide +kernel), List.mem_of_getElem? (i := 712) (by decide +kernel)⟩
def lw_privs_3 : List (MethodName × Nat) := [(⟨"SwapOrbitsModel", "joins", "(I)V"⟩, 23), (⟨"SwapOrbitsModel", "makes", "(I)I"⟩, 23), (⟨"SwapOrbitsModel", "isPlan", "(I)Z"⟩, 23)]
theorem lw_r3 : ∀ q ∈ lw_privs_3, lw_okq q := List.forall_mem_cons.mpr ⟨lw_p32, List.forall_mem_cons.mpr ⟨lw_p33, List.forall_mem_cons.mpr ⟨lw_p34, fun _ h => absurd h List.not_mem_nil⟩⟩⟩
def lw_privs : List (MethodName × Nat) := lw_privs_1 ++ (lw_privs_2 ++ (lw_privs_3))
def lw_tbl : List Cond := k2_sels lw_privs ++ tables_1
theorem lw_privs_ok : ∀ q ∈ lw_privs, lw_okq q := by
  show ∀ q ∈ lw_privs_1 ++ (lw_privs_2 ++ (lw_privs_3)), lw_okq q
  exact List.forall_mem_append.mpr ⟨lw_r1, List.forall_mem_append.mpr ⟨lw_r2, lw_r3⟩⟩
def R_SO : String := "SwapOrbits"
def F_SO : u_T := fun k => match k with
  | 0 => ("SwapOrbits", "moves", "LSwapOrbits$Moves;", true)
  | 1 => ("SwapOrbits", "edges", "LSwapOrbits$Edges;", true)
  | 2 => ("SwapOrbits", "plans", "LSwapOrbits$Plans;", true)
  | 3 => ("SwapOrbits", "weights", "[I", true)
  | 4 => ("SwapOrbits", "group", "LSwapOrbits$Group;", true)
  | 5 => ("SwapOrbits", "table", "LSwapOrbits$OrbitTable;", true)
  | 6 => ("SwapOrbits", "groupKnown", "Z", false)
  | _ => ("SwapOrbits", "tableKnown", "Z", false)
def t_SO : Nat → FieldType := fun k => match k with
  | 0 => .object "SwapOrbits$Moves"
  | 1 => .object "SwapOrbits$Edges"
  | 2 => .object "SwapOrbits$Plans"
  | 3 => .array .int
  | 4 => .object "SwapOrbits$Group"
  | 5 => .object "SwapOrbits$OrbitTable"
  | 6 => .boolean
  | _ => .boolean
theorem n_SO : ∀ a, a < 8 → ∀ b, b < 8 → a ≠ b → (F_SO a).2.1 ≠ (F_SO b).2.1 := by decide +kernel
theorem t_SO_ok : ∀ k, k < 8 → parseFieldDescriptor (F_SO k).2.2.1 = some (t_SO k) := by decide +kernel
abbrev b_SO_init : ByteArray := prog_1_method_1_code
def y_SO_init : MethodName := ⟨R_SO, "<init>", "()V"⟩
abbrev b_SO_set : ByteArray := prog_1_method_2_code
def y_SO_set : MethodName := ⟨R_SO, "set", "(II)I"⟩
abbrev b_SO_move : ByteArray := prog_1_method_3_code
def y_SO_move : MethodName := ⟨R_SO, "move", "(I)I"⟩
abbrev b_SO_back : ByteArray := prog_1_method_4_code
def y_SO_back : MethodName := ⟨R_SO, "back", "()I"⟩
abbrev b_SO_edge : ByteArray := prog_1_method_5_code
def y_SO_edge : MethodName := ⟨R_SO, "edge", "(II)I"⟩
abbrev b_SO_weight : ByteArray := prog_1_method_6_code
def y_SO_weight : MethodName := ⟨R_SO, "weight", "(II)I"⟩
abbrev b_SO_told : ByteArray := prog_1_method_7_code
def y_SO_told : MethodName := ⟨R_SO, "told", "(I)I"⟩
abbrev b_SO_number : ByteArray := prog_1_method_8_code
def y_SO_number : MethodName := ⟨R_SO, "number", "(I)I"⟩
abbrev b_SO_element : ByteArray := prog_1_method_9_code
def y_SO_element : MethodName := ⟨R_SO, "element", "(I)I"⟩
abbrev b_SO_cycles : ByteArray := prog_1_method_10_code
def y_SO_cycles : MethodName := ⟨R_SO, "cycles", "(I)I"⟩
abbrev b_SO_keeps : ByteArray := prog_1_method_11_code
def y_SO_keeps : MethodName := ⟨R_SO, "keeps", "(I)I"⟩
abbrev b_SO_keepsFit : ByteArray := prog_1_method_12_code
def y_SO_keepsFit : MethodName := ⟨R_SO, "keepsFit", "(I)I"⟩
abbrev b_SO_reach : ByteArray := prog_1_method_13_code
def y_SO_reach : MethodName := ⟨R_SO, "reach", "(I)I"⟩
abbrev b_SO_order : ByteArray := prog_1_method_14_code
def y_SO_order : MethodName := ⟨R_SO, "order", "(I)I"⟩
abbrev b_SO_orbits : ByteArray := prog_1_method_15_code
def y_SO_orbits : MethodName := ⟨R_SO, "orbits", "()I"⟩
abbrev b_SO_orbitsOf : ByteArray := prog_1_method_16_code
def y_SO_orbitsOf : MethodName := ⟨R_SO, "orbitsOf", "(III)I"⟩
abbrev b_SO_fits : ByteArray := prog_1_method_17_code
def y_SO_fits : MethodName := ⟨R_SO, "fits", "()I"⟩
abbrev b_SO_full : ByteArray := prog_1_method_18_code
def y_SO_full : MethodName := ⟨R_SO, "full", "()I"⟩
abbrev b_SO_sum : ByteArray := prog_1_method_19_code
def y_SO_sum : MethodName := ⟨R_SO, "sum", "()J"⟩
abbrev b_SO_head : ByteArray := prog_1_method_20_code
def y_SO_head : MethodName := ⟨R_SO, "head", "(I)I"⟩
abbrev b_SO_mates : ByteArray := prog_1_method_21_code
def y_SO_mates : MethodName := ⟨R_SO, "mates", "(I)I"⟩
abbrev b_SO_rank : ByteArray := prog_1_method_22_code
def y_SO_rank : MethodName := ⟨R_SO, "rank", "(I)I"⟩
abbrev b_SO_nth : ByteArray := prog_1_method_23_code
def y_SO_nth : MethodName := ⟨R_SO, "nth", "(I)I"⟩
abbrev b_SO_by : ByteArray := prog_1_method_24_code
def y_SO_by : MethodName := ⟨R_SO, "by", "(II)I"⟩
abbrev b_SO_fit : ByteArray := prog_1_method_25_code
def y_SO_fit : MethodName := ⟨R_SO, "fit", "(I)I"⟩
abbrev b_SO_made : ByteArray := prog_1_method_26_code
def y_SO_made : MethodName := ⟨R_SO, "made", "(II)I"⟩
abbrev b_SO_begin : ByteArray := prog_1_method_27_code
def y_SO_begin : MethodName := ⟨R_SO, "begin", "(II)V"⟩
abbrev b_SO_forgetGroup : ByteArray := prog_1_method_28_code
def y_SO_forgetGroup : MethodName := ⟨R_SO, "forgetGroup", "()V"⟩
abbrev b_SO_knownGroup : ByteArray := prog_1_method_29_code
def y_SO_knownGroup : MethodName := ⟨R_SO, "knownGroup", "()LSwapOrbits$Group;"⟩
abbrev b_SO_knownTable : ByteArray := prog_1_method_30_code
def y_SO_knownTable : MethodName := ⟨R_SO, "knownTable", "()LSwapOrbits$OrbitTable;"⟩
abbrev b_SO_isPoint : ByteArray := prog_1_method_31_code
def y_SO_isPoint : MethodName := ⟨R_SO, "isPoint", "(I)Z"⟩
abbrev b_SO_isRow : ByteArray := prog_1_method_32_code
def y_SO_isRow : MethodName := ⟨R_SO, "isRow", "(I)Z"⟩
abbrev b_SO_isShare : ByteArray := prog_1_method_33_code
def y_SO_isShare : MethodName := ⟨R_SO, "isShare", "(I)Z"⟩
abbrev b_SO_mayHave : ByteArray := prog_1_method_34_code
def y_SO_mayHave : MethodName := ⟨R_SO, "mayHave", "(II)Z"⟩
abbrev b_SO_countKeptAndFit : ByteArray := prog_1_method_35_code
def y_SO_countKeptAndFit : MethodName := ⟨R_SO, "countKeptAndFit", "(I)I"⟩
abbrev b_SO_countHeadsOf : ByteArray := prog_1_method_36_code
def y_SO_countHeadsOf : MethodName := ⟨R_SO, "countHeadsOf", "(I)I"⟩
abbrev b_SO_countFitHeads : ByteArray := prog_1_method_37_code
def y_SO_countFitHeads : MethodName := ⟨R_SO, "countFitHeads", "()I"⟩
def R_Mo : String := "SwapOrbitsModel"
def F_Mo : u_T := fun k => match k with
  | 0 => ("SwapOrbitsModel", "n", "I", false)
  | 1 => ("SwapOrbitsModel", "c", "I", false)
  | 2 => ("SwapOrbitsModel", "plans", "I", false)
  | 3 => ("SwapOrbitsModel", "moveMany", "I", false)
  | 4 => ("SwapOrbitsModel", "moves", "[I", true)
  | 5 => ("SwapOrbitsModel", "edges", "[Z", true)
  | 6 => ("SwapOrbitsModel", "weights", "[I", true)
  | 7 => ("SwapOrbitsModel", "image", "[I", true)
  | 8 => ("SwapOrbitsModel", "factorials", "[I", true)
  | 9 => ("SwapOrbitsModel", "hasGroup", "Z", false)
  | 10 => ("SwapOrbitsModel", "isIn", "[Z", true)
  | 11 => ("SwapOrbitsModel", "order", "I", false)
  | 12 => ("SwapOrbitsModel", "rows", "[I", true)
  | 13 => ("SwapOrbitsModel", "numbers", "[I", true)
  | 14 => ("SwapOrbitsModel", "todo", "[I", true)
  | 15 => ("SwapOrbitsModel", "colour", "[I", true)
  | 16 => ("SwapOrbitsModel", "turned", "[I", true)
  | 17 => ("SwapOrbitsModel", "hasOrbits", "Z", false)
  | 18 => ("SwapOrbitsModel", "heads", "[I", true)
  | 19 => ("SwapOrbitsModel", "mates", "[I", true)
  | 20 => ("SwapOrbitsModel", "headMany", "I", false)
  | 21 => ("SwapOrbitsModel", "headList", "[I", true)
  | _ => ("SwapOrbitsModel", "ranks", "[I", true)
def t_Mo : Nat → FieldType := fun k => match k with
  | 0 => .int
  | 1 => .int
  | 2 => .int
  | 3 => .int
  | 4 => .array .int
  | 5 => .array .boolean
  | 6 => .array .int
  | 7 => .array .int
  | 8 => .array .int
  | 9 => .boolean
  | 10 => .array .boolean
  | 11 => .int
  | 12 => .array .int
  | 13 => .array .int
  | 14 => .array .int
  | 15 => .array .int
  | 16 => .array .int
  | 17 => .boolean
  | 18 => .array .int
  | 19 => .array .int
  | 20 => .int
  | 21 => .array .int
  | _ => .array .int
theorem n_Mo : ∀ a, a < 23 → ∀ b, b < 23 → a ≠ b → (F_Mo a).2.1 ≠ (F_Mo b).2.1 := by decide +kernel
theorem t_Mo_ok : ∀ k, k < 23 → parseFieldDescriptor (F_Mo k).2.2.1 = some (t_Mo k) := by decide +kernel
abbrev b_Mo_init : ByteArray := prog_9_method_1_code
def y_Mo_init : MethodName := ⟨R_Mo, "<init>", "()V"⟩
abbrev b_Mo_within : ByteArray := prog_9_method_3_code
def y_Mo_within : MethodName := ⟨R_Mo, "within", "(III)Z"⟩
abbrev b_Mo_begins : ByteArray := prog_9_method_4_code
def y_Mo_begins : MethodName := ⟨R_Mo, "begins", "(II)V"⟩
abbrev b_Mo_set : ByteArray := prog_9_method_5_code
def y_Mo_set : MethodName := ⟨R_Mo, "set", "(II)I"⟩
abbrev b_Mo_reads : ByteArray := prog_9_method_6_code
def y_Mo_reads : MethodName := ⟨R_Mo, "reads", "(I)Z"⟩
abbrev b_Mo_rowAtHand : ByteArray := prog_9_method_7_code
def y_Mo_rowAtHand : MethodName := ⟨R_Mo, "rowAtHand", "()I"⟩
abbrev b_Mo_factorial : ByteArray := prog_9_method_8_code
def y_Mo_factorial : MethodName := ⟨R_Mo, "factorial", "(I)I"⟩
abbrev b_Mo_placeAtHand : ByteArray := prog_9_method_9_code
def y_Mo_placeAtHand : MethodName := ⟨R_Mo, "placeAtHand", "()I"⟩
abbrev b_Mo_take : ByteArray := prog_9_method_10_code
def y_Mo_take : MethodName := ⟨R_Mo, "take", "(I)V"⟩
abbrev b_Mo_move : ByteArray := prog_9_method_11_code
def y_Mo_move : MethodName := ⟨R_Mo, "move", "(I)I"⟩
abbrev b_Mo_back : ByteArray := prog_9_method_12_code
def y_Mo_back : MethodName := ⟨R_Mo, "back", "()I"⟩
abbrev b_Mo_edge : ByteArray := prog_9_method_13_code
def y_Mo_edge : MethodName := ⟨R_Mo, "edge", "(II)I"⟩
abbrev b_Mo_weight : ByteArray := prog_9_method_14_code
def y_Mo_weight : MethodName := ⟨R_Mo, "weight", "(II)I"⟩
abbrev b_Mo_findGroup : ByteArray := prog_9_method_15_code
def y_Mo_findGroup : MethodName := ⟨R_Mo, "findGroup", "()V"⟩
abbrev b_Mo_isNumber : ByteArray := prog_9_method_16_code
def y_Mo_isNumber : MethodName := ⟨R_Mo, "isNumber", "(I)Z"⟩
abbrev b_Mo_number : ByteArray := prog_9_method_17_code
def y_Mo_number : MethodName := ⟨R_Mo, "number", "(I)I"⟩
abbrev b_Mo_element : ByteArray := prog_9_method_18_code
def y_Mo_element : MethodName := ⟨R_Mo, "element", "(I)I"⟩
abbrev b_Mo_cyclesOf : ByteArray := prog_9_method_19_code
def y_Mo_cyclesOf : MethodName := ⟨R_Mo, "cyclesOf", "(I)I"⟩
abbrev b_Mo_cycles : ByteArray := prog_9_method_20_code
def y_Mo_cycles : MethodName := ⟨R_Mo, "cycles", "(I)I"⟩
abbrev b_Mo_order : ByteArray := prog_9_method_21_code
def y_Mo_order : MethodName := ⟨R_Mo, "order", "(I)I"⟩
abbrev b_Mo_reach : ByteArray := prog_9_method_22_code
def y_Mo_reach : MethodName := ⟨R_Mo, "reach", "(I)I"⟩
abbrev b_Mo_told : ByteArray := prog_9_method_23_code
def y_Mo_told : MethodName := ⟨R_Mo, "told", "(I)I"⟩
abbrev b_Mo_look : ByteArray := prog_9_method_24_code
def y_Mo_look : MethodName := ⟨R_Mo, "look", "(I)V"⟩
abbrev b_Mo_makes : ByteArray := prog_9_method_25_code
def y_Mo_makes : MethodName := ⟨R_Mo, "makes", "(I)I"⟩
abbrev b_Mo_isPlan : ByteArray := prog_9_method_26_code
def y_Mo_isPlan : MethodName := ⟨R_Mo, "isPlan", "(I)Z"⟩
abbrev b_Mo_isFitNow : ByteArray := prog_9_method_27_code
def y_Mo_isFitNow : MethodName := ⟨R_Mo, "isFitNow", "()Z"⟩
abbrev b_Mo_areKept : ByteArray := prog_9_method_28_code
def y_Mo_areKept : MethodName := ⟨R_Mo, "areKept", "()Z"⟩
abbrev b_Mo_keptBy : ByteArray := prog_9_method_29_code
def y_Mo_keptBy : MethodName := ⟨R_Mo, "keptBy", "(IZ)I"⟩
abbrev b_Mo_looksOn : ByteArray := prog_9_method_30_code
def y_Mo_looksOn : MethodName := ⟨R_Mo, "looksOn", "()V"⟩
abbrev b_Mo_keeps : ByteArray := prog_9_method_31_code
def y_Mo_keeps : MethodName := ⟨R_Mo, "keeps", "(I)I"⟩
abbrev b_Mo_keepsFit : ByteArray := prog_9_method_32_code
def y_Mo_keepsFit : MethodName := ⟨R_Mo, "keepsFit", "(I)I"⟩
abbrev b_Mo_findOrbits : ByteArray := prog_9_method_33_code
def y_Mo_findOrbits : MethodName := ⟨R_Mo, "findOrbits", "()V"⟩
abbrev b_Mo_joins : ByteArray := prog_9_method_34_code
def y_Mo_joins : MethodName := ⟨R_Mo, "joins", "(I)V"⟩
abbrev b_Mo_orbits : ByteArray := prog_9_method_35_code
def y_Mo_orbits : MethodName := ⟨R_Mo, "orbits", "()I"⟩
abbrev b_Mo_orbitsOf : ByteArray := prog_9_method_36_code
def y_Mo_orbitsOf : MethodName := ⟨R_Mo, "orbitsOf", "(III)I"⟩
abbrev b_Mo_fits : ByteArray := prog_9_method_37_code
def y_Mo_fits : MethodName := ⟨R_Mo, "fits", "()I"⟩
abbrev b_Mo_full : ByteArray := prog_9_method_38_code
def y_Mo_full : MethodName := ⟨R_Mo, "full", "()I"⟩
abbrev b_Mo_sum : ByteArray := prog_9_method_39_code
def y_Mo_sum : MethodName := ⟨R_Mo, "sum", "()J"⟩
abbrev b_Mo_head : ByteArray := prog_9_method_40_code
def y_Mo_head : MethodName := ⟨R_Mo, "head", "(I)I"⟩
abbrev b_Mo_mates : ByteArray := prog_9_method_41_code
def y_Mo_mates : MethodName := ⟨R_Mo, "mates", "(I)I"⟩
abbrev b_Mo_rank : ByteArray := prog_9_method_42_code
def y_Mo_rank : MethodName := ⟨R_Mo, "rank", "(I)I"⟩
abbrev b_Mo_nth : ByteArray := prog_9_method_43_code
def y_Mo_nth : MethodName := ⟨R_Mo, "nth", "(I)I"⟩
abbrev b_Mo_by : ByteArray := prog_9_method_44_code
def y_Mo_by : MethodName := ⟨R_Mo, "by", "(II)I"⟩
abbrev b_Mo_fit : ByteArray := prog_9_method_45_code
def y_Mo_fit : MethodName := ⟨R_Mo, "fit", "(I)I"⟩
abbrev b_Mo_made : ByteArray := prog_9_method_46_code
def y_Mo_made : MethodName := ⟨R_Mo, "made", "(II)I"⟩
def R_Edges : String := "SwapOrbits$Edges"
def F_Edges : u_T := fun k => match k with
  | _ => ("SwapOrbits$Edges", "neighbours", "[I", true)
def t_Edges : Nat → FieldType := fun k => match k with
  | _ => .array .int
theorem n_Edges : ∀ a, a < 1 → ∀ b, b < 1 → a ≠ b → (F_Edges a).2.1 ≠ (F_Edges b).2.1 := by decide +kernel
theorem t_Edges_ok : ∀ k, k < 1 → parseFieldDescriptor (F_Edges k).2.2.1 = some (t_Edges k) := by decide +kernel
abbrev b_Edges_init : ByteArray := prog_2_method_1_code
def y_Edges_init : MethodName := ⟨R_Edges, "<init>", "()V"⟩
abbrev b_Edges_clear : ByteArray := prog_2_method_2_code
def y_Edges_clear : MethodName := ⟨R_Edges, "clear", "()V"⟩
abbrev b_Edges_flip : ByteArray := prog_2_method_3_code
def y_Edges_flip : MethodName := ⟨R_Edges, "flip", "(II)V"⟩
abbrev b_Edges_joins : ByteArray := prog_2_method_4_code
def y_Edges_joins : MethodName := ⟨R_Edges, "joins", "(II)Z"⟩
abbrev b_Edges_total : ByteArray := prog_2_method_5_code
def y_Edges_total : MethodName := ⟨R_Edges, "total", "()I"⟩
abbrev b_Edges_areKeptBy : ByteArray := prog_2_method_6_code
def y_Edges_areKeptBy : MethodName := ⟨R_Edges, "areKeptBy", "(LSwapOrbits$Moves;)Z"⟩
abbrev b_Edges_areAllTakenToEdges : ByteArray := prog_2_method_7_code
def y_Edges_areAllTakenToEdges : MethodName := ⟨R_Edges, "areAllTakenToEdges", "(I)Z"⟩
abbrev b_Edges_allow : ByteArray := prog_2_method_8_code
def y_Edges_allow : MethodName := ⟨R_Edges, "allow", "(I)Z"⟩
abbrev b_Edges_isLikeALesserNeighbour : ByteArray := prog_2_method_9_code
def y_Edges_isLikeALesserNeighbour : MethodName := ⟨R_Edges, "isLikeALesserNeighbour", "(II)Z"⟩
def R_Group : String := "SwapOrbits$Group"
def F_Group : u_T := fun k => match k with
  | 0 => ("SwapOrbits$Group", "rows", "[I", true)
  | 1 => ("SwapOrbits$Group", "rowByPlace", "[I", true)
  | 2 => ("SwapOrbits$Group", "numberByPlace", "[I", true)
  | 3 => ("SwapOrbits$Group", "points", "I", false)
  | _ => ("SwapOrbits$Group", "size", "I", false)
def t_Group : Nat → FieldType := fun k => match k with
  | 0 => .array .int
  | 1 => .array .int
  | 2 => .array .int
  | 3 => .int
  | _ => .int
theorem n_Group : ∀ a, a < 5 → ∀ b, b < 5 → a ≠ b → (F_Group a).2.1 ≠ (F_Group b).2.1 := by decide +kernel
theorem t_Group_ok : ∀ k, k < 5 → parseFieldDescriptor (F_Group k).2.2.1 = some (t_Group k) := by decide +kernel
abbrev b_Group_init : ByteArray := prog_3_method_1_code
def y_Group_init : MethodName := ⟨R_Group, "<init>", "()V"⟩
abbrev b_Group_close : ByteArray := prog_3_method_2_code
def y_Group_close : MethodName := ⟨R_Group, "close", "(ILSwapOrbits$Moves;)V"⟩
abbrev b_Group_find : ByteArray := prog_3_method_3_code
def y_Group_find : MethodName := ⟨R_Group, "find", "(I)V"⟩
abbrev b_Group_putInOrder : ByteArray := prog_3_method_4_code
def y_Group_putInOrder : MethodName := ⟨R_Group, "putInOrder", "()V"⟩
abbrev b_Group_isCell : ByteArray := prog_3_method_5_code
def y_Group_isCell : MethodName := ⟨R_Group, "isCell", "(I)Z"⟩
abbrev b_Group_rowAt : ByteArray := prog_3_method_6_code
def y_Group_rowAt : MethodName := ⟨R_Group, "rowAt", "(I)I"⟩
abbrev b_Group_numberOf : ByteArray := prog_3_method_7_code
def y_Group_numberOf : MethodName := ⟨R_Group, "numberOf", "(I)I"⟩
abbrev b_Group_allCycles : ByteArray := prog_3_method_8_code
def y_Group_allCycles : MethodName := ⟨R_Group, "allCycles", "()I"⟩
abbrev b_Group_leastTarget : ByteArray := prog_3_method_9_code
def y_Group_leastTarget : MethodName := ⟨R_Group, "leastTarget", "(I)I"⟩
def R_Moves : String := "SwapOrbits$Moves"
def F_Moves : u_T := fun k => match k with
  | 0 => ("SwapOrbits$Moves", "rows", "[I", true)
  | _ => ("SwapOrbits$Moves", "count", "I", false)
def t_Moves : Nat → FieldType := fun k => match k with
  | 0 => .array .int
  | _ => .int
theorem n_Moves : ∀ a, a < 2 → ∀ b, b < 2 → a ≠ b → (F_Moves a).2.1 ≠ (F_Moves b).2.1 := by decide +kernel
theorem t_Moves_ok : ∀ k, k < 2 → parseFieldDescriptor (F_Moves k).2.2.1 = some (t_Moves k) := by decide +kernel
abbrev b_Moves_init : ByteArray := prog_4_method_1_code
def y_Moves_init : MethodName := ⟨R_Moves, "<init>", "()V"⟩
abbrev b_Moves_clear : ByteArray := prog_4_method_2_code
def y_Moves_clear : MethodName := ⟨R_Moves, "clear", "()V"⟩
abbrev b_Moves_push : ByteArray := prog_4_method_3_code
def y_Moves_push : MethodName := ⟨R_Moves, "push", "(I)Z"⟩
abbrev b_Moves_pop : ByteArray := prog_4_method_4_code
def y_Moves_pop : MethodName := ⟨R_Moves, "pop", "()Z"⟩
def R_Table : String := "SwapOrbits$OrbitTable"
def F_Table : u_T := fun k => match k with
  | 0 => ("SwapOrbits$OrbitTable", "ranks", "[I", true)
  | 1 => ("SwapOrbits$OrbitTable", "heads", "[I", true)
  | 2 => ("SwapOrbits$OrbitTable", "sizes", "[I", true)
  | 3 => ("SwapOrbits$OrbitTable", "found", "[I", true)
  | 4 => ("SwapOrbits$OrbitTable", "foundCount", "I", false)
  | _ => ("SwapOrbits$OrbitTable", "count", "I", false)
def t_Table : Nat → FieldType := fun k => match k with
  | 0 => .array .int
  | 1 => .array .int
  | 2 => .array .int
  | 3 => .array .int
  | 4 => .int
  | _ => .int
theorem n_Table : ∀ a, a < 6 → ∀ b, b < 6 → a ≠ b → (F_Table a).2.1 ≠ (F_Table b).2.1 := by decide +kernel
theorem t_Table_ok : ∀ k, k < 6 → parseFieldDescriptor (F_Table k).2.2.1 = some (t_Table k) := by decide +kernel
abbrev b_Table_init : ByteArray := prog_5_method_1_code
def y_Table_init : MethodName := ⟨R_Table, "<init>", "()V"⟩
abbrev b_Table_build : ByteArray := prog_5_method_2_code
def y_Table_build : MethodName := ⟨R_Table, "build", "(LSwapOrbits$Plans;LSwapOrbits$Moves;)V"⟩
abbrev b_Table_flood : ByteArray := prog_5_method_3_code
def y_Table_flood : MethodName := ⟨R_Table, "flood", "(ILSwapOrbits$Plans;LSwapOrbits$Moves;)I"⟩
abbrev b_Table_find : ByteArray := prog_5_method_4_code
def y_Table_find : MethodName := ⟨R_Table, "find", "(I)V"⟩
abbrev b_Table_isCell : ByteArray := prog_5_method_5_code
def y_Table_isCell : MethodName := ⟨R_Table, "isCell", "(I)Z"⟩
abbrev b_Table_rankOf : ByteArray := prog_5_method_6_code
def y_Table_rankOf : MethodName := ⟨R_Table, "rankOf", "(I)I"⟩
abbrev b_Table_headAt : ByteArray := prog_5_method_7_code
def y_Table_headAt : MethodName := ⟨R_Table, "headAt", "(I)I"⟩
abbrev b_Table_sizeAt : ByteArray := prog_5_method_8_code
def y_Table_sizeAt : MethodName := ⟨R_Table, "sizeAt", "(I)I"⟩
abbrev b_Table_countOfSize : ByteArray := prog_5_method_9_code
def y_Table_countOfSize : MethodName := ⟨R_Table, "countOfSize", "(I)I"⟩
def R_Plans : String := "SwapOrbits$Plans"
def F_Plans : u_T := fun k => match k with
  | 0 => ("SwapOrbits$Plans", "units", "[I", true)
  | 1 => ("SwapOrbits$Plans", "points", "I", false)
  | 2 => ("SwapOrbits$Plans", "colours", "I", false)
  | _ => ("SwapOrbits$Plans", "count", "I", false)
def t_Plans : Nat → FieldType := fun k => match k with
  | 0 => .array .int
  | 1 => .int
  | 2 => .int
  | _ => .int
theorem n_Plans : ∀ a, a < 4 → ∀ b, b < 4 → a ≠ b → (F_Plans a).2.1 ≠ (F_Plans b).2.1 := by decide +kernel
theorem t_Plans_ok : ∀ k, k < 4 → parseFieldDescriptor (F_Plans k).2.2.1 = some (t_Plans k) := by decide +kernel
abbrev b_Plans_init : ByteArray := prog_6_method_1_code
def y_Plans_init : MethodName := ⟨R_Plans, "<init>", "()V"⟩
abbrev b_Plans_shape : ByteArray := prog_6_method_2_code
def y_Plans_shape : MethodName := ⟨R_Plans, "shape", "(II)V"⟩
abbrev b_Plans_power : ByteArray := prog_6_method_3_code
def y_Plans_power : MethodName := ⟨R_Plans, "power", "(II)I"⟩
abbrev b_Plans_has : ByteArray := prog_6_method_4_code
def y_Plans_has : MethodName := ⟨R_Plans, "has", "(I)Z"⟩
abbrev b_Plans_spread : ByteArray := prog_6_method_5_code
def y_Plans_spread : MethodName := ⟨R_Plans, "spread", "(I)I"⟩
abbrev b_Plans_colourAt : ByteArray := prog_6_method_6_code
def y_Plans_colourAt : MethodName := ⟨R_Plans, "colourAt", "(II)I"⟩
abbrev b_Plans_moved : ByteArray := prog_6_method_7_code
def y_Plans_moved : MethodName := ⟨R_Plans, "moved", "(II)I"⟩
abbrev b_Plans_isKept : ByteArray := prog_6_method_8_code
def y_Plans_isKept : MethodName := ⟨R_Plans, "isKept", "(II)Z"⟩
abbrev b_Plans_tally : ByteArray := prog_6_method_9_code
def y_Plans_tally : MethodName := ⟨R_Plans, "tally", "(I)I"⟩
abbrev b_Plans_tallyOf : ByteArray := prog_6_method_10_code
def y_Plans_tallyOf : MethodName := ⟨R_Plans, "tallyOf", "(IIII)I"⟩
abbrev b_Plans_product : ByteArray := prog_6_method_11_code
def y_Plans_product : MethodName := ⟨R_Plans, "product", "(I[I)J"⟩
def R_Rows : String := "SwapOrbits$Rows"
abbrev b_Rows_target : ByteArray := prog_7_method_2_code
def y_Rows_target : MethodName := ⟨R_Rows, "target", "(II)I"⟩
abbrev b_Rows_isPermutation : ByteArray := prog_7_method_3_code
def y_Rows_isPermutation : MethodName := ⟨R_Rows, "isPermutation", "(II)Z"⟩
abbrev b_Rows_identity : ByteArray := prog_7_method_4_code
def y_Rows_identity : MethodName := ⟨R_Rows, "identity", "(I)I"⟩
abbrev b_Rows_chain : ByteArray := prog_7_method_5_code
def y_Rows_chain : MethodName := ⟨R_Rows, "chain", "(III)I"⟩
abbrev b_Rows_place : ByteArray := prog_7_method_6_code
def y_Rows_place : MethodName := ⟨R_Rows, "place", "(II)I"⟩
abbrev b_Rows_countCycles : ByteArray := prog_7_method_7_code
def y_Rows_countCycles : MethodName := ⟨R_Rows, "countCycles", "(II)I"⟩
abbrev b_Rows_cycleOf : ByteArray := prog_7_method_8_code
def y_Rows_cycleOf : MethodName := ⟨R_Rows, "cycleOf", "(III)I"⟩
abbrev b_Rows_period : ByteArray := prog_7_method_9_code
def y_Rows_period : MethodName := ⟨R_Rows, "period", "(II)I"⟩
def R_Law : String := "SwapOrbitsLaw"
abbrev b_Law_law : ByteArray := code
def R_Integer : String := "java/lang/Integer"
abbrev b_Integer_bitCount : ByteArray := prog_10_method_49_code
def y_Integer_bitCount : MethodName := ⟨R_Integer, "bitCount", "(I)I"⟩
def R_Math : String := "java/lang/Math"
abbrev b_Math_min : ByteArray := prog_11_method_69_code
def y_Math_min : MethodName := ⟨R_Math, "min", "(II)I"⟩
def R_Arrays : String := "java/util/Arrays"
abbrev b_Arrays_fill : ByteArray := prog_12_method_103_code
def y_Arrays_fill : MethodName := ⟨R_Arrays, "fill", "([II)V"⟩
abbrev classes : List vw_C := [(R_SO, F_SO, 8), (R_Moves, F_Moves, 2), (R_Edges, F_Edges, 1), (R_Group, F_Group, 5), (R_Plans, F_Plans, 4), (R_Table, F_Table, 6), (R_Mo, F_Mo, 23)]
