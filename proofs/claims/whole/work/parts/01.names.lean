-- ===== PART A: goes FIRST, ahead of the names: the tables' words, and 'selects' of the private methods out of them =====
/-- a private method of a class that the tables say can be made, by its rows of tables_1 -/
def lw_okq (q : MethodName × Nat) : Prop := (q.1.cls ≠ "java/lang/invoke/MethodHandle" ∧ q.1.cls ≠ "java/lang/invoke/VarHandle") ∧ Cond.instantiable q.1.cls q.2 ∈ tables_1 ∧ Cond.privateMethod q.1 ∈ tables_1 ∧ Cond.instanceMethod q.1 ∈ tables_1
theorem lw_p0 : lw_okq (⟨"SmallPieces", "forgetLatest", "()V"⟩, 5) := ⟨⟨by decide +kernel, by decide +kernel⟩, List.mem_of_getElem? (i := 9) (by decide +kernel), List.mem_of_getElem? (i := 95) (by decide +kernel), List.mem_of_getElem? (i := 96) (by decide +kernel)⟩
theorem lw_p1 : lw_okq (⟨"SmallPieces", "setsWith", "(II)LSmallPieces$Sets;"⟩, 5) := ⟨⟨by decide +kernel, by decide +kernel⟩, List.mem_of_getElem? (i := 9) (by decide +kernel), List.mem_of_getElem? (i := 198) (by decide +kernel), List.mem_of_getElem? (i := 199) (by decide +kernel)⟩
theorem lw_p2 : lw_okq (⟨"SmallPieces", "setOf", "(IIII)I"⟩, 5) := ⟨⟨by decide +kernel, by decide +kernel⟩, List.mem_of_getElem? (i := 9) (by decide +kernel), List.mem_of_getElem? (i := 282) (by decide +kernel), List.mem_of_getElem? (i := 283) (by decide +kernel)⟩
theorem lw_p3 : lw_okq (⟨"SmallPieces$Sets", "weigh", "(IIII)V"⟩, 5) := ⟨⟨by decide +kernel, by decide +kernel⟩, List.mem_of_getElem? (i := 39) (by decide +kernel), List.mem_of_getElem? (i := 304) (by decide +kernel), List.mem_of_getElem? (i := 305) (by decide +kernel)⟩
theorem lw_p4 : lw_okq (⟨"SmallPiecesModel", "areTwo", "(II)Z"⟩, 15) := ⟨⟨by decide +kernel, by decide +kernel⟩, List.mem_of_getElem? (i := 346) (by decide +kernel), List.mem_of_getElem? (i := 414) (by decide +kernel), List.mem_of_getElem? (i := 415) (by decide +kernel)⟩
theorem lw_p5 : lw_okq (⟨"SmallPiecesModel", "isNode", "(I)Z"⟩, 15) := ⟨⟨by decide +kernel, by decide +kernel⟩, List.mem_of_getElem? (i := 346) (by decide +kernel), List.mem_of_getElem? (i := 418) (by decide +kernel), List.mem_of_getElem? (i := 419) (by decide +kernel)⟩
theorem lw_p6 : lw_okq (⟨"SmallPiecesModel", "countAll", "()V"⟩, 15) := ⟨⟨by decide +kernel, by decide +kernel⟩, List.mem_of_getElem? (i := 346) (by decide +kernel), List.mem_of_getElem? (i := 422) (by decide +kernel), List.mem_of_getElem? (i := 423) (by decide +kernel)⟩
theorem lw_p7 : lw_okq (⟨"SmallPiecesModel", "begins", "(I)Z"⟩, 15) := ⟨⟨by decide +kernel, by decide +kernel⟩, List.mem_of_getElem? (i := 346) (by decide +kernel), List.mem_of_getElem? (i := 426) (by decide +kernel), List.mem_of_getElem? (i := 427) (by decide +kernel)⟩
theorem lw_p8 : lw_okq (⟨"SmallPiecesModel", "sortAtHand", "()I"⟩, 15) := ⟨⟨by decide +kernel, by decide +kernel⟩, List.mem_of_getElem? (i := 346) (by decide +kernel), List.mem_of_getElem? (i := 430) (by decide +kernel), List.mem_of_getElem? (i := 431) (by decide +kernel)⟩
theorem lw_p9 : lw_okq (⟨"SmallPiecesModel", "degreeIn", "(I)I"⟩, 15) := ⟨⟨by decide +kernel, by decide +kernel⟩, List.mem_of_getElem? (i := 346) (by decide +kernel), List.mem_of_getElem? (i := 434) (by decide +kernel), List.mem_of_getElem? (i := 435) (by decide +kernel)⟩
theorem lw_p10 : lw_okq (⟨"SmallPiecesModel", "placeOf", "(II)I"⟩, 15) := ⟨⟨by decide +kernel, by decide +kernel⟩, List.mem_of_getElem? (i := 346) (by decide +kernel), List.mem_of_getElem? (i := 438) (by decide +kernel), List.mem_of_getElem? (i := 439) (by decide +kernel)⟩
theorem lw_p11 : lw_okq (⟨"SmallPiecesModel", "goesOn", "()Z"⟩, 15) := ⟨⟨by decide +kernel, by decide +kernel⟩, List.mem_of_getElem? (i := 346) (by decide +kernel), List.mem_of_getElem? (i := 442) (by decide +kernel), List.mem_of_getElem? (i := 443) (by decide +kernel)⟩
theorem lw_p12 : lw_okq (⟨"SmallPiecesModel", "turn", "(II)V"⟩, 15) := ⟨⟨by decide +kernel, by decide +kernel⟩, List.mem_of_getElem? (i := 346) (by decide +kernel), List.mem_of_getElem? (i := 446) (by decide +kernel), List.mem_of_getElem? (i := 447) (by decide +kernel)⟩
theorem lw_p13 : lw_okq (⟨"SmallPiecesModel", "isSort", "(II)Z"⟩, 15) := ⟨⟨by decide +kernel, by decide +kernel⟩, List.mem_of_getElem? (i := 346) (by decide +kernel), List.mem_of_getElem? (i := 470) (by decide +kernel), List.mem_of_getElem? (i := 471) (by decide +kernel)⟩
theorem lw_p14 : lw_okq (⟨"SmallPiecesModel", "isInSet", "(I)Z"⟩, 15) := ⟨⟨by decide +kernel, by decide +kernel⟩, List.mem_of_getElem? (i := 346) (by decide +kernel), List.mem_of_getElem? (i := 478) (by decide +kernel), List.mem_of_getElem? (i := 479) (by decide +kernel)⟩
theorem lw_p15 : lw_okq (⟨"SmallPiecesModel", "takes", "(IIII)Z"⟩, 15) := ⟨⟨by decide +kernel, by decide +kernel⟩, List.mem_of_getElem? (i := 346) (by decide +kernel), List.mem_of_getElem? (i := 510) (by decide +kernel), List.mem_of_getElem? (i := 511) (by decide +kernel)⟩
def lw_privs_1 : List (MethodName × Nat) := [(⟨"SmallPieces", "forgetLatest", "()V"⟩, 5), (⟨"SmallPieces", "setsWith", "(II)LSmallPieces$Sets;"⟩, 5), (⟨"SmallPieces", "setOf", "(IIII)I"⟩, 5), (⟨"SmallPieces$Sets", "weigh", "(IIII)V"⟩, 5), (⟨"SmallPiecesModel", "areTwo", "(II)Z"⟩, 15), (⟨"SmallPiecesModel", "isNode", "(I)Z"⟩, 15), (⟨"SmallPiecesModel", "countAll", "()V"⟩, 15), (⟨"SmallPiecesModel", "begins", "(I)Z"⟩, 15), (⟨"SmallPiecesModel", "sortAtHand", "()I"⟩, 15), (⟨"SmallPiecesModel", "degreeIn", "(I)I"⟩, 15), (⟨"SmallPiecesModel", "placeOf", "(II)I"⟩, 15), (⟨"SmallPiecesModel", "goesOn", "()Z"⟩, 15), (⟨"SmallPiecesModel", "turn", "(II)V"⟩, 15), (⟨"SmallPiecesModel", "isSort", "(II)Z"⟩, 15), (⟨"SmallPiecesModel", "isInSet", "(I)Z"⟩, 15), (⟨"SmallPiecesModel", "takes", "(IIII)Z"⟩, 15)]
theorem lw_r1 : ∀ q ∈ lw_privs_1, lw_okq q := List.forall_mem_cons.mpr ⟨lw_p0, List.forall_mem_cons.mpr ⟨lw_p1, List.forall_mem_cons.mpr ⟨lw_p2, List.forall_mem_cons.mpr ⟨lw_p3, List.forall_mem_cons.mpr ⟨lw_p4, List.forall_mem_cons.mpr ⟨lw_p5, List.forall_mem_cons.mpr ⟨lw_p6, List.forall_mem_cons.mpr ⟨lw_p7, List.forall_mem_cons.mpr ⟨lw_p8, List.forall_mem_cons.mpr ⟨lw_p9, List.forall_mem_cons.mpr ⟨lw_p10, List.forall_mem_cons.mpr ⟨lw_p11, List.forall_mem_cons.mpr ⟨lw_p12, List.forall_mem_cons.mpr ⟨lw_p13, List.forall_mem_cons.mpr ⟨lw_p14, List.forall_mem_cons.mpr ⟨lw_p15, fun _ h => absurd h List.not_mem_nil⟩⟩⟩⟩⟩⟩⟩⟩⟩⟩⟩⟩⟩⟩⟩⟩
theorem lw_p16 : lw_okq (⟨"SmallPiecesModel", "rows", "(IIIZ)I"⟩, 15) := ⟨⟨by decide +kernel, by decide +kernel⟩, List.mem_of_getElem? (i := 346) (by decide +kernel), List.mem_of_getElem? (i := 530) (by decide +kernel), List.mem_of_getElem? (i := 531) (by decide +kernel)⟩
def lw_privs_2 : List (MethodName × Nat) := [(⟨"SmallPiecesModel", "rows", "(IIIZ)I"⟩, 15)]
theorem lw_r2 : ∀ q ∈ lw_privs_2, lw_okq q := List.forall_mem_cons.mpr ⟨lw_p16, fun _ h => absurd h List.not_mem_nil⟩
def lw_privs : List (MethodName × Nat) := lw_privs_1 ++ (lw_privs_2)
def lw_tbl : List Cond := k2_sels lw_privs ++ tables_1
theorem lw_privs_ok : ∀ q ∈ lw_privs, lw_okq q := by
  show ∀ q ∈ lw_privs_1 ++ (lw_privs_2), lw_okq q
  exact List.forall_mem_append.mpr ⟨lw_r1, lw_r2⟩
-- names: classes, fields, methods
abbrev RG : String := "SmallPieces$Graph"
abbrev RS : String := "SmallPieces$Sets"
abbrev RR : String := "SmallPieces$Routes"
abbrev RP : String := "SmallPieces"
abbrev RM : String := "SmallPiecesModel"
abbrev RL : String := "SmallPiecesLaw"
abbrev RI : String := "java/lang/Integer"
abbrev RA : String := "java/util/Arrays"
def TG : u_T := fun k => match k with
  | 0 => ("SmallPieces$Graph", "joined", "[I", true)
  | 1 => ("SmallPieces$Graph", "painted", "[I", true)
  | 2 => ("SmallPieces$Graph", "nodes", "I", false)
  | _ => ("SmallPieces$Graph", "edges", "I", false)
def tyG : Nat → FieldType := fun k => match k with
  | 0 => .array .int
  | 1 => .array .int
  | 2 => .int
  | _ => .int
theorem nmG : ∀ a, a < 4 → ∀ b, b < 4 → a ≠ b → (TG a).2.1 ≠ (TG b).2.1 := by decide +kernel
theorem tyG_ok : ∀ k, k < 4 → parseFieldDescriptor (TG k).2.2.1 = some (tyG k) := by decide +kernel
def TS : u_T := fun k => match k with
  | 0 => ("SmallPieces$Sets", "graph", "LSmallPieces$Graph;", true)
  | 1 => ("SmallPieces$Sets", "ownSorts", "[I", true)
  | 2 => ("SmallPieces$Sets", "members", "[I", true)
  | 3 => ("SmallPieces$Sets", "sorts", "[I", true)
  | _ => ("SmallPieces$Sets", "balance", "[I", true)
def tyS : Nat → FieldType := fun k => match k with
  | 0 => .object "SmallPieces$Graph"
  | 1 => .array .int
  | 2 => .array .int
  | 3 => .array .int
  | _ => .array .int
theorem nmS : ∀ a, a < 5 → ∀ b, b < 5 → a ≠ b → (TS a).2.1 ≠ (TS b).2.1 := by decide +kernel
theorem tyS_ok : ∀ k, k < 5 → parseFieldDescriptor (TS k).2.2.1 = some (tyS k) := by decide +kernel
def TP : u_T := fun k => match k with
  | 0 => ("SmallPieces", "graph", "LSmallPieces$Graph;", true)
  | 1 => ("SmallPieces", "threes", "LSmallPieces$Sets;", true)
  | 2 => ("SmallPieces", "fours", "LSmallPieces$Sets;", true)
  | 3 => ("SmallPieces", "latestA", "I", false)
  | _ => ("SmallPieces", "latestB", "I", false)
def tyP : Nat → FieldType := fun k => match k with
  | 0 => .object "SmallPieces$Graph"
  | 1 => .object "SmallPieces$Sets"
  | 2 => .object "SmallPieces$Sets"
  | 3 => .int
  | _ => .int
theorem nmP : ∀ a, a < 5 → ∀ b, b < 5 → a ≠ b → (TP a).2.1 ≠ (TP b).2.1 := by decide +kernel
theorem tyP_ok : ∀ k, k < 5 → parseFieldDescriptor (TP k).2.2.1 = some (tyP k) := by decide +kernel
def TM : u_T := fun k => match k with
  | 0 => ("SmallPiecesModel", "sorts", "[I", true)
  | 1 => ("SmallPiecesModel", "n", "I", false)
  | 2 => ("SmallPiecesModel", "colours", "[I", true)
  | 3 => ("SmallPiecesModel", "joined", "[Z", true)
  | 4 => ("SmallPiecesModel", "hasBefore", "Z", false)
  | 5 => ("SmallPiecesModel", "before", "[I", true)
  | 6 => ("SmallPiecesModel", "counts", "[I", true)
  | 7 => ("SmallPiecesModel", "set", "[I", true)
  | 8 => ("SmallPiecesModel", "size", "I", false)
  | 9 => ("SmallPiecesModel", "tally", "[I", true)
  | 10 => ("SmallPiecesModel", "asked", "[I", true)
  | 11 => ("SmallPiecesModel", "one", "[I", true)
  | 12 => ("SmallPiecesModel", "other", "[I", true)
  | 13 => ("SmallPiecesModel", "row", "[I", true)
  | _ => ("SmallPiecesModel", "tried", "[I", true)
def tyM : Nat → FieldType := fun k => match k with
  | 0 => .array .int
  | 1 => .int
  | 2 => .array .int
  | 3 => .array .boolean
  | 4 => .boolean
  | 5 => .array .int
  | 6 => .array .int
  | 7 => .array .int
  | 8 => .int
  | 9 => .array .int
  | 10 => .array .int
  | 11 => .array .int
  | 12 => .array .int
  | 13 => .array .int
  | _ => .array .int
theorem nmM : ∀ a, a < 15 → ∀ b, b < 15 → a ≠ b → (TM a).2.1 ≠ (TM b).2.1 := by decide +kernel
theorem tyM_ok : ∀ k, k < 15 → parseFieldDescriptor (TM k).2.2.1 = some (tyM k) := by decide +kernel
abbrev vwCl : List vw_C := [(RG, TG, 4), (RS, TS, 5), (RP, TP, 5), (RM, TM, 15)]
abbrev yP_init : MethodName := ⟨"SmallPieces", "<init>", "()V"⟩
abbrev yP_after : MethodName := ⟨"SmallPieces", "after", "(IIII)I"⟩
abbrev yP_both : MethodName := ⟨"SmallPieces", "both", "(II)I"⟩
abbrev yP_change : MethodName := ⟨"SmallPieces", "change", "(II)I"⟩
abbrev yP_clear : MethodName := ⟨"SmallPieces", "clear", "()I"⟩
abbrev yP_closed : MethodName := ⟨"SmallPieces", "closed", "(II)I"⟩
abbrev yP_colour : MethodName := ⟨"SmallPieces", "colour", "(II)I"⟩
abbrev yP_coloured : MethodName := ⟨"SmallPieces", "coloured", "(III)I"⟩
abbrev yP_count : MethodName := ⟨"SmallPieces", "count", "(II)I"⟩
abbrev yP_degree : MethodName := ⟨"SmallPieces", "degree", "(I)I"⟩
abbrev yP_edge : MethodName := ⟨"SmallPieces", "edge", "(II)I"⟩
abbrev yP_forgetLatest : MethodName := ⟨"SmallPieces", "forgetLatest", "()V"⟩
abbrev yP_holds : MethodName := ⟨"SmallPieces", "holds", "(II)Z"⟩
abbrev yP_isColour : MethodName := ⟨"SmallPieces", "isColour", "(I)Z"⟩
abbrev yP_isRingLength : MethodName := ⟨"SmallPieces", "isRingLength", "(I)Z"⟩
abbrev yP_like : MethodName := ⟨"SmallPieces", "like", "(II)I"⟩
abbrev yP_mixed : MethodName := ⟨"SmallPieces", "mixed", "(II)I"⟩
abbrev yP_node : MethodName := ⟨"SmallPieces", "node", "(I)I"⟩
abbrev yP_nodeAt : MethodName := ⟨"SmallPieces", "nodeAt", "(II)I"⟩
abbrev yP_nth : MethodName := ⟨"SmallPieces", "nth", "(IIII)I"⟩
abbrev yP_pair : MethodName := ⟨"SmallPieces", "pair", "(IIII)I"⟩
abbrev yP_placed : MethodName := ⟨"SmallPieces", "placed", "(IIII)I"⟩
abbrev yP_rank : MethodName := ⟨"SmallPieces", "rank", "(IIII)I"⟩
abbrev yP_reduced : MethodName := ⟨"SmallPieces", "reduced", "(II)I"⟩
abbrev yP_rings : MethodName := ⟨"SmallPieces", "rings", "(I)I"⟩
abbrev yP_ringsBy : MethodName := ⟨"SmallPieces", "ringsBy", "(II)I"⟩
abbrev yP_setOf : MethodName := ⟨"SmallPieces", "setOf", "(IIII)I"⟩
abbrev yP_setsWith : MethodName := ⟨"SmallPieces", "setsWith", "(II)LSmallPieces$Sets;"⟩
abbrev yP_sort : MethodName := ⟨"SmallPieces", "sort", "(IIII)I"⟩
abbrev yP_told : MethodName := ⟨"SmallPieces", "told", "(I)I"⟩
abbrev yP_ways : MethodName := ⟨"SmallPieces", "ways", "(III)I"⟩
abbrev yG_init : MethodName := ⟨"SmallPieces$Graph", "<init>", "()V"⟩
abbrev yG_add : MethodName := ⟨"SmallPieces$Graph", "add", "(I)I"⟩
abbrev yG_all : MethodName := ⟨"SmallPieces$Graph", "all", "()I"⟩
abbrev yG_bit : MethodName := ⟨"SmallPieces$Graph", "bit", "(I)I"⟩
abbrev yG_coloursDiffer : MethodName := ⟨"SmallPieces$Graph", "coloursDiffer", "(I)Z"⟩
abbrev yG_degreeIn : MethodName := ⟨"SmallPieces$Graph", "degreeIn", "(II)I"⟩
abbrev yG_edgesIn : MethodName := ⟨"SmallPieces$Graph", "edgesIn", "(I)I"⟩
abbrev yG_empty : MethodName := ⟨"SmallPieces$Graph", "empty", "()I"⟩
abbrev yG_isFull : MethodName := ⟨"SmallPieces$Graph", "isFull", "()Z"⟩
abbrev yG_joins : MethodName := ⟨"SmallPieces$Graph", "joins", "(II)Z"⟩
abbrev yG_knows : MethodName := ⟨"SmallPieces$Graph", "knows", "(I)Z"⟩
abbrev yG_near : MethodName := ⟨"SmallPieces$Graph", "near", "(I)I"⟩
abbrev yG_ofColours : MethodName := ⟨"SmallPieces$Graph", "ofColours", "(I)I"⟩
abbrev yG_paint : MethodName := ⟨"SmallPieces$Graph", "paint", "(II)I"⟩
abbrev yG_sortOf : MethodName := ⟨"SmallPieces$Graph", "sortOf", "(I)I"⟩
abbrev yG_toggle : MethodName := ⟨"SmallPieces$Graph", "toggle", "(II)V"⟩
abbrev yG_twoOf : MethodName := ⟨"SmallPieces$Graph", "twoOf", "(II)I"⟩
abbrev yR_ringsThrough : MethodName := ⟨"SmallPieces$Routes", "ringsThrough", "(LSmallPieces$Graph;III)I"⟩
abbrev yR_waysBetween : MethodName := ⟨"SmallPieces$Routes", "waysBetween", "(LSmallPieces$Graph;IIII)I"⟩
abbrev yS_init : MethodName := ⟨"SmallPieces$Sets", "<init>", "(LSmallPieces$Graph;II[I)V"⟩
abbrev yS_ahead : MethodName := ⟨"SmallPieces$Sets", "ahead", "(I)I"⟩
abbrev yS_fill : MethodName := ⟨"SmallPieces$Sets", "fill", "([IIIII)I"⟩
abbrev yS_forgetEdges : MethodName := ⟨"SmallPieces$Sets", "forgetEdges", "()V"⟩
abbrev yS_gain : MethodName := ⟨"SmallPieces$Sets", "gain", "(III)I"⟩
abbrev yS_isAmong : MethodName := ⟨"SmallPieces$Sets", "isAmong", "(II)Z"⟩
abbrev yS_placeAlike : MethodName := ⟨"SmallPieces$Sets", "placeAlike", "(II)Z"⟩
abbrev yS_placeOfSort : MethodName := ⟨"SmallPieces$Sets", "placeOfSort", "(I)I"⟩
abbrev yS_setAt : MethodName := ⟨"SmallPieces$Sets", "setAt", "(II)I"⟩
abbrev yS_sortAgain : MethodName := ⟨"SmallPieces$Sets", "sortAgain", "(I)V"⟩
abbrev yS_tally : MethodName := ⟨"SmallPieces$Sets", "tally", "(III)I"⟩
abbrev yS_tallyMixed : MethodName := ⟨"SmallPieces$Sets", "tallyMixed", "(I)I"⟩
abbrev yS_tallyPlaced : MethodName := ⟨"SmallPieces$Sets", "tallyPlaced", "(III)I"⟩
abbrev yS_weigh : MethodName := ⟨"SmallPieces$Sets", "weigh", "(IIII)V"⟩
abbrev yM_init : MethodName := ⟨"SmallPiecesModel", "<init>", "()V"⟩
abbrev yM_after : MethodName := ⟨"SmallPiecesModel", "after", "(IIII)I"⟩
abbrev yM_areTwo : MethodName := ⟨"SmallPiecesModel", "areTwo", "(II)Z"⟩
abbrev yM_begins : MethodName := ⟨"SmallPiecesModel", "begins", "(I)Z"⟩
abbrev yM_both : MethodName := ⟨"SmallPiecesModel", "both", "(II)I"⟩
abbrev yM_change : MethodName := ⟨"SmallPiecesModel", "change", "(II)I"⟩
abbrev yM_clear : MethodName := ⟨"SmallPiecesModel", "clear", "()I"⟩
abbrev yM_closed : MethodName := ⟨"SmallPiecesModel", "closed", "(II)I"⟩
abbrev yM_colour : MethodName := ⟨"SmallPiecesModel", "colour", "(II)I"⟩
abbrev yM_coloured : MethodName := ⟨"SmallPiecesModel", "coloured", "(III)I"⟩
abbrev yM_count : MethodName := ⟨"SmallPiecesModel", "count", "(II)I"⟩
abbrev yM_countAll : MethodName := ⟨"SmallPiecesModel", "countAll", "()V"⟩
abbrev yM_degree : MethodName := ⟨"SmallPiecesModel", "degree", "(I)I"⟩
abbrev yM_degreeIn : MethodName := ⟨"SmallPiecesModel", "degreeIn", "(I)I"⟩
abbrev yM_edge : MethodName := ⟨"SmallPiecesModel", "edge", "(II)I"⟩
abbrev yM_goesOn : MethodName := ⟨"SmallPiecesModel", "goesOn", "()Z"⟩
abbrev yM_isInSet : MethodName := ⟨"SmallPiecesModel", "isInSet", "(I)Z"⟩
abbrev yM_isNode : MethodName := ⟨"SmallPiecesModel", "isNode", "(I)Z"⟩
abbrev yM_isSort : MethodName := ⟨"SmallPiecesModel", "isSort", "(II)Z"⟩
abbrev yM_like : MethodName := ⟨"SmallPiecesModel", "like", "(II)I"⟩
abbrev yM_mixed : MethodName := ⟨"SmallPiecesModel", "mixed", "(II)I"⟩
abbrev yM_node : MethodName := ⟨"SmallPiecesModel", "node", "(I)I"⟩
abbrev yM_nth : MethodName := ⟨"SmallPiecesModel", "nth", "(IIII)I"⟩
abbrev yM_pair : MethodName := ⟨"SmallPiecesModel", "pair", "(IIII)I"⟩
abbrev yM_placeOf : MethodName := ⟨"SmallPiecesModel", "placeOf", "(II)I"⟩
abbrev yM_placed : MethodName := ⟨"SmallPiecesModel", "placed", "(IIII)I"⟩
abbrev yM_rank : MethodName := ⟨"SmallPiecesModel", "rank", "(IIII)I"⟩
abbrev yM_rings : MethodName := ⟨"SmallPiecesModel", "rings", "(I)I"⟩
abbrev yM_ringsBy : MethodName := ⟨"SmallPiecesModel", "ringsBy", "(II)I"⟩
abbrev yM_rows : MethodName := ⟨"SmallPiecesModel", "rows", "(IIIZ)I"⟩
abbrev yM_sort : MethodName := ⟨"SmallPiecesModel", "sort", "(IIII)I"⟩
abbrev yM_sortAtHand : MethodName := ⟨"SmallPiecesModel", "sortAtHand", "()I"⟩
abbrev yM_takes : MethodName := ⟨"SmallPiecesModel", "takes", "(IIII)Z"⟩
abbrev yM_told : MethodName := ⟨"SmallPiecesModel", "told", "(I)I"⟩
abbrev yM_turn : MethodName := ⟨"SmallPiecesModel", "turn", "(II)V"⟩
abbrev yM_ways : MethodName := ⟨"SmallPiecesModel", "ways", "(III)I"⟩
abbrev yM_within : MethodName := ⟨"SmallPiecesModel", "within", "(III)Z"⟩
abbrev yI_bitCount : MethodName := ⟨"java/lang/Integer", "bitCount", "(I)I"⟩
abbrev yA_fill : MethodName := ⟨"java/util/Arrays", "fill", "([II)V"⟩
def tb : List Cond := lw_tbl.filter goodWord
theorem mem_tb {w : Cond} (i : Nat) (h : lw_tbl[i]? = some w) (g : goodWord w = true) : w ∈ tb := List.mem_filter.mpr ⟨List.mem_of_getElem? h, g⟩
theorem tb_in {w : Cond} (h : w ∈ tb) : w ∈ lw_tbl := (List.mem_filter.mp h).1
abbrev wl (y : MethodName) (b : ByteArray) (n : Nat) (r : Option FieldType) : List Cond := Cond.code y b n r :: tb
-- words of the tables by their places
theorem t_0 : Cond.selects "SmallPieces" yP_forgetLatest yP_forgetLatest ∈ tb := mem_tb 0 rfl rfl
theorem t_1 : Cond.selects "SmallPieces" yP_setsWith yP_setsWith ∈ tb := mem_tb 1 rfl rfl
theorem t_2 : Cond.selects "SmallPieces" yP_setOf yP_setOf ∈ tb := mem_tb 2 rfl rfl
theorem t_3 : Cond.selects "SmallPieces$Sets" yS_weigh yS_weigh ∈ tb := mem_tb 3 rfl rfl
theorem t_4 : Cond.selects "SmallPiecesModel" yM_areTwo yM_areTwo ∈ tb := mem_tb 4 rfl rfl
theorem t_5 : Cond.selects "SmallPiecesModel" yM_isNode yM_isNode ∈ tb := mem_tb 5 rfl rfl
theorem t_6 : Cond.selects "SmallPiecesModel" yM_countAll yM_countAll ∈ tb := mem_tb 6 rfl rfl
theorem t_7 : Cond.selects "SmallPiecesModel" yM_begins yM_begins ∈ tb := mem_tb 7 rfl rfl
theorem t_8 : Cond.selects "SmallPiecesModel" yM_sortAtHand yM_sortAtHand ∈ tb := mem_tb 8 rfl rfl
theorem t_9 : Cond.selects "SmallPiecesModel" yM_degreeIn yM_degreeIn ∈ tb := mem_tb 9 rfl rfl
theorem t_10 : Cond.selects "SmallPiecesModel" yM_placeOf yM_placeOf ∈ tb := mem_tb 10 rfl rfl
theorem t_11 : Cond.selects "SmallPiecesModel" yM_goesOn yM_goesOn ∈ tb := mem_tb 11 rfl rfl
theorem t_12 : Cond.selects "SmallPiecesModel" yM_turn yM_turn ∈ tb := mem_tb 12 rfl rfl
theorem t_13 : Cond.selects "SmallPiecesModel" yM_isSort yM_isSort ∈ tb := mem_tb 13 rfl rfl
theorem t_14 : Cond.selects "SmallPiecesModel" yM_isInSet yM_isInSet ∈ tb := mem_tb 14 rfl rfl
theorem t_15 : Cond.selects "SmallPiecesModel" yM_takes yM_takes ∈ tb := mem_tb 15 rfl rfl
theorem t_16 : Cond.selects "SmallPiecesModel" yM_rows yM_rows ∈ tb := mem_tb 16 rfl rfl
theorem t_17 : Cond.initialized "SmallPiecesLaw" ∈ tb := mem_tb 17 rfl rfl
theorem t_18 : Cond.initialized "SmallPieces" ∈ tb := mem_tb 18 rfl rfl
theorem t_19 : Cond.initialized "SmallPieces$Graph" ∈ tb := mem_tb 19 rfl rfl
theorem t_20 : Cond.initialized "SmallPieces$Sets" ∈ tb := mem_tb 20 rfl rfl
theorem t_21 : Cond.initialized "SmallPiecesModel" ∈ tb := mem_tb 21 rfl rfl
theorem t_22 : Cond.initialized "java/util/Arrays" ∈ tb := mem_tb 22 rfl rfl
theorem t_23 : Cond.initialized "java/lang/Integer" ∈ tb := mem_tb 23 rfl rfl
theorem t_24 : Cond.initialized "SmallPieces$Routes" ∈ tb := mem_tb 24 rfl rfl
theorem t_25 : Cond.classLink "SmallPiecesLaw" 7 "SmallPieces" ∈ tb := mem_tb 25 rfl rfl
theorem t_26 : Cond.instantiable "SmallPieces" 5 ∈ tb := mem_tb 26 rfl rfl
theorem t_27 : Cond.methodLink "SmallPiecesLaw" 9 yP_init ∈ tb := mem_tb 27 rfl rfl
theorem t_28 : Cond.instanceMethod yP_init ∈ tb := mem_tb 28 rfl rfl
theorem t_29 : Cond.code yP_init prog_1_method_1_code 1 none ∈ tb := mem_tb 29 rfl rfl
theorem t_30 : Cond.methodLink "SmallPieces" 3 objectInit ∈ tb := mem_tb 30 rfl rfl
theorem t_31 : Cond.instanceMethod objectInit ∈ tb := mem_tb 31 rfl rfl
theorem t_32 : Cond.code objectInit object_method_1_code 1 none ∈ tb := mem_tb 32 rfl rfl
theorem t_33 : Cond.classLink "SmallPieces" 9 "SmallPieces$Graph" ∈ tb := mem_tb 33 rfl rfl
theorem t_34 : Cond.instantiable "SmallPieces$Graph" 4 ∈ tb := mem_tb 34 rfl rfl
theorem t_35 : Cond.methodLink "SmallPieces" 11 yG_init ∈ tb := mem_tb 35 rfl rfl
theorem t_36 : Cond.instanceMethod yG_init ∈ tb := mem_tb 36 rfl rfl
theorem t_37 : Cond.code yG_init prog_2_method_1_code 1 none ∈ tb := mem_tb 37 rfl rfl
theorem t_38 : Cond.methodLink "SmallPieces$Graph" 3 objectInit ∈ tb := mem_tb 38 rfl rfl
theorem t_39 : Cond.fieldLink "SmallPieces$Graph" 9 "SmallPieces$Graph" "joined" "[I" ∈ tb := mem_tb 39 rfl rfl
theorem t_40 : Cond.fieldLink "SmallPieces$Graph" 15 "SmallPieces$Graph" "painted" "[I" ∈ tb := mem_tb 40 rfl rfl
theorem t_41 : Cond.fieldLink "SmallPieces$Graph" 18 "SmallPieces$Graph" "nodes" "I" ∈ tb := mem_tb 41 rfl rfl
theorem t_42 : Cond.fieldLinkNest "SmallPieces" 86 "SmallPieces$Graph" "nodes" "I" "SmallPieces" ∈ lw_tbl := List.mem_of_getElem? (i := 42) rfl
theorem t_43 : Cond.fieldLink "SmallPieces$Graph" 26 "SmallPieces$Graph" "edges" "I" ∈ tb := mem_tb 43 rfl rfl
theorem t_44 : Cond.fieldLinkNest "SmallPieces" 89 "SmallPieces$Graph" "edges" "I" "SmallPieces" ∈ lw_tbl := List.mem_of_getElem? (i := 44) rfl
theorem t_45 : Cond.laysFinal "SmallPieces$Graph" "SmallPieces$Graph" "joined" "[I" ∈ tb := mem_tb 45 rfl rfl
theorem t_47 : Cond.laysFinal "SmallPieces$Graph" "SmallPieces$Graph" "painted" "[I" ∈ tb := mem_tb 47 rfl rfl
theorem t_49 : Cond.lays "SmallPieces$Graph" "SmallPieces$Graph" "nodes" "I" ∈ tb := mem_tb 49 rfl rfl
theorem t_51 : Cond.lays "SmallPieces$Graph" "SmallPieces$Graph" "edges" "I" ∈ tb := mem_tb 51 rfl rfl
theorem t_54 : Cond.arrayClass .int ∈ tb := mem_tb 54 rfl rfl
theorem t_55 : Cond.classLink "SmallPieces" 16 "SmallPieces$Sets" ∈ tb := mem_tb 55 rfl rfl
theorem t_56 : Cond.instantiable "SmallPieces$Sets" 5 ∈ tb := mem_tb 56 rfl rfl
theorem t_57 : Cond.fieldLink "SmallPieces" 18 "SmallPieces" "SORTS_OF_THREE" "[I" ∈ tb := mem_tb 57 rfl rfl
theorem t_58 : Cond.laysStatic "SmallPieces" "SORTS_OF_THREE" "[I" ∈ lw_tbl := List.mem_of_getElem? (i := 58) rfl
theorem t_59 : Cond.methodLink "SmallPieces" 22 yS_init ∈ tb := mem_tb 59 rfl rfl
theorem t_60 : Cond.instanceMethod yS_init ∈ tb := mem_tb 60 rfl rfl
theorem t_61 : Cond.code yS_init prog_4_method_1_code 5 none ∈ tb := mem_tb 61 rfl rfl
theorem t_62 : Cond.methodLink "SmallPieces$Sets" 3 objectInit ∈ tb := mem_tb 62 rfl rfl
theorem t_63 : Cond.methodLink "SmallPieces$Sets" 28 yS_fill ∈ tb := mem_tb 63 rfl rfl
theorem t_64 : Cond.static yS_fill ∈ tb := mem_tb 64 rfl rfl
theorem t_65 : Cond.code yS_fill prog_4_method_2_code 7 (some .int) ∈ tb := mem_tb 65 rfl rfl
theorem t_66 : Cond.fieldLink "SmallPieces$Sets" 9 "SmallPieces$Sets" "graph" "LSmallPieces$Graph;" ∈ tb := mem_tb 66 rfl rfl
theorem t_67 : Cond.fieldLink "SmallPieces$Sets" 15 "SmallPieces$Sets" "ownSorts" "[I" ∈ tb := mem_tb 67 rfl rfl
theorem t_68 : Cond.fieldLink "SmallPieces$Sets" 19 "SmallPieces$Sets" "members" "[I" ∈ tb := mem_tb 68 rfl rfl
theorem t_69 : Cond.fieldLink "SmallPieces$Sets" 22 "SmallPieces$Sets" "sorts" "[I" ∈ tb := mem_tb 69 rfl rfl
theorem t_70 : Cond.fieldLink "SmallPieces$Sets" 25 "SmallPieces$Sets" "balance" "[I" ∈ tb := mem_tb 70 rfl rfl
theorem t_71 : Cond.laysFinal "SmallPieces$Sets" "SmallPieces$Sets" "graph" "LSmallPieces$Graph;" ∈ tb := mem_tb 71 rfl rfl
theorem t_73 : Cond.laysFinal "SmallPieces$Sets" "SmallPieces$Sets" "ownSorts" "[I" ∈ tb := mem_tb 73 rfl rfl
theorem t_75 : Cond.laysFinal "SmallPieces$Sets" "SmallPieces$Sets" "members" "[I" ∈ tb := mem_tb 75 rfl rfl
theorem t_77 : Cond.laysFinal "SmallPieces$Sets" "SmallPieces$Sets" "sorts" "[I" ∈ tb := mem_tb 77 rfl rfl
theorem t_79 : Cond.laysFinal "SmallPieces$Sets" "SmallPieces$Sets" "balance" "[I" ∈ tb := mem_tb 79 rfl rfl
theorem t_82 : Cond.fieldLink "SmallPieces" 29 "SmallPieces" "SORTS_OF_FOUR" "[I" ∈ tb := mem_tb 82 rfl rfl
theorem t_83 : Cond.laysStatic "SmallPieces" "SORTS_OF_FOUR" "[I" ∈ lw_tbl := List.mem_of_getElem? (i := 83) rfl
theorem t_84 : Cond.fieldLink "SmallPieces" 12 "SmallPieces" "graph" "LSmallPieces$Graph;" ∈ tb := mem_tb 84 rfl rfl
theorem t_85 : Cond.fieldLink "SmallPieces" 25 "SmallPieces" "threes" "LSmallPieces$Sets;" ∈ tb := mem_tb 85 rfl rfl
theorem t_86 : Cond.fieldLink "SmallPieces" 32 "SmallPieces" "fours" "LSmallPieces$Sets;" ∈ tb := mem_tb 86 rfl rfl
theorem t_87 : Cond.fieldLink "SmallPieces" 35 "SmallPieces" "latestA" "I" ∈ tb := mem_tb 87 rfl rfl
theorem t_88 : Cond.fieldLink "SmallPieces" 39 "SmallPieces" "latestB" "I" ∈ tb := mem_tb 88 rfl rfl
theorem t_89 : Cond.laysFinal "SmallPieces" "SmallPieces" "graph" "LSmallPieces$Graph;" ∈ tb := mem_tb 89 rfl rfl
theorem t_91 : Cond.laysFinal "SmallPieces" "SmallPieces" "threes" "LSmallPieces$Sets;" ∈ tb := mem_tb 91 rfl rfl
theorem t_93 : Cond.laysFinal "SmallPieces" "SmallPieces" "fours" "LSmallPieces$Sets;" ∈ tb := mem_tb 93 rfl rfl
theorem t_95 : Cond.lays "SmallPieces" "SmallPieces" "latestA" "I" ∈ tb := mem_tb 95 rfl rfl
theorem t_97 : Cond.lays "SmallPieces" "SmallPieces" "latestB" "I" ∈ tb := mem_tb 97 rfl rfl
theorem t_100 : Cond.methodLink "SmallPiecesLaw" 13 yP_node ∈ tb := mem_tb 100 rfl rfl
theorem t_101 : Cond.instanceMethod yP_node ∈ tb := mem_tb 101 rfl rfl
theorem t_102 : Cond.selects "SmallPieces" yP_node yP_node ∈ tb := mem_tb 102 rfl rfl
theorem t_103 : Cond.code yP_node prog_1_method_2_code 2 (some .int) ∈ tb := mem_tb 103 rfl rfl
theorem t_104 : Cond.methodLink "SmallPieces" 42 yP_isColour ∈ tb := mem_tb 104 rfl rfl
theorem t_105 : Cond.static yP_isColour ∈ tb := mem_tb 105 rfl rfl
theorem t_106 : Cond.code yP_isColour prog_1_method_27_code 1 (some .boolean) ∈ tb := mem_tb 106 rfl rfl
theorem t_107 : Cond.methodLink "SmallPieces" 46 yG_isFull ∈ tb := mem_tb 107 rfl rfl
theorem t_108 : Cond.instanceMethod yG_isFull ∈ tb := mem_tb 108 rfl rfl
theorem t_109 : Cond.selects "SmallPieces$Graph" yG_isFull yG_isFull ∈ tb := mem_tb 109 rfl rfl
theorem t_110 : Cond.code yG_isFull prog_2_method_2_code 1 (some .boolean) ∈ tb := mem_tb 110 rfl rfl
theorem t_111 : Cond.methodLink "SmallPieces" 50 yP_forgetLatest ∈ tb := mem_tb 111 rfl rfl
theorem t_113 : Cond.instanceMethod yP_forgetLatest ∈ tb := mem_tb 113 rfl rfl
theorem t_114 : Cond.code yP_forgetLatest prog_1_method_24_code 1 none ∈ tb := mem_tb 114 rfl rfl
theorem t_115 : Cond.methodLink "SmallPieces" 53 yG_add ∈ tb := mem_tb 115 rfl rfl
theorem t_116 : Cond.instanceMethod yG_add ∈ tb := mem_tb 116 rfl rfl
theorem t_117 : Cond.selects "SmallPieces$Graph" yG_add yG_add ∈ tb := mem_tb 117 rfl rfl
theorem t_118 : Cond.code yG_add prog_2_method_3_code 3 (some .int) ∈ tb := mem_tb 118 rfl rfl
theorem t_119 : Cond.methodLink "SmallPieces$Graph" 22 yG_paint ∈ tb := mem_tb 119 rfl rfl
theorem t_120 : Cond.instanceMethod yG_paint ∈ tb := mem_tb 120 rfl rfl
theorem t_121 : Cond.selects "SmallPieces$Graph" yG_paint yG_paint ∈ tb := mem_tb 121 rfl rfl
theorem t_122 : Cond.code yG_paint prog_2_method_12_code 5 (some .int) ∈ tb := mem_tb 122 rfl rfl
theorem t_123 : Cond.methodLinkNest "SmallPieces$Graph" 58 yP_holds "SmallPieces" ∈ lw_tbl := List.mem_of_getElem? (i := 123) rfl
theorem t_124 : Cond.static yP_holds ∈ tb := mem_tb 124 rfl rfl
theorem t_125 : Cond.code yP_holds prog_1_method_29_code 2 (some .boolean) ∈ tb := mem_tb 125 rfl rfl
theorem t_126 : Cond.methodLink "SmallPieces$Graph" 39 yG_bit ∈ tb := mem_tb 126 rfl rfl
theorem t_127 : Cond.instanceMethod yG_bit ∈ tb := mem_tb 127 rfl rfl
theorem t_128 : Cond.selects "SmallPieces$Graph" yG_bit yG_bit ∈ tb := mem_tb 128 rfl rfl
theorem t_129 : Cond.code yG_bit prog_2_method_7_code 2 (some .int) ∈ tb := mem_tb 129 rfl rfl
theorem t_130 : Cond.methodLink "SmallPieces$Graph" 35 yG_knows ∈ tb := mem_tb 130 rfl rfl
theorem t_131 : Cond.instanceMethod yG_knows ∈ tb := mem_tb 131 rfl rfl
theorem t_132 : Cond.selects "SmallPieces$Graph" yG_knows yG_knows ∈ tb := mem_tb 132 rfl rfl
theorem t_133 : Cond.code yG_knows prog_2_method_5_code 2 (some .boolean) ∈ tb := mem_tb 133 rfl rfl
theorem t_134 : Cond.methodLink "SmallPiecesLaw" 18 yP_clear ∈ tb := mem_tb 134 rfl rfl
theorem t_135 : Cond.instanceMethod yP_clear ∈ tb := mem_tb 135 rfl rfl
theorem t_136 : Cond.selects "SmallPieces" yP_clear yP_clear ∈ tb := mem_tb 136 rfl rfl
theorem t_137 : Cond.code yP_clear prog_1_method_3_code 1 (some .int) ∈ tb := mem_tb 137 rfl rfl
theorem t_138 : Cond.methodLink "SmallPieces" 57 yS_forgetEdges ∈ tb := mem_tb 138 rfl rfl
theorem t_139 : Cond.instanceMethod yS_forgetEdges ∈ tb := mem_tb 139 rfl rfl
theorem t_140 : Cond.selects "SmallPieces$Sets" yS_forgetEdges yS_forgetEdges ∈ tb := mem_tb 140 rfl rfl
theorem t_141 : Cond.code yS_forgetEdges prog_4_method_4_code 1 none ∈ tb := mem_tb 141 rfl rfl
theorem t_142 : Cond.methodLink "SmallPieces$Sets" 32 yA_fill ∈ tb := mem_tb 142 rfl rfl
theorem t_143 : Cond.static yA_fill ∈ tb := mem_tb 143 rfl rfl
theorem t_144 : Cond.code yA_fill prog_8_method_103_code 4 none ∈ tb := mem_tb 144 rfl rfl
theorem t_145 : Cond.methodLink "SmallPieces" 60 yG_empty ∈ tb := mem_tb 145 rfl rfl
theorem t_146 : Cond.instanceMethod yG_empty ∈ tb := mem_tb 146 rfl rfl
theorem t_147 : Cond.selects "SmallPieces$Graph" yG_empty yG_empty ∈ tb := mem_tb 147 rfl rfl
theorem t_148 : Cond.code yG_empty prog_2_method_4_code 2 (some .int) ∈ tb := mem_tb 148 rfl rfl
theorem t_149 : Cond.methodLink "SmallPieces$Graph" 29 yA_fill ∈ tb := mem_tb 149 rfl rfl
theorem t_150 : Cond.methodLink "SmallPiecesLaw" 23 yP_edge ∈ tb := mem_tb 150 rfl rfl
theorem t_151 : Cond.instanceMethod yP_edge ∈ tb := mem_tb 151 rfl rfl
theorem t_152 : Cond.selects "SmallPieces" yP_edge yP_edge ∈ tb := mem_tb 152 rfl rfl
theorem t_153 : Cond.code yP_edge prog_1_method_4_code 4 (some .int) ∈ tb := mem_tb 153 rfl rfl
theorem t_154 : Cond.methodLink "SmallPieces" 64 yG_twoOf ∈ tb := mem_tb 154 rfl rfl
theorem t_155 : Cond.instanceMethod yG_twoOf ∈ tb := mem_tb 155 rfl rfl
theorem t_156 : Cond.selects "SmallPieces$Graph" yG_twoOf yG_twoOf ∈ tb := mem_tb 156 rfl rfl
theorem t_157 : Cond.code yG_twoOf prog_2_method_8_code 4 (some .int) ∈ tb := mem_tb 157 rfl rfl
theorem t_158 : Cond.methodLink "SmallPieces$Graph" 43 yI_bitCount ∈ tb := mem_tb 158 rfl rfl
theorem t_159 : Cond.static yI_bitCount ∈ tb := mem_tb 159 rfl rfl
theorem t_160 : Cond.code yI_bitCount prog_7_method_49_code 1 (some .int) ∈ tb := mem_tb 160 rfl rfl
theorem t_161 : Cond.constant "java/lang/Integer" 265 1431655765 ∈ tb := mem_tb 161 rfl rfl
theorem t_162 : Cond.constant "java/lang/Integer" 266 858993459 ∈ tb := mem_tb 162 rfl rfl
theorem t_163 : Cond.constant "java/lang/Integer" 267 252645135 ∈ tb := mem_tb 163 rfl rfl
theorem t_164 : Cond.methodLink "SmallPieces" 68 yG_toggle ∈ tb := mem_tb 164 rfl rfl
theorem t_165 : Cond.instanceMethod yG_toggle ∈ tb := mem_tb 165 rfl rfl
theorem t_166 : Cond.selects "SmallPieces$Graph" yG_toggle yG_toggle ∈ tb := mem_tb 166 rfl rfl
theorem t_167 : Cond.code yG_toggle prog_2_method_11_code 3 none ∈ tb := mem_tb 167 rfl rfl
theorem t_168 : Cond.methodLink "SmallPieces$Graph" 51 yG_twoOf ∈ tb := mem_tb 168 rfl rfl
theorem t_169 : Cond.methodLink "SmallPieces$Graph" 54 yG_joins ∈ tb := mem_tb 169 rfl rfl
theorem t_170 : Cond.instanceMethod yG_joins ∈ tb := mem_tb 170 rfl rfl
theorem t_171 : Cond.selects "SmallPieces$Graph" yG_joins yG_joins ∈ tb := mem_tb 171 rfl rfl
theorem t_172 : Cond.code yG_joins prog_2_method_10_code 3 (some .boolean) ∈ tb := mem_tb 172 rfl rfl
theorem t_173 : Cond.methodLink "SmallPieces$Graph" 48 yG_near ∈ tb := mem_tb 173 rfl rfl
theorem t_174 : Cond.instanceMethod yG_near ∈ tb := mem_tb 174 rfl rfl
theorem t_175 : Cond.selects "SmallPieces$Graph" yG_near yG_near ∈ tb := mem_tb 175 rfl rfl
theorem t_176 : Cond.code yG_near prog_2_method_9_code 2 (some .int) ∈ tb := mem_tb 176 rfl rfl
theorem t_177 : Cond.methodLink "SmallPieces" 72 yS_sortAgain ∈ tb := mem_tb 177 rfl rfl
theorem t_178 : Cond.instanceMethod yS_sortAgain ∈ tb := mem_tb 178 rfl rfl
theorem t_179 : Cond.selects "SmallPieces$Sets" yS_sortAgain yS_sortAgain ∈ tb := mem_tb 179 rfl rfl
theorem t_180 : Cond.code yS_sortAgain prog_4_method_5_code 3 none ∈ tb := mem_tb 180 rfl rfl
theorem t_181 : Cond.methodLink "SmallPieces$Sets" 37 yG_sortOf ∈ tb := mem_tb 181 rfl rfl
theorem t_182 : Cond.instanceMethod yG_sortOf ∈ tb := mem_tb 182 rfl rfl
theorem t_183 : Cond.selects "SmallPieces$Graph" yG_sortOf yG_sortOf ∈ tb := mem_tb 183 rfl rfl
theorem t_184 : Cond.code yG_sortOf prog_2_method_17_code 6 (some .int) ∈ tb := mem_tb 184 rfl rfl
theorem t_185 : Cond.methodLink "SmallPieces$Graph" 61 yG_degreeIn ∈ tb := mem_tb 185 rfl rfl
theorem t_186 : Cond.instanceMethod yG_degreeIn ∈ tb := mem_tb 186 rfl rfl
theorem t_187 : Cond.selects "SmallPieces$Graph" yG_degreeIn yG_degreeIn ∈ tb := mem_tb 187 rfl rfl
theorem t_188 : Cond.code yG_degreeIn prog_2_method_15_code 3 (some .int) ∈ tb := mem_tb 188 rfl rfl
theorem t_189 : Cond.methodLink "SmallPieces" 76 yG_joins ∈ tb := mem_tb 189 rfl rfl
theorem t_190 : Cond.methodLink "SmallPiecesLaw" 28 yP_colour ∈ tb := mem_tb 190 rfl rfl
theorem t_191 : Cond.instanceMethod yP_colour ∈ tb := mem_tb 191 rfl rfl
theorem t_192 : Cond.selects "SmallPieces" yP_colour yP_colour ∈ tb := mem_tb 192 rfl rfl
theorem t_193 : Cond.code yP_colour prog_1_method_5_code 3 (some .int) ∈ tb := mem_tb 193 rfl rfl
theorem t_194 : Cond.methodLink "SmallPieces" 80 yG_knows ∈ tb := mem_tb 194 rfl rfl
theorem t_195 : Cond.methodLink "SmallPieces" 83 yG_paint ∈ tb := mem_tb 195 rfl rfl
theorem t_196 : Cond.methodLink "SmallPiecesLaw" 32 yP_told ∈ tb := mem_tb 196 rfl rfl
theorem t_197 : Cond.instanceMethod yP_told ∈ tb := mem_tb 197 rfl rfl
theorem t_198 : Cond.selects "SmallPieces" yP_told yP_told ∈ tb := mem_tb 198 rfl rfl
theorem t_199 : Cond.code yP_told prog_1_method_6_code 2 (some .int) ∈ tb := mem_tb 199 rfl rfl
theorem t_200 : Cond.methodLink "SmallPiecesLaw" 36 yP_degree ∈ tb := mem_tb 200 rfl rfl
theorem t_201 : Cond.instanceMethod yP_degree ∈ tb := mem_tb 201 rfl rfl
theorem t_202 : Cond.selects "SmallPieces" yP_degree yP_degree ∈ tb := mem_tb 202 rfl rfl
theorem t_203 : Cond.code yP_degree prog_1_method_7_code 2 (some .int) ∈ tb := mem_tb 203 rfl rfl
theorem t_204 : Cond.methodLink "SmallPieces" 92 yG_near ∈ tb := mem_tb 204 rfl rfl
theorem t_205 : Cond.methodLink "SmallPieces" 95 yI_bitCount ∈ tb := mem_tb 205 rfl rfl
theorem t_206 : Cond.methodLink "SmallPiecesLaw" 40 yP_both ∈ tb := mem_tb 206 rfl rfl
theorem t_207 : Cond.instanceMethod yP_both ∈ tb := mem_tb 207 rfl rfl
theorem t_208 : Cond.selects "SmallPieces" yP_both yP_both ∈ tb := mem_tb 208 rfl rfl
theorem t_209 : Cond.code yP_both prog_1_method_8_code 3 (some .int) ∈ tb := mem_tb 209 rfl rfl
theorem t_210 : Cond.methodLink "SmallPiecesLaw" 44 yP_count ∈ tb := mem_tb 210 rfl rfl
theorem t_211 : Cond.instanceMethod yP_count ∈ tb := mem_tb 211 rfl rfl
theorem t_212 : Cond.selects "SmallPieces" yP_count yP_count ∈ tb := mem_tb 212 rfl rfl
theorem t_213 : Cond.code yP_count prog_1_method_9_code 4 (some .int) ∈ tb := mem_tb 213 rfl rfl
theorem t_214 : Cond.methodLink "SmallPieces" 100 yP_setsWith ∈ tb := mem_tb 214 rfl rfl
theorem t_216 : Cond.instanceMethod yP_setsWith ∈ tb := mem_tb 216 rfl rfl
theorem t_217 : Cond.code yP_setsWith prog_1_method_25_code 4 (some (.object "SmallPieces$Sets")) ∈ tb := mem_tb 217 rfl rfl
theorem t_218 : Cond.methodLink "SmallPieces" 161 yS_placeOfSort ∈ tb := mem_tb 218 rfl rfl
theorem t_219 : Cond.instanceMethod yS_placeOfSort ∈ tb := mem_tb 219 rfl rfl
theorem t_220 : Cond.selects "SmallPieces$Sets" yS_placeOfSort yS_placeOfSort ∈ tb := mem_tb 220 rfl rfl
theorem t_221 : Cond.code yS_placeOfSort prog_4_method_3_code 3 (some .int) ∈ tb := mem_tb 221 rfl rfl
theorem t_222 : Cond.methodLink "SmallPieces" 104 yG_all ∈ tb := mem_tb 222 rfl rfl
theorem t_223 : Cond.instanceMethod yG_all ∈ tb := mem_tb 223 rfl rfl
theorem t_224 : Cond.selects "SmallPieces$Graph" yG_all yG_all ∈ tb := mem_tb 224 rfl rfl
theorem t_225 : Cond.code yG_all prog_2_method_6_code 1 (some .int) ∈ tb := mem_tb 225 rfl rfl
theorem t_226 : Cond.methodLink "SmallPieces" 107 yS_tally ∈ tb := mem_tb 226 rfl rfl
theorem t_227 : Cond.instanceMethod yS_tally ∈ tb := mem_tb 227 rfl rfl
theorem t_228 : Cond.selects "SmallPieces$Sets" yS_tally yS_tally ∈ tb := mem_tb 228 rfl rfl
theorem t_229 : Cond.code yS_tally prog_4_method_7_code 6 (some .int) ∈ tb := mem_tb 229 rfl rfl
theorem t_230 : Cond.methodLink "SmallPieces$Sets" 43 yS_isAmong ∈ tb := mem_tb 230 rfl rfl
theorem t_231 : Cond.static yS_isAmong ∈ tb := mem_tb 231 rfl rfl
theorem t_232 : Cond.code yS_isAmong prog_4_method_6_code 2 (some .boolean) ∈ tb := mem_tb 232 rfl rfl
theorem t_233 : Cond.methodLink "SmallPiecesLaw" 48 yP_placed ∈ tb := mem_tb 233 rfl rfl
theorem t_234 : Cond.instanceMethod yP_placed ∈ tb := mem_tb 234 rfl rfl
theorem t_235 : Cond.selects "SmallPieces" yP_placed yP_placed ∈ tb := mem_tb 235 rfl rfl
theorem t_236 : Cond.code yP_placed prog_1_method_10_code 6 (some .int) ∈ tb := mem_tb 236 rfl rfl
theorem t_237 : Cond.methodLink "SmallPieces" 111 yS_tallyPlaced ∈ tb := mem_tb 237 rfl rfl
theorem t_238 : Cond.instanceMethod yS_tallyPlaced ∈ tb := mem_tb 238 rfl rfl
theorem t_239 : Cond.selects "SmallPieces$Sets" yS_tallyPlaced yS_tallyPlaced ∈ tb := mem_tb 239 rfl rfl
theorem t_240 : Cond.code yS_tallyPlaced prog_4_method_8_code 7 (some .int) ∈ tb := mem_tb 240 rfl rfl
theorem t_241 : Cond.methodLink "SmallPieces$Sets" 47 yG_all ∈ tb := mem_tb 241 rfl rfl
theorem t_242 : Cond.methodLinkNest "SmallPieces$Sets" 51 yP_holds "SmallPieces" ∈ lw_tbl := List.mem_of_getElem? (i := 242) rfl
theorem t_243 : Cond.methodLink "SmallPieces$Sets" 54 yG_degreeIn ∈ tb := mem_tb 243 rfl rfl
theorem t_244 : Cond.methodLink "SmallPiecesLaw" 53 yP_pair ∈ tb := mem_tb 244 rfl rfl
theorem t_245 : Cond.instanceMethod yP_pair ∈ tb := mem_tb 245 rfl rfl
theorem t_246 : Cond.selects "SmallPieces" yP_pair yP_pair ∈ tb := mem_tb 246 rfl rfl
theorem t_247 : Cond.code yP_pair prog_1_method_11_code 7 (some .int) ∈ tb := mem_tb 247 rfl rfl
theorem t_248 : Cond.methodLink "SmallPiecesLaw" 57 yP_coloured ∈ tb := mem_tb 248 rfl rfl
theorem t_249 : Cond.instanceMethod yP_coloured ∈ tb := mem_tb 249 rfl rfl
theorem t_250 : Cond.selects "SmallPieces" yP_coloured yP_coloured ∈ tb := mem_tb 250 rfl rfl
theorem t_251 : Cond.code yP_coloured prog_1_method_12_code 5 (some .int) ∈ tb := mem_tb 251 rfl rfl
theorem t_252 : Cond.methodLink "SmallPieces" 114 yG_ofColours ∈ tb := mem_tb 252 rfl rfl
theorem t_253 : Cond.instanceMethod yG_ofColours ∈ tb := mem_tb 253 rfl rfl
theorem t_254 : Cond.selects "SmallPieces$Graph" yG_ofColours yG_ofColours ∈ tb := mem_tb 254 rfl rfl
theorem t_255 : Cond.code yG_ofColours prog_2_method_13_code 4 (some .int) ∈ tb := mem_tb 255 rfl rfl
theorem t_256 : Cond.methodLink "SmallPiecesLaw" 62 yP_mixed ∈ tb := mem_tb 256 rfl rfl
theorem t_257 : Cond.instanceMethod yP_mixed ∈ tb := mem_tb 257 rfl rfl
theorem t_258 : Cond.selects "SmallPieces" yP_mixed yP_mixed ∈ tb := mem_tb 258 rfl rfl
theorem t_259 : Cond.code yP_mixed prog_1_method_13_code 4 (some .int) ∈ tb := mem_tb 259 rfl rfl
theorem t_260 : Cond.methodLink "SmallPieces" 117 yS_tallyMixed ∈ tb := mem_tb 260 rfl rfl
theorem t_261 : Cond.instanceMethod yS_tallyMixed ∈ tb := mem_tb 261 rfl rfl
theorem t_262 : Cond.selects "SmallPieces$Sets" yS_tallyMixed yS_tallyMixed ∈ tb := mem_tb 262 rfl rfl
theorem t_263 : Cond.code yS_tallyMixed prog_4_method_9_code 5 (some .int) ∈ tb := mem_tb 263 rfl rfl
theorem t_264 : Cond.methodLink "SmallPieces$Sets" 58 yG_coloursDiffer ∈ tb := mem_tb 264 rfl rfl
theorem t_265 : Cond.instanceMethod yG_coloursDiffer ∈ tb := mem_tb 265 rfl rfl
theorem t_266 : Cond.selects "SmallPieces$Graph" yG_coloursDiffer yG_coloursDiffer ∈ tb := mem_tb 266 rfl rfl
theorem t_267 : Cond.code yG_coloursDiffer prog_2_method_14_code 3 (some .boolean) ∈ tb := mem_tb 267 rfl rfl
theorem t_268 : Cond.methodLink "SmallPiecesLaw" 66 yP_change ∈ tb := mem_tb 268 rfl rfl
theorem t_269 : Cond.instanceMethod yP_change ∈ tb := mem_tb 269 rfl rfl
theorem t_270 : Cond.selects "SmallPieces" yP_change yP_change ∈ tb := mem_tb 270 rfl rfl
theorem t_271 : Cond.code yP_change prog_1_method_14_code 4 (some .int) ∈ tb := mem_tb 271 rfl rfl
theorem t_272 : Cond.methodLink "SmallPieces" 120 yS_gain ∈ tb := mem_tb 272 rfl rfl
theorem t_273 : Cond.instanceMethod yS_gain ∈ tb := mem_tb 273 rfl rfl
theorem t_274 : Cond.selects "SmallPieces$Sets" yS_gain yS_gain ∈ tb := mem_tb 274 rfl rfl
theorem t_275 : Cond.code yS_gain prog_4_method_10_code 8 (some .int) ∈ tb := mem_tb 275 rfl rfl
theorem t_276 : Cond.methodLink "SmallPieces$Sets" 62 yG_twoOf ∈ tb := mem_tb 276 rfl rfl
theorem t_277 : Cond.methodLink "SmallPieces$Sets" 65 yG_toggle ∈ tb := mem_tb 277 rfl rfl
theorem t_278 : Cond.methodLink "SmallPiecesLaw" 70 yP_after ∈ tb := mem_tb 278 rfl rfl
theorem t_279 : Cond.instanceMethod yP_after ∈ tb := mem_tb 279 rfl rfl
theorem t_280 : Cond.selects "SmallPieces" yP_after yP_after ∈ tb := mem_tb 280 rfl rfl
theorem t_281 : Cond.code yP_after prog_1_method_15_code 6 (some .int) ∈ tb := mem_tb 281 rfl rfl
theorem t_282 : Cond.methodLink "SmallPiecesLaw" 74 yP_nth ∈ tb := mem_tb 282 rfl rfl
theorem t_283 : Cond.instanceMethod yP_nth ∈ tb := mem_tb 283 rfl rfl
theorem t_284 : Cond.selects "SmallPieces" yP_nth yP_nth ∈ tb := mem_tb 284 rfl rfl
theorem t_285 : Cond.code yP_nth prog_1_method_16_code 6 (some .int) ∈ tb := mem_tb 285 rfl rfl
theorem t_286 : Cond.methodLink "SmallPieces" 123 yS_setAt ∈ tb := mem_tb 286 rfl rfl
theorem t_287 : Cond.instanceMethod yS_setAt ∈ tb := mem_tb 287 rfl rfl
theorem t_288 : Cond.selects "SmallPieces$Sets" yS_setAt yS_setAt ∈ tb := mem_tb 288 rfl rfl
theorem t_289 : Cond.code yS_setAt prog_4_method_11_code 6 (some .int) ∈ tb := mem_tb 289 rfl rfl
theorem t_290 : Cond.methodLink "SmallPieces" 126 yP_nodeAt ∈ tb := mem_tb 290 rfl rfl
theorem t_291 : Cond.static yP_nodeAt ∈ tb := mem_tb 291 rfl rfl
theorem t_292 : Cond.code yP_nodeAt prog_1_method_30_code 4 (some .int) ∈ tb := mem_tb 292 rfl rfl
theorem t_293 : Cond.methodLink "SmallPieces" 167 yP_holds ∈ tb := mem_tb 293 rfl rfl
theorem t_294 : Cond.methodLink "SmallPiecesLaw" 78 yP_sort ∈ tb := mem_tb 294 rfl rfl
theorem t_295 : Cond.instanceMethod yP_sort ∈ tb := mem_tb 295 rfl rfl
theorem t_296 : Cond.selects "SmallPieces" yP_sort yP_sort ∈ tb := mem_tb 296 rfl rfl
theorem t_297 : Cond.code yP_sort prog_1_method_17_code 6 (some .int) ∈ tb := mem_tb 297 rfl rfl
theorem t_298 : Cond.methodLink "SmallPieces" 129 yP_setOf ∈ tb := mem_tb 298 rfl rfl
theorem t_300 : Cond.instanceMethod yP_setOf ∈ tb := mem_tb 300 rfl rfl
theorem t_301 : Cond.code yP_setOf prog_1_method_26_code 7 (some .int) ∈ tb := mem_tb 301 rfl rfl
theorem t_302 : Cond.methodLink "SmallPieces" 164 yG_bit ∈ tb := mem_tb 302 rfl rfl
theorem t_303 : Cond.methodLink "SmallPieces" 133 yG_sortOf ∈ tb := mem_tb 303 rfl rfl
theorem t_304 : Cond.methodLink "SmallPiecesLaw" 82 yP_rank ∈ tb := mem_tb 304 rfl rfl
theorem t_305 : Cond.instanceMethod yP_rank ∈ tb := mem_tb 305 rfl rfl
theorem t_306 : Cond.selects "SmallPieces" yP_rank yP_rank ∈ tb := mem_tb 306 rfl rfl
theorem t_307 : Cond.code yP_rank prog_1_method_18_code 6 (some .int) ∈ tb := mem_tb 307 rfl rfl
theorem t_308 : Cond.methodLink "SmallPieces" 136 yS_ahead ∈ tb := mem_tb 308 rfl rfl
theorem t_309 : Cond.instanceMethod yS_ahead ∈ tb := mem_tb 309 rfl rfl
theorem t_310 : Cond.selects "SmallPieces$Sets" yS_ahead yS_ahead ∈ tb := mem_tb 310 rfl rfl
theorem t_311 : Cond.code yS_ahead prog_4_method_12_code 6 (some .int) ∈ tb := mem_tb 311 rfl rfl
theorem t_312 : Cond.methodLink "SmallPiecesLaw" 86 yP_like ∈ tb := mem_tb 312 rfl rfl
theorem t_313 : Cond.instanceMethod yP_like ∈ tb := mem_tb 313 rfl rfl
theorem t_314 : Cond.selects "SmallPieces" yP_like yP_like ∈ tb := mem_tb 314 rfl rfl
theorem t_315 : Cond.code yP_like prog_1_method_19_code 3 (some .int) ∈ tb := mem_tb 315 rfl rfl
theorem t_316 : Cond.methodLink "SmallPieces" 139 yS_placeAlike ∈ tb := mem_tb 316 rfl rfl
theorem t_317 : Cond.instanceMethod yS_placeAlike ∈ tb := mem_tb 317 rfl rfl
theorem t_318 : Cond.selects "SmallPieces$Sets" yS_placeAlike yS_placeAlike ∈ tb := mem_tb 318 rfl rfl
theorem t_319 : Cond.code yS_placeAlike prog_4_method_13_code 5 (some .boolean) ∈ tb := mem_tb 319 rfl rfl
theorem t_320 : Cond.methodLink "SmallPieces$Sets" 69 yS_weigh ∈ tb := mem_tb 320 rfl rfl
theorem t_322 : Cond.instanceMethod yS_weigh ∈ tb := mem_tb 322 rfl rfl
theorem t_323 : Cond.code yS_weigh prog_4_method_14_code 6 none ∈ tb := mem_tb 323 rfl rfl
theorem t_324 : Cond.methodLink "SmallPieces$Sets" 73 yS_placeOfSort ∈ tb := mem_tb 324 rfl rfl
theorem t_325 : Cond.methodLink "SmallPiecesLaw" 90 yP_closed ∈ tb := mem_tb 325 rfl rfl
theorem t_326 : Cond.instanceMethod yP_closed ∈ tb := mem_tb 326 rfl rfl
theorem t_327 : Cond.selects "SmallPieces" yP_closed yP_closed ∈ tb := mem_tb 327 rfl rfl
theorem t_328 : Cond.code yP_closed prog_1_method_20_code 6 (some .int) ∈ tb := mem_tb 328 rfl rfl
theorem t_329 : Cond.methodLink "SmallPieces" 142 yG_edgesIn ∈ tb := mem_tb 329 rfl rfl
theorem t_330 : Cond.instanceMethod yG_edgesIn ∈ tb := mem_tb 330 rfl rfl
theorem t_331 : Cond.selects "SmallPieces$Graph" yG_edgesIn yG_edgesIn ∈ tb := mem_tb 331 rfl rfl
theorem t_332 : Cond.code yG_edgesIn prog_2_method_16_code 4 (some .int) ∈ tb := mem_tb 332 rfl rfl
theorem t_333 : Cond.methodLink "SmallPieces" 145 yP_reduced ∈ tb := mem_tb 333 rfl rfl
theorem t_334 : Cond.static yP_reduced ∈ tb := mem_tb 334 rfl rfl
theorem t_335 : Cond.code yP_reduced prog_1_method_31_code 3 (some .int) ∈ tb := mem_tb 335 rfl rfl
theorem t_336 : Cond.methodLink "SmallPiecesLaw" 94 yP_rings ∈ tb := mem_tb 336 rfl rfl
theorem t_337 : Cond.instanceMethod yP_rings ∈ tb := mem_tb 337 rfl rfl
theorem t_338 : Cond.selects "SmallPieces" yP_rings yP_rings ∈ tb := mem_tb 338 rfl rfl
theorem t_339 : Cond.code yP_rings prog_1_method_21_code 5 (some .int) ∈ tb := mem_tb 339 rfl rfl
theorem t_340 : Cond.methodLink "SmallPieces" 148 yP_isRingLength ∈ tb := mem_tb 340 rfl rfl
theorem t_341 : Cond.static yP_isRingLength ∈ tb := mem_tb 341 rfl rfl
theorem t_342 : Cond.code yP_isRingLength prog_1_method_28_code 1 (some .boolean) ∈ tb := mem_tb 342 rfl rfl
theorem t_343 : Cond.methodLink "SmallPieces" 151 yR_ringsThrough ∈ tb := mem_tb 343 rfl rfl
theorem t_344 : Cond.static yR_ringsThrough ∈ tb := mem_tb 344 rfl rfl
theorem t_345 : Cond.code yR_ringsThrough prog_3_method_2_code 8 (some .int) ∈ tb := mem_tb 345 rfl rfl
theorem t_346 : Cond.methodLink "SmallPieces$Routes" 9 yG_near ∈ tb := mem_tb 346 rfl rfl
theorem t_347 : Cond.methodLinkNest "SmallPieces$Routes" 15 yP_holds "SmallPieces" ∈ lw_tbl := List.mem_of_getElem? (i := 347) rfl
theorem t_348 : Cond.methodLink "SmallPieces$Routes" 19 yR_waysBetween ∈ tb := mem_tb 348 rfl rfl
theorem t_349 : Cond.static yR_waysBetween ∈ tb := mem_tb 349 rfl rfl
set_option maxRecDepth 20000 in
theorem t_350 : Cond.code yR_waysBetween prog_3_method_3_code 8 (some .int) ∈ tb := mem_tb 350 rfl rfl
set_option maxRecDepth 20000 in
theorem t_351 : Cond.methodLink "SmallPieces$Routes" 25 yG_joins ∈ tb := mem_tb 351 rfl rfl
set_option maxRecDepth 20000 in
theorem t_352 : Cond.methodLink "SmallPieces$Routes" 28 yI_bitCount ∈ tb := mem_tb 352 rfl rfl
set_option maxRecDepth 20000 in
theorem t_353 : Cond.methodLink "SmallPiecesLaw" 98 yP_ringsBy ∈ tb := mem_tb 353 rfl rfl
set_option maxRecDepth 20000 in
theorem t_354 : Cond.instanceMethod yP_ringsBy ∈ tb := mem_tb 354 rfl rfl
set_option maxRecDepth 20000 in
theorem t_355 : Cond.selects "SmallPieces" yP_ringsBy yP_ringsBy ∈ tb := mem_tb 355 rfl rfl
set_option maxRecDepth 20000 in
theorem t_356 : Cond.code yP_ringsBy prog_1_method_22_code 3 (some .int) ∈ tb := mem_tb 356 rfl rfl
set_option maxRecDepth 20000 in
theorem t_357 : Cond.methodLink "SmallPiecesLaw" 102 yP_ways ∈ tb := mem_tb 357 rfl rfl
set_option maxRecDepth 20000 in
theorem t_358 : Cond.instanceMethod yP_ways ∈ tb := mem_tb 358 rfl rfl
set_option maxRecDepth 20000 in
theorem t_359 : Cond.selects "SmallPieces" yP_ways yP_ways ∈ tb := mem_tb 359 rfl rfl
set_option maxRecDepth 20000 in
theorem t_360 : Cond.code yP_ways prog_1_method_23_code 5 (some .int) ∈ tb := mem_tb 360 rfl rfl
set_option maxRecDepth 20000 in
theorem t_361 : Cond.methodLinkNest "SmallPieces" 157 yR_waysBetween "SmallPieces" ∈ lw_tbl := List.mem_of_getElem? (i := 361) rfl
set_option maxRecDepth 20000 in
theorem t_362 : Cond.classLink "SmallPiecesLaw" 10 "SmallPiecesModel" ∈ tb := mem_tb 362 rfl rfl
set_option maxRecDepth 20000 in
theorem t_363 : Cond.instantiable "SmallPiecesModel" 15 ∈ tb := mem_tb 363 rfl rfl
set_option maxRecDepth 20000 in
theorem t_364 : Cond.methodLink "SmallPiecesLaw" 12 yM_init ∈ tb := mem_tb 364 rfl rfl
set_option maxRecDepth 20000 in
theorem t_365 : Cond.instanceMethod yM_init ∈ tb := mem_tb 365 rfl rfl
set_option maxRecDepth 20000 in
theorem t_366 : Cond.code yM_init prog_6_method_1_code 1 none ∈ tb := mem_tb 366 rfl rfl
set_option maxRecDepth 20000 in
theorem t_367 : Cond.methodLink "SmallPiecesModel" 1 objectInit ∈ tb := mem_tb 367 rfl rfl
set_option maxRecDepth 20000 in
theorem t_368 : Cond.fieldLink "SmallPiecesModel" 7 "SmallPiecesModel" "sorts" "[I" ∈ tb := mem_tb 368 rfl rfl
set_option maxRecDepth 20000 in
theorem t_369 : Cond.fieldLink "SmallPiecesModel" 47 "SmallPiecesModel" "n" "I" ∈ tb := mem_tb 369 rfl rfl
set_option maxRecDepth 20000 in
theorem t_370 : Cond.fieldLink "SmallPiecesModel" 13 "SmallPiecesModel" "colours" "[I" ∈ tb := mem_tb 370 rfl rfl
set_option maxRecDepth 20000 in
theorem t_371 : Cond.fieldLink "SmallPiecesModel" 16 "SmallPiecesModel" "joined" "[Z" ∈ tb := mem_tb 371 rfl rfl
set_option maxRecDepth 20000 in
theorem t_372 : Cond.fieldLink "SmallPiecesModel" 63 "SmallPiecesModel" "hasBefore" "Z" ∈ tb := mem_tb 372 rfl rfl
set_option maxRecDepth 20000 in
theorem t_373 : Cond.fieldLink "SmallPiecesModel" 20 "SmallPiecesModel" "before" "[I" ∈ tb := mem_tb 373 rfl rfl
set_option maxRecDepth 20000 in
theorem t_374 : Cond.fieldLink "SmallPiecesModel" 23 "SmallPiecesModel" "counts" "[I" ∈ tb := mem_tb 374 rfl rfl
set_option maxRecDepth 20000 in
theorem t_375 : Cond.fieldLink "SmallPiecesModel" 26 "SmallPiecesModel" "set" "[I" ∈ tb := mem_tb 375 rfl rfl
set_option maxRecDepth 20000 in
theorem t_376 : Cond.fieldLink "SmallPiecesModel" 78 "SmallPiecesModel" "size" "I" ∈ tb := mem_tb 376 rfl rfl
set_option maxRecDepth 20000 in
theorem t_377 : Cond.fieldLink "SmallPiecesModel" 29 "SmallPiecesModel" "tally" "[I" ∈ tb := mem_tb 377 rfl rfl
set_option maxRecDepth 20000 in
theorem t_378 : Cond.fieldLink "SmallPiecesModel" 32 "SmallPiecesModel" "asked" "[I" ∈ tb := mem_tb 378 rfl rfl
set_option maxRecDepth 20000 in
theorem t_379 : Cond.fieldLink "SmallPiecesModel" 35 "SmallPiecesModel" "one" "[I" ∈ tb := mem_tb 379 rfl rfl
set_option maxRecDepth 20000 in
theorem t_380 : Cond.fieldLink "SmallPiecesModel" 38 "SmallPiecesModel" "other" "[I" ∈ tb := mem_tb 380 rfl rfl
set_option maxRecDepth 20000 in
theorem t_381 : Cond.fieldLink "SmallPiecesModel" 41 "SmallPiecesModel" "row" "[I" ∈ tb := mem_tb 381 rfl rfl
set_option maxRecDepth 20000 in
theorem t_382 : Cond.fieldLink "SmallPiecesModel" 44 "SmallPiecesModel" "tried" "[I" ∈ tb := mem_tb 382 rfl rfl
set_option maxRecDepth 20000 in
theorem t_383 : Cond.laysFinal "SmallPiecesModel" "SmallPiecesModel" "sorts" "[I" ∈ tb := mem_tb 383 rfl rfl
set_option maxRecDepth 20000 in
theorem t_385 : Cond.lays "SmallPiecesModel" "SmallPiecesModel" "n" "I" ∈ tb := mem_tb 385 rfl rfl
set_option maxRecDepth 20000 in
theorem t_387 : Cond.laysFinal "SmallPiecesModel" "SmallPiecesModel" "colours" "[I" ∈ tb := mem_tb 387 rfl rfl
set_option maxRecDepth 20000 in
theorem t_389 : Cond.laysFinal "SmallPiecesModel" "SmallPiecesModel" "joined" "[Z" ∈ tb := mem_tb 389 rfl rfl
set_option maxRecDepth 20000 in
theorem t_391 : Cond.lays "SmallPiecesModel" "SmallPiecesModel" "hasBefore" "Z" ∈ tb := mem_tb 391 rfl rfl
set_option maxRecDepth 20000 in
theorem t_393 : Cond.laysFinal "SmallPiecesModel" "SmallPiecesModel" "before" "[I" ∈ tb := mem_tb 393 rfl rfl
set_option maxRecDepth 20000 in
theorem t_395 : Cond.laysFinal "SmallPiecesModel" "SmallPiecesModel" "counts" "[I" ∈ tb := mem_tb 395 rfl rfl
set_option maxRecDepth 20000 in
theorem t_397 : Cond.laysFinal "SmallPiecesModel" "SmallPiecesModel" "set" "[I" ∈ tb := mem_tb 397 rfl rfl
set_option maxRecDepth 20000 in
theorem t_399 : Cond.lays "SmallPiecesModel" "SmallPiecesModel" "size" "I" ∈ tb := mem_tb 399 rfl rfl
set_option maxRecDepth 20000 in
theorem t_401 : Cond.laysFinal "SmallPiecesModel" "SmallPiecesModel" "tally" "[I" ∈ tb := mem_tb 401 rfl rfl
set_option maxRecDepth 20000 in
theorem t_403 : Cond.laysFinal "SmallPiecesModel" "SmallPiecesModel" "asked" "[I" ∈ tb := mem_tb 403 rfl rfl
set_option maxRecDepth 20000 in
theorem t_405 : Cond.laysFinal "SmallPiecesModel" "SmallPiecesModel" "one" "[I" ∈ tb := mem_tb 405 rfl rfl
set_option maxRecDepth 20000 in
theorem t_407 : Cond.laysFinal "SmallPiecesModel" "SmallPiecesModel" "other" "[I" ∈ tb := mem_tb 407 rfl rfl
set_option maxRecDepth 20000 in
theorem t_409 : Cond.laysFinal "SmallPiecesModel" "SmallPiecesModel" "row" "[I" ∈ tb := mem_tb 409 rfl rfl
set_option maxRecDepth 20000 in
theorem t_411 : Cond.laysFinal "SmallPiecesModel" "SmallPiecesModel" "tried" "[I" ∈ tb := mem_tb 411 rfl rfl
set_option maxRecDepth 20000 in
theorem t_414 : Cond.arrayClass .boolean ∈ tb := mem_tb 414 rfl rfl
set_option maxRecDepth 20000 in
theorem t_415 : Cond.methodLink "SmallPiecesLaw" 17 yM_node ∈ tb := mem_tb 415 rfl rfl
set_option maxRecDepth 20000 in
theorem t_416 : Cond.instanceMethod yM_node ∈ tb := mem_tb 416 rfl rfl
set_option maxRecDepth 20000 in
theorem t_417 : Cond.selects "SmallPiecesModel" yM_node yM_node ∈ tb := mem_tb 417 rfl rfl
set_option maxRecDepth 20000 in
theorem t_418 : Cond.code yM_node prog_6_method_8_code 3 (some .int) ∈ tb := mem_tb 418 rfl rfl
set_option maxRecDepth 20000 in
theorem t_419 : Cond.methodLink "SmallPiecesModel" 51 yM_within ∈ tb := mem_tb 419 rfl rfl
set_option maxRecDepth 20000 in
theorem t_420 : Cond.static yM_within ∈ tb := mem_tb 420 rfl rfl
set_option maxRecDepth 20000 in
theorem t_421 : Cond.code yM_within prog_6_method_3_code 3 (some .boolean) ∈ tb := mem_tb 421 rfl rfl
set_option maxRecDepth 20000 in
theorem t_422 : Cond.methodLink "SmallPiecesLaw" 22 yM_clear ∈ tb := mem_tb 422 rfl rfl
set_option maxRecDepth 20000 in
theorem t_423 : Cond.instanceMethod yM_clear ∈ tb := mem_tb 423 rfl rfl
set_option maxRecDepth 20000 in
theorem t_424 : Cond.selects "SmallPiecesModel" yM_clear yM_clear ∈ tb := mem_tb 424 rfl rfl
set_option maxRecDepth 20000 in
theorem t_425 : Cond.code yM_clear prog_6_method_9_code 2 (some .int) ∈ tb := mem_tb 425 rfl rfl
set_option maxRecDepth 20000 in
theorem t_426 : Cond.methodLink "SmallPiecesLaw" 27 yM_edge ∈ tb := mem_tb 426 rfl rfl
set_option maxRecDepth 20000 in
theorem t_427 : Cond.instanceMethod yM_edge ∈ tb := mem_tb 427 rfl rfl
set_option maxRecDepth 20000 in
theorem t_428 : Cond.selects "SmallPiecesModel" yM_edge yM_edge ∈ tb := mem_tb 428 rfl rfl
set_option maxRecDepth 20000 in
theorem t_429 : Cond.code yM_edge prog_6_method_11_code 4 (some .int) ∈ tb := mem_tb 429 rfl rfl
set_option maxRecDepth 20000 in
theorem t_430 : Cond.methodLink "SmallPiecesModel" 67 yM_areTwo ∈ tb := mem_tb 430 rfl rfl
set_option maxRecDepth 20000 in
theorem t_432 : Cond.instanceMethod yM_areTwo ∈ tb := mem_tb 432 rfl rfl
set_option maxRecDepth 20000 in
theorem t_433 : Cond.code yM_areTwo prog_6_method_5_code 3 (some .boolean) ∈ tb := mem_tb 433 rfl rfl
set_option maxRecDepth 20000 in
theorem t_434 : Cond.methodLink "SmallPiecesModel" 55 yM_isNode ∈ tb := mem_tb 434 rfl rfl
set_option maxRecDepth 20000 in
theorem t_436 : Cond.instanceMethod yM_isNode ∈ tb := mem_tb 436 rfl rfl
set_option maxRecDepth 20000 in
theorem t_437 : Cond.code yM_isNode prog_6_method_4_code 2 (some .boolean) ∈ tb := mem_tb 437 rfl rfl
set_option maxRecDepth 20000 in
theorem t_438 : Cond.methodLink "SmallPiecesModel" 71 yM_countAll ∈ tb := mem_tb 438 rfl rfl
set_option maxRecDepth 20000 in
theorem t_440 : Cond.instanceMethod yM_countAll ∈ tb := mem_tb 440 rfl rfl
set_option maxRecDepth 20000 in
theorem t_441 : Cond.code yM_countAll prog_6_method_21_code 3 none ∈ tb := mem_tb 441 rfl rfl
set_option maxRecDepth 20000 in
theorem t_442 : Cond.methodLink "SmallPiecesModel" 85 yM_begins ∈ tb := mem_tb 442 rfl rfl
set_option maxRecDepth 20000 in
theorem t_444 : Cond.instanceMethod yM_begins ∈ tb := mem_tb 444 rfl rfl
set_option maxRecDepth 20000 in
theorem t_445 : Cond.code yM_begins prog_6_method_16_code 3 (some .boolean) ∈ tb := mem_tb 445 rfl rfl
set_option maxRecDepth 20000 in
theorem t_446 : Cond.methodLink "SmallPiecesModel" 88 yM_sortAtHand ∈ tb := mem_tb 446 rfl rfl
set_option maxRecDepth 20000 in
theorem t_448 : Cond.instanceMethod yM_sortAtHand ∈ tb := mem_tb 448 rfl rfl
set_option maxRecDepth 20000 in
theorem t_449 : Cond.code yM_sortAtHand prog_6_method_19_code 4 (some .int) ∈ tb := mem_tb 449 rfl rfl
set_option maxRecDepth 20000 in
theorem t_450 : Cond.methodLink "SmallPiecesModel" 81 yM_degreeIn ∈ tb := mem_tb 450 rfl rfl
set_option maxRecDepth 20000 in
theorem t_452 : Cond.instanceMethod yM_degreeIn ∈ tb := mem_tb 452 rfl rfl
set_option maxRecDepth 20000 in
theorem t_453 : Cond.code yM_degreeIn prog_6_method_18_code 4 (some .int) ∈ tb := mem_tb 453 rfl rfl
set_option maxRecDepth 20000 in
theorem t_454 : Cond.methodLink "SmallPiecesModel" 59 yM_placeOf ∈ tb := mem_tb 454 rfl rfl
set_option maxRecDepth 20000 in
theorem t_456 : Cond.instanceMethod yM_placeOf ∈ tb := mem_tb 456 rfl rfl
set_option maxRecDepth 20000 in
theorem t_457 : Cond.code yM_placeOf prog_6_method_6_code 6 (some .int) ∈ tb := mem_tb 457 rfl rfl
set_option maxRecDepth 20000 in
theorem t_458 : Cond.methodLink "SmallPiecesModel" 92 yM_goesOn ∈ tb := mem_tb 458 rfl rfl
set_option maxRecDepth 20000 in
theorem t_460 : Cond.instanceMethod yM_goesOn ∈ tb := mem_tb 460 rfl rfl
set_option maxRecDepth 20000 in
theorem t_461 : Cond.code yM_goesOn prog_6_method_17_code 3 (some .boolean) ∈ tb := mem_tb 461 rfl rfl
set_option maxRecDepth 20000 in
theorem t_462 : Cond.methodLink "SmallPiecesModel" 74 yM_turn ∈ tb := mem_tb 462 rfl rfl
set_option maxRecDepth 20000 in
theorem t_464 : Cond.instanceMethod yM_turn ∈ tb := mem_tb 464 rfl rfl
set_option maxRecDepth 20000 in
theorem t_465 : Cond.code yM_turn prog_6_method_10_code 4 none ∈ tb := mem_tb 465 rfl rfl
set_option maxRecDepth 20000 in
theorem t_466 : Cond.methodLink "SmallPiecesLaw" 31 yM_colour ∈ tb := mem_tb 466 rfl rfl
set_option maxRecDepth 20000 in
theorem t_467 : Cond.instanceMethod yM_colour ∈ tb := mem_tb 467 rfl rfl
set_option maxRecDepth 20000 in
theorem t_468 : Cond.selects "SmallPiecesModel" yM_colour yM_colour ∈ tb := mem_tb 468 rfl rfl
set_option maxRecDepth 20000 in
theorem t_469 : Cond.code yM_colour prog_6_method_12_code 4 (some .int) ∈ tb := mem_tb 469 rfl rfl
set_option maxRecDepth 20000 in
theorem t_470 : Cond.methodLink "SmallPiecesLaw" 35 yM_told ∈ tb := mem_tb 470 rfl rfl
set_option maxRecDepth 20000 in
theorem t_471 : Cond.instanceMethod yM_told ∈ tb := mem_tb 471 rfl rfl
set_option maxRecDepth 20000 in
theorem t_472 : Cond.selects "SmallPiecesModel" yM_told yM_told ∈ tb := mem_tb 472 rfl rfl
set_option maxRecDepth 20000 in
theorem t_473 : Cond.code yM_told prog_6_method_13_code 5 (some .int) ∈ tb := mem_tb 473 rfl rfl
set_option maxRecDepth 20000 in
theorem t_474 : Cond.methodLink "SmallPiecesLaw" 39 yM_degree ∈ tb := mem_tb 474 rfl rfl
set_option maxRecDepth 20000 in
theorem t_475 : Cond.instanceMethod yM_degree ∈ tb := mem_tb 475 rfl rfl
set_option maxRecDepth 20000 in
theorem t_476 : Cond.selects "SmallPiecesModel" yM_degree yM_degree ∈ tb := mem_tb 476 rfl rfl
set_option maxRecDepth 20000 in
theorem t_477 : Cond.code yM_degree prog_6_method_14_code 4 (some .int) ∈ tb := mem_tb 477 rfl rfl
set_option maxRecDepth 20000 in
theorem t_478 : Cond.methodLink "SmallPiecesLaw" 43 yM_both ∈ tb := mem_tb 478 rfl rfl
set_option maxRecDepth 20000 in
theorem t_479 : Cond.instanceMethod yM_both ∈ tb := mem_tb 479 rfl rfl
set_option maxRecDepth 20000 in
theorem t_480 : Cond.selects "SmallPiecesModel" yM_both yM_both ∈ tb := mem_tb 480 rfl rfl
set_option maxRecDepth 20000 in
theorem t_481 : Cond.code yM_both prog_6_method_15_code 5 (some .int) ∈ tb := mem_tb 481 rfl rfl
set_option maxRecDepth 20000 in
theorem t_482 : Cond.methodLink "SmallPiecesLaw" 47 yM_count ∈ tb := mem_tb 482 rfl rfl
set_option maxRecDepth 20000 in
theorem t_483 : Cond.instanceMethod yM_count ∈ tb := mem_tb 483 rfl rfl
set_option maxRecDepth 20000 in
theorem t_484 : Cond.selects "SmallPiecesModel" yM_count yM_count ∈ tb := mem_tb 484 rfl rfl
set_option maxRecDepth 20000 in
theorem t_485 : Cond.code yM_count prog_6_method_22_code 3 (some .int) ∈ tb := mem_tb 485 rfl rfl
set_option maxRecDepth 20000 in
theorem t_486 : Cond.methodLink "SmallPiecesModel" 96 yM_isSort ∈ tb := mem_tb 486 rfl rfl
set_option maxRecDepth 20000 in
theorem t_488 : Cond.instanceMethod yM_isSort ∈ tb := mem_tb 488 rfl rfl
set_option maxRecDepth 20000 in
theorem t_489 : Cond.code yM_isSort prog_6_method_7_code 3 (some .boolean) ∈ tb := mem_tb 489 rfl rfl
set_option maxRecDepth 20000 in
theorem t_490 : Cond.methodLink "SmallPiecesLaw" 52 yM_placed ∈ tb := mem_tb 490 rfl rfl
set_option maxRecDepth 20000 in
theorem t_491 : Cond.instanceMethod yM_placed ∈ tb := mem_tb 491 rfl rfl
set_option maxRecDepth 20000 in
theorem t_492 : Cond.selects "SmallPiecesModel" yM_placed yM_placed ∈ tb := mem_tb 492 rfl rfl
set_option maxRecDepth 20000 in
theorem t_493 : Cond.code yM_placed prog_6_method_23_code 7 (some .int) ∈ tb := mem_tb 493 rfl rfl
set_option maxRecDepth 20000 in
theorem t_494 : Cond.methodLink "SmallPiecesModel" 99 yM_isInSet ∈ tb := mem_tb 494 rfl rfl
set_option maxRecDepth 20000 in
theorem t_496 : Cond.instanceMethod yM_isInSet ∈ tb := mem_tb 496 rfl rfl
set_option maxRecDepth 20000 in
theorem t_497 : Cond.code yM_isInSet prog_6_method_20_code 4 (some .boolean) ∈ tb := mem_tb 497 rfl rfl
set_option maxRecDepth 20000 in
theorem t_498 : Cond.methodLink "SmallPiecesLaw" 56 yM_pair ∈ tb := mem_tb 498 rfl rfl
set_option maxRecDepth 20000 in
theorem t_499 : Cond.instanceMethod yM_pair ∈ tb := mem_tb 499 rfl rfl
set_option maxRecDepth 20000 in
theorem t_500 : Cond.selects "SmallPiecesModel" yM_pair yM_pair ∈ tb := mem_tb 500 rfl rfl
set_option maxRecDepth 20000 in
theorem t_501 : Cond.code yM_pair prog_6_method_24_code 7 (some .int) ∈ tb := mem_tb 501 rfl rfl
set_option maxRecDepth 20000 in
theorem t_502 : Cond.methodLink "SmallPiecesLaw" 61 yM_coloured ∈ tb := mem_tb 502 rfl rfl
set_option maxRecDepth 20000 in
theorem t_503 : Cond.instanceMethod yM_coloured ∈ tb := mem_tb 503 rfl rfl
set_option maxRecDepth 20000 in
theorem t_504 : Cond.selects "SmallPiecesModel" yM_coloured yM_coloured ∈ tb := mem_tb 504 rfl rfl
set_option maxRecDepth 20000 in
theorem t_505 : Cond.code yM_coloured prog_6_method_25_code 8 (some .int) ∈ tb := mem_tb 505 rfl rfl
set_option maxRecDepth 20000 in
theorem t_506 : Cond.methodLink "SmallPiecesLaw" 65 yM_mixed ∈ tb := mem_tb 506 rfl rfl
set_option maxRecDepth 20000 in
theorem t_507 : Cond.instanceMethod yM_mixed ∈ tb := mem_tb 507 rfl rfl
set_option maxRecDepth 20000 in
theorem t_508 : Cond.selects "SmallPiecesModel" yM_mixed yM_mixed ∈ tb := mem_tb 508 rfl rfl
set_option maxRecDepth 20000 in
theorem t_509 : Cond.code yM_mixed prog_6_method_26_code 8 (some .int) ∈ tb := mem_tb 509 rfl rfl
set_option maxRecDepth 20000 in
theorem t_510 : Cond.methodLink "SmallPiecesLaw" 69 yM_change ∈ tb := mem_tb 510 rfl rfl
set_option maxRecDepth 20000 in
theorem t_511 : Cond.instanceMethod yM_change ∈ tb := mem_tb 511 rfl rfl
set_option maxRecDepth 20000 in
theorem t_512 : Cond.selects "SmallPiecesModel" yM_change yM_change ∈ tb := mem_tb 512 rfl rfl
set_option maxRecDepth 20000 in
theorem t_513 : Cond.code yM_change prog_6_method_27_code 3 (some .int) ∈ tb := mem_tb 513 rfl rfl
set_option maxRecDepth 20000 in
theorem t_514 : Cond.methodLink "SmallPiecesLaw" 73 yM_after ∈ tb := mem_tb 514 rfl rfl
set_option maxRecDepth 20000 in
theorem t_515 : Cond.instanceMethod yM_after ∈ tb := mem_tb 515 rfl rfl
set_option maxRecDepth 20000 in
theorem t_516 : Cond.selects "SmallPiecesModel" yM_after yM_after ∈ tb := mem_tb 516 rfl rfl
set_option maxRecDepth 20000 in
theorem t_517 : Cond.code yM_after prog_6_method_28_code 7 (some .int) ∈ tb := mem_tb 517 rfl rfl
set_option maxRecDepth 20000 in
theorem t_518 : Cond.methodLink "SmallPiecesLaw" 77 yM_nth ∈ tb := mem_tb 518 rfl rfl
set_option maxRecDepth 20000 in
theorem t_519 : Cond.instanceMethod yM_nth ∈ tb := mem_tb 519 rfl rfl
set_option maxRecDepth 20000 in
theorem t_520 : Cond.selects "SmallPiecesModel" yM_nth yM_nth ∈ tb := mem_tb 520 rfl rfl
set_option maxRecDepth 20000 in
theorem t_521 : Cond.code yM_nth prog_6_method_29_code 7 (some .int) ∈ tb := mem_tb 521 rfl rfl
set_option maxRecDepth 20000 in
theorem t_522 : Cond.methodLink "SmallPiecesLaw" 81 yM_sort ∈ tb := mem_tb 522 rfl rfl
set_option maxRecDepth 20000 in
theorem t_523 : Cond.instanceMethod yM_sort ∈ tb := mem_tb 523 rfl rfl
set_option maxRecDepth 20000 in
theorem t_524 : Cond.selects "SmallPiecesModel" yM_sort yM_sort ∈ tb := mem_tb 524 rfl rfl
set_option maxRecDepth 20000 in
theorem t_525 : Cond.code yM_sort prog_6_method_31_code 5 (some .int) ∈ tb := mem_tb 525 rfl rfl
set_option maxRecDepth 20000 in
theorem t_526 : Cond.methodLink "SmallPiecesModel" 102 yM_takes ∈ tb := mem_tb 526 rfl rfl
set_option maxRecDepth 20000 in
theorem t_528 : Cond.instanceMethod yM_takes ∈ tb := mem_tb 528 rfl rfl
set_option maxRecDepth 20000 in
theorem t_529 : Cond.code yM_takes prog_6_method_30_code 10 (some .boolean) ∈ tb := mem_tb 529 rfl rfl
set_option maxRecDepth 20000 in
theorem t_530 : Cond.methodLink "SmallPiecesLaw" 85 yM_rank ∈ tb := mem_tb 530 rfl rfl
set_option maxRecDepth 20000 in
theorem t_531 : Cond.instanceMethod yM_rank ∈ tb := mem_tb 531 rfl rfl
set_option maxRecDepth 20000 in
theorem t_532 : Cond.selects "SmallPiecesModel" yM_rank yM_rank ∈ tb := mem_tb 532 rfl rfl
set_option maxRecDepth 20000 in
theorem t_533 : Cond.code yM_rank prog_6_method_32_code 11 (some .int) ∈ tb := mem_tb 533 rfl rfl
set_option maxRecDepth 20000 in
theorem t_534 : Cond.methodLink "SmallPiecesLaw" 89 yM_like ∈ tb := mem_tb 534 rfl rfl
set_option maxRecDepth 20000 in
theorem t_535 : Cond.instanceMethod yM_like ∈ tb := mem_tb 535 rfl rfl
set_option maxRecDepth 20000 in
theorem t_536 : Cond.selects "SmallPiecesModel" yM_like yM_like ∈ tb := mem_tb 536 rfl rfl
set_option maxRecDepth 20000 in
theorem t_537 : Cond.code yM_like prog_6_method_33_code 6 (some .int) ∈ tb := mem_tb 537 rfl rfl
set_option maxRecDepth 20000 in
theorem t_538 : Cond.methodLink "SmallPiecesLaw" 93 yM_closed ∈ tb := mem_tb 538 rfl rfl
set_option maxRecDepth 20000 in
theorem t_539 : Cond.instanceMethod yM_closed ∈ tb := mem_tb 539 rfl rfl
set_option maxRecDepth 20000 in
theorem t_540 : Cond.selects "SmallPiecesModel" yM_closed yM_closed ∈ tb := mem_tb 540 rfl rfl
set_option maxRecDepth 20000 in
theorem t_541 : Cond.code yM_closed prog_6_method_34_code 8 (some .int) ∈ tb := mem_tb 541 rfl rfl
set_option maxRecDepth 20000 in
theorem t_542 : Cond.methodLink "SmallPiecesLaw" 97 yM_rings ∈ tb := mem_tb 542 rfl rfl
set_option maxRecDepth 20000 in
theorem t_543 : Cond.instanceMethod yM_rings ∈ tb := mem_tb 543 rfl rfl
set_option maxRecDepth 20000 in
theorem t_544 : Cond.selects "SmallPiecesModel" yM_rings yM_rings ∈ tb := mem_tb 544 rfl rfl
set_option maxRecDepth 20000 in
theorem t_545 : Cond.code yM_rings prog_6_method_36_code 4 (some .int) ∈ tb := mem_tb 545 rfl rfl
set_option maxRecDepth 20000 in
theorem t_546 : Cond.methodLink "SmallPiecesModel" 106 yM_rows ∈ tb := mem_tb 546 rfl rfl
set_option maxRecDepth 20000 in
theorem t_548 : Cond.instanceMethod yM_rows ∈ tb := mem_tb 548 rfl rfl
set_option maxRecDepth 20000 in
theorem t_549 : Cond.code yM_rows prog_6_method_35_code 10 (some .int) ∈ tb := mem_tb 549 rfl rfl
set_option maxRecDepth 20000 in
theorem t_550 : Cond.methodLink "SmallPiecesLaw" 101 yM_ringsBy ∈ tb := mem_tb 550 rfl rfl
set_option maxRecDepth 20000 in
theorem t_551 : Cond.instanceMethod yM_ringsBy ∈ tb := mem_tb 551 rfl rfl
set_option maxRecDepth 20000 in
theorem t_552 : Cond.selects "SmallPiecesModel" yM_ringsBy yM_ringsBy ∈ tb := mem_tb 552 rfl rfl
set_option maxRecDepth 20000 in
theorem t_553 : Cond.code yM_ringsBy prog_6_method_37_code 3 (some .int) ∈ tb := mem_tb 553 rfl rfl
set_option maxRecDepth 20000 in
theorem t_554 : Cond.methodLink "SmallPiecesLaw" 105 yM_ways ∈ tb := mem_tb 554 rfl rfl
set_option maxRecDepth 20000 in
theorem t_555 : Cond.instanceMethod yM_ways ∈ tb := mem_tb 555 rfl rfl
set_option maxRecDepth 20000 in
theorem t_556 : Cond.selects "SmallPiecesModel" yM_ways yM_ways ∈ tb := mem_tb 556 rfl rfl
set_option maxRecDepth 20000 in
theorem t_557 : Cond.code yM_ways prog_6_method_38_code 4 (some .int) ∈ tb := mem_tb 557 rfl rfl
set_option maxRecDepth 20000 in
theorem in_G : ∀ w ∈ u_ws RG TG 4, w ∈ tb := by decide +kernel
set_option maxRecDepth 20000 in
theorem in_S : ∀ w ∈ u_ws RS TS 5, w ∈ tb := by decide +kernel
set_option maxRecDepth 20000 in
theorem in_P : ∀ w ∈ u_ws RP TP 5, w ∈ tb := by decide +kernel
set_option maxRecDepth 20000 in
theorem in_M : ∀ w ∈ u_ws RM TM 15, w ∈ tb := by decide +kernel
theorem gd_w {w : Cond} (h : w ∈ tb) : w ∈ tb ∧ ((w.onTables && w.keeps) = true ∨ ∃ ty, w = .arrayClass ty) := ⟨h, good_of_word (List.mem_filter.mp h).2⟩
theorem gd0 {y : MethodName} {b : ByteArray} {n : Nat} {r : Option FieldType} (h5 : Cond.code y b n r ∈ tb) : GoodIn tb (wl y b n r) := fun w h => by
  rcases List.mem_cons.mp h with rfl | h
  · exact gd_w h5
  · exact gd_w h
theorem gdV {own C : String} {idx : Nat} {y : MethodName} {b : ByteArray} {n : Nat} {r : Option FieldType} (h1 : Cond.methodLink own idx y ∈ tb) (h2 : Cond.instanceMethod y ∈ tb) (h3 : Cond.selects C y y ∈ tb) (h4 : Cond.initialized C ∈ tb) (h5 : Cond.code y b n r ∈ tb) : GoodIn tb (wsV own idx C y (wl y b n r)) := fun w h => by
  rcases List.mem_append.mp h with h | h
  · simp only [List.mem_cons, List.not_mem_nil, or_false] at h
    rcases h with rfl | rfl | rfl | rfl
    · exact gd_w h1
    · exact gd_w h2
    · exact gd_w h3
    · exact gd_w h4
  · exact gd0 h5 w h
theorem gdS {own : String} {idx : Nat} {y : MethodName} {b : ByteArray} {n : Nat} {r : Option FieldType} (h1 : Cond.methodLink own idx y ∈ tb) (h2 : Cond.static y ∈ tb) (h4 : Cond.initialized y.cls ∈ tb) (h5 : Cond.code y b n r ∈ tb) : GoodIn tb (va_wsS own idx y (wl y b n r)) := fun w h => by
  rcases List.mem_append.mp h with h | h
  · simp only [List.mem_cons, List.not_mem_nil, or_false] at h
    rcases h with rfl | rfl | rfl
    · exact gd_w h1
    · exact gd_w h2
    · exact gd_w h4
  · exact gd0 h5 w h
/-- links among nest mates -/
def NX (U : State) : Prop := va_Nw (Cond.fieldLinkNest "SmallPieces" 86 "SmallPieces$Graph" "nodes" "I" "SmallPieces") U ∧ va_Nw (Cond.fieldLinkNest "SmallPieces" 89 "SmallPieces$Graph" "edges" "I" "SmallPieces") U ∧ va_Nw (Cond.methodLinkNest "SmallPieces$Graph" 58 yP_holds "SmallPieces") U ∧ va_Nw (Cond.methodLinkNest "SmallPieces$Sets" 51 yP_holds "SmallPieces") U ∧ va_Nw (Cond.methodLinkNest "SmallPieces$Routes" 15 yP_holds "SmallPieces") U ∧ va_Nw (Cond.methodLinkNest "SmallPieces" 157 yR_waysBetween "SmallPieces") U
theorem n_42 {U : State} (h : NX U) {A : Array Value} : (Cond.fieldLinkNest "SmallPieces" 86 "SmallPieces$Graph" "nodes" "I" "SmallPieces").before A U = true := va_tabs rfl rfl h.1
theorem n_44 {U : State} (h : NX U) {A : Array Value} : (Cond.fieldLinkNest "SmallPieces" 89 "SmallPieces$Graph" "edges" "I" "SmallPieces").before A U = true := va_tabs rfl rfl h.2.1
theorem n_123 {U : State} (h : NX U) {A : Array Value} : (Cond.methodLinkNest "SmallPieces$Graph" 58 yP_holds "SmallPieces").before A U = true := va_tabs rfl rfl h.2.2.1
theorem n_242 {U : State} (h : NX U) {A : Array Value} : (Cond.methodLinkNest "SmallPieces$Sets" 51 yP_holds "SmallPieces").before A U = true := va_tabs rfl rfl h.2.2.2.1
theorem n_347 {U : State} (h : NX U) {A : Array Value} : (Cond.methodLinkNest "SmallPieces$Routes" 15 yP_holds "SmallPieces").before A U = true := va_tabs rfl rfl h.2.2.2.2.1
theorem n_361 {U : State} (h : NX U) {A : Array Value} : (Cond.methodLinkNest "SmallPieces" 157 yR_waysBetween "SmallPieces").before A U = true := va_tabs rfl rfl h.2.2.2.2.2
theorem NX.calling {U : State} {g : JFrame} {mk : MethodId} {a : Array Value} (h : NX U) : NX (U.calling g mk a) := ⟨va_tabs (A := #[]) (u := U) rfl rfl h.1, va_tabs (A := #[]) (u := U) rfl rfl h.2.1, va_tabs (A := #[]) (u := U) rfl rfl h.2.2.1, va_tabs (A := #[]) (u := U) rfl rfl h.2.2.2.1, va_tabs (A := #[]) (u := U) rfl rfl h.2.2.2.2.1, va_tabs (A := #[]) (u := U) rfl rfl h.2.2.2.2.2⟩
theorem NX.warm {s U : State} (hW : s.WarmedH U.vm) (h : NX s) : NX U := ⟨va_Nw.warmF hW h.1, va_Nw.warmF hW h.2.1, va_Nw.warmM hW h.2.2.1, va_Nw.warmM hW h.2.2.2.1, va_Nw.warmM hW h.2.2.2.2.1, va_Nw.warmM hW h.2.2.2.2.2⟩
theorem NX.of {A : Array Value} {s : State} (hts : ∀ w ∈ lw_tbl, w.before A s = true) : NX s := ⟨va_tabs rfl rfl (hts _ t_42), va_tabs rfl rfl (hts _ t_44), va_tabs rfl rfl (hts _ t_123), va_tabs rfl rfl (hts _ t_242), va_tabs rfl rfl (hts _ t_347), va_tabs rfl rfl (hts _ t_361)⟩
