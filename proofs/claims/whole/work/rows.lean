section
-- ===== PART A: goes FIRST, ahead of the names: the tables' words, and 'selects' of the private methods out of them =====
/-- a private method of a class that the tables say can be made, by its rows of tables_1 -/
def lw_okq (q : MethodName × Nat) : Prop := (q.1.cls ≠ "java/lang/invoke/MethodHandle" ∧ q.1.cls ≠ "java/lang/invoke/VarHandle") ∧ Cond.instantiable q.1.cls q.2 ∈ tables_1 ∧ Cond.privateMethod q.1 ∈ tables_1 ∧ Cond.instanceMethod q.1 ∈ tables_1
theorem lw_p0 : lw_okq (⟨"ShapeForms", "keep", "(LShapeForms$Shape;)I"⟩, 2) := ⟨⟨by decide +kernel, by decide +kernel⟩, List.mem_of_getElem? (i := 15) (by decide +kernel), List.mem_of_getElem? (i := 75) (by decide +kernel), List.mem_of_getElem? (i := 76) (by decide +kernel)⟩
theorem lw_p1 : lw_okq (⟨"java/lang/Throwable", "fillInStackTrace", "(I)Ljava/lang/Throwable;"⟩, 6) := ⟨⟨by decide +kernel, by decide +kernel⟩, List.mem_of_getElem? (i := 133) (by decide +kernel), List.mem_of_getElem? (i := 131) (by decide +kernel), List.mem_of_getElem? (i := 132) (by decide +kernel)⟩
theorem lw_p2 : lw_okq (⟨"ShapeForms", "find", "(I)LShapeForms$Shape;"⟩, 2) := ⟨⟨by decide +kernel, by decide +kernel⟩, List.mem_of_getElem? (i := 15) (by decide +kernel), List.mem_of_getElem? (i := 205) (by decide +kernel), List.mem_of_getElem? (i := 206) (by decide +kernel)⟩
theorem lw_p3 : lw_okq (⟨"ShapeForms$Shape", "compareToSide", "(IJJJ)I"⟩, 8) := ⟨⟨by decide +kernel, by decide +kernel⟩, List.mem_of_getElem? (i := 35) (by decide +kernel), List.mem_of_getElem? (i := 324) (by decide +kernel), List.mem_of_getElem? (i := 325) (by decide +kernel)⟩
theorem lw_p4 : lw_okq (⟨"ShapeForms$Shape", "squareTo", "(IJJ)J"⟩, 8) := ⟨⟨by decide +kernel, by decide +kernel⟩, List.mem_of_getElem? (i := 35) (by decide +kernel), List.mem_of_getElem? (i := 328) (by decide +kernel), List.mem_of_getElem? (i := 329) (by decide +kernel)⟩
theorem lw_p5 : lw_okq (⟨"ShapeForms$Shape", "coveredFrom", "(JZLShapeForms$Shape;I)J"⟩, 8) := ⟨⟨by decide +kernel, by decide +kernel⟩, List.mem_of_getElem? (i := 35) (by decide +kernel), List.mem_of_getElem? (i := 436) (by decide +kernel), List.mem_of_getElem? (i := 437) (by decide +kernel)⟩
theorem lw_p6 : lw_okq (⟨"ShapeFormsModel", "begin", "(IJ)I"⟩, 15) := ⟨⟨by decide +kernel, by decide +kernel⟩, List.mem_of_getElem? (i := 440) (by decide +kernel), List.mem_of_getElem? (i := 509) (by decide +kernel), List.mem_of_getElem? (i := 510) (by decide +kernel)⟩
theorem lw_p7 : lw_okq (⟨"ShapeFormsModel", "add", "(IJJ)V"⟩, 15) := ⟨⟨by decide +kernel, by decide +kernel⟩, List.mem_of_getElem? (i := 440) (by decide +kernel), List.mem_of_getElem? (i := 513) (by decide +kernel), List.mem_of_getElem? (i := 514) (by decide +kernel)⟩
theorem lw_p8 : lw_okq (⟨"ShapeFormsModel", "isShape", "(I)Z"⟩, 15) := ⟨⟨by decide +kernel, by decide +kernel⟩, List.mem_of_getElem? (i := 440) (by decide +kernel), List.mem_of_getElem? (i := 535) (by decide +kernel), List.mem_of_getElem? (i := 536) (by decide +kernel)⟩
theorem lw_p9 : lw_okq (⟨"ShapeFormsModel", "closed", "(I)I"⟩, 15) := ⟨⟨by decide +kernel, by decide +kernel⟩, List.mem_of_getElem? (i := 440) (by decide +kernel), List.mem_of_getElem? (i := 539) (by decide +kernel), List.mem_of_getElem? (i := 540) (by decide +kernel)⟩
theorem lw_p10 : lw_okq (⟨"ShapeFormsModel", "isEmpty", "(III)Z"⟩, 15) := ⟨⟨by decide +kernel, by decide +kernel⟩, List.mem_of_getElem? (i := 440) (by decide +kernel), List.mem_of_getElem? (i := 547) (by decide +kernel), List.mem_of_getElem? (i := 548) (by decide +kernel)⟩
theorem lw_p11 : lw_okq (⟨"ShapeFormsModel", "x", "(II)J"⟩, 15) := ⟨⟨by decide +kernel, by decide +kernel⟩, List.mem_of_getElem? (i := 440) (by decide +kernel), List.mem_of_getElem? (i := 551) (by decide +kernel), List.mem_of_getElem? (i := 552) (by decide +kernel)⟩
theorem lw_p12 : lw_okq (⟨"ShapeFormsModel", "y", "(II)J"⟩, 15) := ⟨⟨by decide +kernel, by decide +kernel⟩, List.mem_of_getElem? (i := 440) (by decide +kernel), List.mem_of_getElem? (i := 555) (by decide +kernel), List.mem_of_getElem? (i := 556) (by decide +kernel)⟩
theorem lw_p13 : lw_okq (⟨"ShapeFormsModel", "isCrossing", "(III)Z"⟩, 15) := ⟨⟨by decide +kernel, by decide +kernel⟩, List.mem_of_getElem? (i := 440) (by decide +kernel), List.mem_of_getElem? (i := 568) (by decide +kernel), List.mem_of_getElem? (i := 569) (by decide +kernel)⟩
theorem lw_p14 : lw_okq (⟨"ShapeFormsModel", "foldsBack", "(IIII)Z"⟩, 15) := ⟨⟨by decide +kernel, by decide +kernel⟩, List.mem_of_getElem? (i := 440) (by decide +kernel), List.mem_of_getElem? (i := 572) (by decide +kernel), List.mem_of_getElem? (i := 573) (by decide +kernel)⟩
theorem lw_p15 : lw_okq (⟨"ShapeFormsModel", "sidesMeet", "(IIIIIII)Z"⟩, 15) := ⟨⟨by decide +kernel, by decide +kernel⟩, List.mem_of_getElem? (i := 440) (by decide +kernel), List.mem_of_getElem? (i := 585) (by decide +kernel), List.mem_of_getElem? (i := 586) (by decide +kernel)⟩
def lw_privs_1 : List (MethodName × Nat) := [(⟨"ShapeForms", "keep", "(LShapeForms$Shape;)I"⟩, 2), (⟨"java/lang/Throwable", "fillInStackTrace", "(I)Ljava/lang/Throwable;"⟩, 6), (⟨"ShapeForms", "find", "(I)LShapeForms$Shape;"⟩, 2), (⟨"ShapeForms$Shape", "compareToSide", "(IJJJ)I"⟩, 8), (⟨"ShapeForms$Shape", "squareTo", "(IJJ)J"⟩, 8), (⟨"ShapeForms$Shape", "coveredFrom", "(JZLShapeForms$Shape;I)J"⟩, 8), (⟨"ShapeFormsModel", "begin", "(IJ)I"⟩, 15), (⟨"ShapeFormsModel", "add", "(IJJ)V"⟩, 15), (⟨"ShapeFormsModel", "isShape", "(I)Z"⟩, 15), (⟨"ShapeFormsModel", "closed", "(I)I"⟩, 15), (⟨"ShapeFormsModel", "isEmpty", "(III)Z"⟩, 15), (⟨"ShapeFormsModel", "x", "(II)J"⟩, 15), (⟨"ShapeFormsModel", "y", "(II)J"⟩, 15), (⟨"ShapeFormsModel", "isCrossing", "(III)Z"⟩, 15), (⟨"ShapeFormsModel", "foldsBack", "(IIII)Z"⟩, 15), (⟨"ShapeFormsModel", "sidesMeet", "(IIIIIII)Z"⟩, 15)]
theorem lw_r1 : ∀ q ∈ lw_privs_1, lw_okq q := List.forall_mem_cons.mpr ⟨lw_p0, List.forall_mem_cons.mpr ⟨lw_p1, List.forall_mem_cons.mpr ⟨lw_p2, List.forall_mem_cons.mpr ⟨lw_p3, List.forall_mem_cons.mpr ⟨lw_p4, List.forall_mem_cons.mpr ⟨lw_p5, List.forall_mem_cons.mpr ⟨lw_p6, List.forall_mem_cons.mpr ⟨lw_p7, List.forall_mem_cons.mpr ⟨lw_p8, List.forall_mem_cons.mpr ⟨lw_p9, List.forall_mem_cons.mpr ⟨lw_p10, List.forall_mem_cons.mpr ⟨lw_p11, List.forall_mem_cons.mpr ⟨lw_p12, List.forall_mem_cons.mpr ⟨lw_p13, List.forall_mem_cons.mpr ⟨lw_p14, List.forall_mem_cons.mpr ⟨lw_p15, fun _ h => absurd h List.not_mem_nil⟩⟩⟩⟩⟩⟩⟩⟩⟩⟩⟩⟩⟩⟩⟩⟩
theorem lw_p16 : lw_okq (⟨"ShapeFormsModel", "isWhole", "(I)Z"⟩, 15) := ⟨⟨by decide +kernel, by decide +kernel⟩, List.mem_of_getElem? (i := 440) (by decide +kernel), List.mem_of_getElem? (i := 596) (by decide +kernel), List.mem_of_getElem? (i := 597) (by decide +kernel)⟩
theorem lw_p17 : lw_okq (⟨"ShapeFormsModel", "coresApart", "(IIJ)I"⟩, 15) := ⟨⟨by decide +kernel, by decide +kernel⟩, List.mem_of_getElem? (i := 440) (by decide +kernel), List.mem_of_getElem? (i := 600) (by decide +kernel), List.mem_of_getElem? (i := 601) (by decide +kernel)⟩
theorem lw_p18 : lw_okq (⟨"ShapeFormsModel", "pieces", "(II)V"⟩, 15) := ⟨⟨by decide +kernel, by decide +kernel⟩, List.mem_of_getElem? (i := 440) (by decide +kernel), List.mem_of_getElem? (i := 604) (by decide +kernel), List.mem_of_getElem? (i := 605) (by decide +kernel)⟩
theorem lw_p19 : lw_okq (⟨"ShapeFormsModel", "piece", "(IJJJJ)V"⟩, 15) := ⟨⟨by decide +kernel, by decide +kernel⟩, List.mem_of_getElem? (i := 440) (by decide +kernel), List.mem_of_getElem? (i := 608) (by decide +kernel), List.mem_of_getElem? (i := 609) (by decide +kernel)⟩
theorem lw_p20 : lw_okq (⟨"ShapeFormsModel", "haveCommon", "(II)Z"⟩, 15) := ⟨⟨by decide +kernel, by decide +kernel⟩, List.mem_of_getElem? (i := 440) (by decide +kernel), List.mem_of_getElem? (i := 612) (by decide +kernel), List.mem_of_getElem? (i := 613) (by decide +kernel)⟩
theorem lw_p21 : lw_okq (⟨"ShapeFormsModel", "isInCore", "(IIJJ)Z"⟩, 15) := ⟨⟨by decide +kernel, by decide +kernel⟩, List.mem_of_getElem? (i := 440) (by decide +kernel), List.mem_of_getElem? (i := 616) (by decide +kernel), List.mem_of_getElem? (i := 617) (by decide +kernel)⟩
theorem lw_p22 : lw_okq (⟨"ShapeFormsModel", "hasArea", "(I)Z"⟩, 15) := ⟨⟨by decide +kernel, by decide +kernel⟩, List.mem_of_getElem? (i := 440) (by decide +kernel), List.mem_of_getElem? (i := 620) (by decide +kernel), List.mem_of_getElem? (i := 621) (by decide +kernel)⟩
theorem lw_p23 : lw_okq (⟨"ShapeFormsModel", "apart", "(IIJ)I"⟩, 15) := ⟨⟨by decide +kernel, by decide +kernel⟩, List.mem_of_getElem? (i := 440) (by decide +kernel), List.mem_of_getElem? (i := 624) (by decide +kernel), List.mem_of_getElem? (i := 625) (by decide +kernel)⟩
theorem lw_p24 : lw_okq (⟨"ShapeFormsModel", "farther", "(JJJJJJJ)I"⟩, 15) := ⟨⟨by decide +kernel, by decide +kernel⟩, List.mem_of_getElem? (i := 440) (by decide +kernel), List.mem_of_getElem? (i := 628) (by decide +kernel), List.mem_of_getElem? (i := 629) (by decide +kernel)⟩
theorem lw_p25 : lw_okq (⟨"ShapeFormsModel", "compareProducts", "(JJJJ)I"⟩, 15) := ⟨⟨by decide +kernel, by decide +kernel⟩, List.mem_of_getElem? (i := 440) (by decide +kernel), List.mem_of_getElem? (i := 632) (by decide +kernel), List.mem_of_getElem? (i := 633) (by decide +kernel)⟩
theorem lw_p26 : lw_okq (⟨"ShapeFormsModel", "multiply", "(IJJ)V"⟩, 15) := ⟨⟨by decide +kernel, by decide +kernel⟩, List.mem_of_getElem? (i := 440) (by decide +kernel), List.mem_of_getElem? (i := 636) (by decide +kernel), List.mem_of_getElem? (i := 637) (by decide +kernel)⟩
theorem lw_p27 : lw_okq (⟨"ShapeFormsModel", "copy", "(IJ)I"⟩, 15) := ⟨⟨by decide +kernel, by decide +kernel⟩, List.mem_of_getElem? (i := 440) (by decide +kernel), List.mem_of_getElem? (i := 650) (by decide +kernel), List.mem_of_getElem? (i := 651) (by decide +kernel)⟩
theorem lw_p28 : lw_okq (⟨"ShapeFormsModel", "order", "(I)V"⟩, 15) := ⟨⟨by decide +kernel, by decide +kernel⟩, List.mem_of_getElem? (i := 440) (by decide +kernel), List.mem_of_getElem? (i := 658) (by decide +kernel), List.mem_of_getElem? (i := 659) (by decide +kernel)⟩
theorem lw_p29 : lw_okq (⟨"ShapeFormsModel", "covers", "(II)Z"⟩, 15) := ⟨⟨by decide +kernel, by decide +kernel⟩, List.mem_of_getElem? (i := 440) (by decide +kernel), List.mem_of_getElem? (i := 674) (by decide +kernel), List.mem_of_getElem? (i := 675) (by decide +kernel)⟩
theorem lw_p30 : lw_okq (⟨"ShapeFormsModel", "isCovered", "(II)Z"⟩, 15) := ⟨⟨by decide +kernel, by decide +kernel⟩, List.mem_of_getElem? (i := 440) (by decide +kernel), List.mem_of_getElem? (i := 678) (by decide +kernel), List.mem_of_getElem? (i := 679) (by decide +kernel)⟩
theorem lw_p31 : lw_okq (⟨"ShapeFormsModel", "isAhead", "(IJJJJ)Z"⟩, 15) := ⟨⟨by decide +kernel, by decide +kernel⟩, List.mem_of_getElem? (i := 440) (by decide +kernel), List.mem_of_getElem? (i := 682) (by decide +kernel), List.mem_of_getElem? (i := 683) (by decide +kernel)⟩
def lw_privs_2 : List (MethodName × Nat) := [(⟨"ShapeFormsModel", "isWhole", "(I)Z"⟩, 15), (⟨"ShapeFormsModel", "coresApart", "(IIJ)I"⟩, 15), (⟨"ShapeFormsModel", "pieces", "(II)V"⟩, 15), (⟨"ShapeFormsModel", "piece", "(IJJJJ)V"⟩, 15), (⟨"ShapeFormsModel", "haveCommon", "(II)Z"⟩, 15), (⟨"ShapeFormsModel", "isInCore", "(IIJJ)Z"⟩, 15), (⟨"ShapeFormsModel", "hasArea", "(I)Z"⟩, 15), (⟨"ShapeFormsModel", "apart", "(IIJ)I"⟩, 15), (⟨"ShapeFormsModel", "farther", "(JJJJJJJ)I"⟩, 15), (⟨"ShapeFormsModel", "compareProducts", "(JJJJ)I"⟩, 15), (⟨"ShapeFormsModel", "multiply", "(IJJ)V"⟩, 15), (⟨"ShapeFormsModel", "copy", "(IJ)I"⟩, 15), (⟨"ShapeFormsModel", "order", "(I)V"⟩, 15), (⟨"ShapeFormsModel", "covers", "(II)Z"⟩, 15), (⟨"ShapeFormsModel", "isCovered", "(II)Z"⟩, 15), (⟨"ShapeFormsModel", "isAhead", "(IJJJJ)Z"⟩, 15)]
theorem lw_r2 : ∀ q ∈ lw_privs_2, lw_okq q := List.forall_mem_cons.mpr ⟨lw_p16, List.forall_mem_cons.mpr ⟨lw_p17, List.forall_mem_cons.mpr ⟨lw_p18, List.forall_mem_cons.mpr ⟨lw_p19, List.forall_mem_cons.mpr ⟨lw_p20, List.forall_mem_cons.mpr ⟨lw_p21, List.forall_mem_cons.mpr ⟨lw_p22, List.forall_mem_cons.mpr ⟨lw_p23, List.forall_mem_cons.mpr ⟨lw_p24, List.forall_mem_cons.mpr ⟨lw_p25, List.forall_mem_cons.mpr ⟨lw_p26, List.forall_mem_cons.mpr ⟨lw_p27, List.forall_mem_cons.mpr ⟨lw_p28, List.forall_mem_cons.mpr ⟨lw_p29, List.forall_mem_cons.mpr ⟨lw_p30, List.forall_mem_cons.mpr ⟨lw_p31, fun _ h => absurd h List.not_mem_nil⟩⟩⟩⟩⟩⟩⟩⟩⟩⟩⟩⟩⟩⟩⟩⟩
def lw_privs : List (MethodName × Nat) := lw_privs_1 ++ (lw_privs_2)
def lw_tbl : List Cond := k2_sels lw_privs ++ tables_1
theorem lw_privs_ok : ∀ q ∈ lw_privs, lw_okq q := by
  show ∀ q ∈ lw_privs_1 ++ (lw_privs_2), lw_okq q
  exact List.forall_mem_append.mpr ⟨lw_r1, lw_r2⟩
/-! the good words of the tables, and how one is found there by its place -/
def wG : List Cond := lw_tbl.filter goodWord
theorem mG {w : Cond} (i : Nat) (h : lw_tbl[i]? = some w) (g : goodWord w = true) : w ∈ wG := List.mem_filter.mpr ⟨List.mem_of_getElem? h, g⟩
theorem wG_tbl : ∀ w ∈ wG, w ∈ lw_tbl := fun _ h => (List.mem_filter.mp h).1
abbrev R_F : String := "ShapeForms"
abbrev R_S : String := "ShapeForms$Shape"
abbrev R_P : String := "ShapeForms$Pair"
abbrev R_W : String := "ShapeForms$Wide"
abbrev R_M : String := "ShapeFormsModel"
abbrev R_L : String := "ShapeFormsLaw"
abbrev R_JL : String := "java/lang/Long"
abbrev R_JM : String := "java/lang/Math"
def T_S : u_T := fun k => match k with
  | 0 => ("ShapeForms$Shape", "form", "I", true)
  | 1 => ("ShapeForms$Shape", "filled", "Z", true)
  | 2 => ("ShapeForms$Shape", "radius", "J", true)
  | 3 => ("ShapeForms$Shape", "xs", "[J", true)
  | 4 => ("ShapeForms$Shape", "ys", "[J", true)
  | 5 => ("ShapeForms$Shape", "ends", "[I", true)
  | 6 => ("ShapeForms$Shape", "count", "I", false)
  | _ => ("ShapeForms$Shape", "open", "I", false)
def t_S : Nat → FieldType := fun k => match k with
  | 0 => .int
  | 1 => .boolean
  | 2 => .long
  | 3 => .array .long
  | 4 => .array .long
  | 5 => .array .int
  | 6 => .int
  | _ => .int
theorem nm_S : ∀ a, a < 8 → ∀ b, b < 8 → a ≠ b → (T_S a).2.1 ≠ (T_S b).2.1 := by decide +kernel
theorem t_S_ok : ∀ k, k < 8 → parseFieldDescriptor (T_S k).2.2.1 = some (t_S k) := by decide +kernel
theorem in_S : ∀ w ∈ u_ws R_S T_S 8, w ∈ wG := by decide +kernel
def T_F : u_T := fun k => match k with
  | 0 => ("ShapeForms", "shapes", "[LShapeForms$Shape;", true)
  | _ => ("ShapeForms", "made", "I", false)
def t_F : Nat → FieldType := fun k => match k with
  | 0 => .array (.object "ShapeForms$Shape")
  | _ => .int
theorem nm_F : ∀ a, a < 2 → ∀ b, b < 2 → a ≠ b → (T_F a).2.1 ≠ (T_F b).2.1 := by decide +kernel
theorem t_F_ok : ∀ k, k < 2 → parseFieldDescriptor (T_F k).2.2.1 = some (t_F k) := by decide +kernel
theorem in_F : ∀ w ∈ u_ws R_F T_F 2, w ∈ wG := by decide +kernel
def T_M : u_T := fun k => match k with
  | 0 => ("ShapeFormsModel", "thrown", "I", false)
  | 1 => ("ShapeFormsModel", "shapes", "I", false)
  | 2 => ("ShapeFormsModel", "kinds", "[I", true)
  | 3 => ("ShapeFormsModel", "radii", "[J", true)
  | 4 => ("ShapeFormsModel", "cornerX", "[J", true)
  | 5 => ("ShapeFormsModel", "cornerY", "[J", true)
  | 6 => ("ShapeFormsModel", "many", "[I", true)
  | 7 => ("ShapeFormsModel", "ends", "[I", true)
  | 8 => ("ShapeFormsModel", "rings", "[I", true)
  | 9 => ("ShapeFormsModel", "ax", "[J", true)
  | 10 => ("ShapeFormsModel", "ay", "[J", true)
  | 11 => ("ShapeFormsModel", "bx", "[J", true)
  | 12 => ("ShapeFormsModel", "by", "[J", true)
  | 13 => ("ShapeFormsModel", "size", "[I", true)
  | _ => ("ShapeFormsModel", "digits", "[J", true)
def t_M : Nat → FieldType := fun k => match k with
  | 0 => .int
  | 1 => .int
  | 2 => .array .int
  | 3 => .array .long
  | 4 => .array .long
  | 5 => .array .long
  | 6 => .array .int
  | 7 => .array .int
  | 8 => .array .int
  | 9 => .array .long
  | 10 => .array .long
  | 11 => .array .long
  | 12 => .array .long
  | 13 => .array .int
  | _ => .array .long
theorem nm_M : ∀ a, a < 15 → ∀ b, b < 15 → a ≠ b → (T_M a).2.1 ≠ (T_M b).2.1 := by decide +kernel
theorem t_M_ok : ∀ k, k < 15 → parseFieldDescriptor (T_M k).2.2.1 = some (t_M k) := by decide +kernel
theorem in_M : ∀ w ∈ u_ws R_M T_M 15, w ∈ wG := by decide +kernel
abbrev cls3 : List vw_C := [(R_S, T_S, 8), (R_F, T_F, 2), (R_M, T_M, 15)]
abbrev cF_init : ByteArray := prog_1_method_1_code
abbrev yF_init : MethodName := ⟨R_F, "<init>", "()V"⟩
abbrev wsF_init : List Cond := .code yF_init cF_init 1 none :: wG
abbrev cF_polygon : ByteArray := prog_1_method_4_code
abbrev yF_polygon : MethodName := ⟨R_F, "polygon", "()I"⟩
abbrev wsF_polygon : List Cond := .code yF_polygon cF_polygon 1 (some .int) :: wG
abbrev cS_init : ByteArray := prog_3_method_1_code
abbrev yS_init : MethodName := ⟨R_S, "<init>", "(IZJ)V"⟩
abbrev wsS_init : List Cond := .code yS_init cS_init 5 none :: wG
abbrev cF_keep : ByteArray := prog_1_method_21_code
abbrev yF_keep : MethodName := ⟨R_F, "keep", "(LShapeForms$Shape;)I"⟩
abbrev wsF_keep : List Cond := .code yF_keep cF_keep 2 (some .int) :: wG
abbrev cL_circle : ByteArray := method_3_code
abbrev yL_circle : MethodName := ⟨R_L, "circle", "(LShapeForms;JJJ[J)I"⟩
abbrev cF_circle : ByteArray := prog_1_method_2_code
abbrev yF_circle : MethodName := ⟨R_F, "circle", "(JJJ)I"⟩
abbrev wsF_circle : List Cond := .code yF_circle cF_circle 8 (some .int) :: wG
abbrev cF_needPlace : ByteArray := prog_1_method_17_code
abbrev yF_needPlace : MethodName := ⟨R_F, "needPlace", "(JJ)V"⟩
abbrev wsF_needPlace : List Cond := .code yF_needPlace cF_needPlace 4 none :: wG
abbrev cF_isPlace : ByteArray := prog_1_method_15_code
abbrev yF_isPlace : MethodName := ⟨R_F, "isPlace", "(JJ)Z"⟩
abbrev wsF_isPlace : List Cond := .code yF_isPlace cF_isPlace 4 (some .boolean) :: wG
abbrev cF_needLength : ByteArray := prog_1_method_18_code
abbrev yF_needLength : MethodName := ⟨R_F, "needLength", "(J)V"⟩
abbrev wsF_needLength : List Cond := .code yF_needLength cF_needLength 2 none :: wG
abbrev cF_isLength : ByteArray := prog_1_method_16_code
abbrev yF_isLength : MethodName := ⟨R_F, "isLength", "(J)Z"⟩
abbrev wsF_isLength : List Cond := .code yF_isLength cF_isLength 2 (some .boolean) :: wG
abbrev cS_addCorner : ByteArray := prog_3_method_5_code
abbrev yS_addCorner : MethodName := ⟨R_S, "addCorner", "(JJ)Z"⟩
abbrev wsS_addCorner : List Cond := .code yS_addCorner cS_addCorner 5 (some .boolean) :: wG
abbrev cL_box : ByteArray := method_4_code
abbrev yL_box : MethodName := ⟨R_L, "box", "(LShapeForms;JJJJJ[J)I"⟩
abbrev cF_box : ByteArray := prog_1_method_3_code
abbrev yF_box : MethodName := ⟨R_F, "box", "(JJJJJ)I"⟩
abbrev wsF_box : List Cond := .code yF_box cF_box 11 (some .int) :: wG
abbrev cF_roundedBox : ByteArray := prog_1_method_22_code
abbrev yF_roundedBox : MethodName := ⟨R_F, "roundedBox", "(JJJJJ)LShapeForms$Shape;"⟩
abbrev wsF_roundedBox : List Cond := .code yF_roundedBox cF_roundedBox 12 (some (.object "ShapeForms$Shape")) :: wG
abbrev cL_trace : ByteArray := method_5_code
abbrev yL_trace : MethodName := ⟨R_L, "trace", "(LShapeForms;J[J)I"⟩
abbrev cF_trace : ByteArray := prog_1_method_5_code
abbrev yF_trace : MethodName := ⟨R_F, "trace", "(J)I"⟩
abbrev wsF_trace : List Cond := .code yF_trace cF_trace 3 (some .int) :: wG
abbrev cL_corner : ByteArray := method_6_code
abbrev yL_corner : MethodName := ⟨R_L, "corner", "(LShapeForms;IJJ[J)I"⟩
abbrev cF_corner : ByteArray := prog_1_method_6_code
abbrev yF_corner : MethodName := ⟨R_F, "corner", "(IJJ)Z"⟩
abbrev wsF_corner : List Cond := .code yF_corner cF_corner 7 (some .boolean) :: wG
abbrev cF_find : ByteArray := prog_1_method_20_code
abbrev yF_find : MethodName := ⟨R_F, "find", "(I)LShapeForms$Shape;"⟩
abbrev wsF_find : List Cond := .code yF_find cF_find 3 (some (.object "ShapeForms$Shape")) :: wG
abbrev cS_takesCorners : ByteArray := prog_3_method_4_code
abbrev yS_takesCorners : MethodName := ⟨R_S, "takesCorners", "()Z"⟩
abbrev wsS_takesCorners : List Cond := .code yS_takesCorners cS_takesCorners 1 (some .boolean) :: wG
abbrev cL_ring : ByteArray := method_7_code
abbrev yL_ring : MethodName := ⟨R_L, "ring", "(LShapeForms;I[J)I"⟩
abbrev cF_ring : ByteArray := prog_1_method_7_code
abbrev yF_ring : MethodName := ⟨R_F, "ring", "(I)Z"⟩
abbrev wsF_ring : List Cond := .code yF_ring cF_ring 3 (some .boolean) :: wG
abbrev cS_hasOpenRing : ByteArray := prog_3_method_3_code
abbrev yS_hasOpenRing : MethodName := ⟨R_S, "hasOpenRing", "()Z"⟩
abbrev wsS_hasOpenRing : List Cond := .code yS_hasOpenRing cS_hasOpenRing 1 (some .boolean) :: wG
abbrev cS_closeRing : ByteArray := prog_3_method_6_code
abbrev yS_closeRing : MethodName := ⟨R_S, "closeRing", "()Z"⟩
abbrev wsS_closeRing : List Cond := .code yS_closeRing cS_closeRing 1 (some .boolean) :: wG
abbrev cS_isOpenRingEmpty : ByteArray := prog_3_method_7_code
abbrev yS_isOpenRingEmpty : MethodName := ⟨R_S, "isOpenRingEmpty", "()Z"⟩
abbrev wsS_isOpenRingEmpty : List Cond := .code yS_isOpenRingEmpty cS_isOpenRingEmpty 2 (some .boolean) :: wG
abbrev cS_cross : ByteArray := prog_3_method_13_code
abbrev yS_cross : MethodName := ⟨R_S, "cross", "(IJJ)J"⟩
abbrev wsS_cross : List Cond := .code yS_cross cS_cross 7 (some .long) :: wG
abbrev cS_isOpenRingCrossing : ByteArray := prog_3_method_8_code
abbrev yS_isOpenRingCrossing : MethodName := ⟨R_S, "isOpenRingCrossing", "()Z"⟩
abbrev wsS_isOpenRingCrossing : List Cond := .code yS_isOpenRingCrossing cS_isOpenRingCrossing 4 (some .boolean) :: wG
abbrev cP_sidesMeet : ByteArray := prog_2_method_5_code
abbrev yP_sidesMeet : MethodName := ⟨R_P, "sidesMeet", "(LShapeForms$Shape;ILShapeForms$Shape;I)Z"⟩
abbrev wsP_sidesMeet : List Cond := .code yP_sidesMeet cP_sidesMeet 6 (some .boolean) :: wG
abbrev cP_spansMeet : ByteArray := prog_2_method_6_code
abbrev yP_spansMeet : MethodName := ⟨R_P, "spansMeet", "(JJJJ)Z"⟩
abbrev wsP_spansMeet : List Cond := .code yP_spansMeet cP_spansMeet 8 (some .boolean) :: wG
abbrev cJM_min_JJ : ByteArray := prog_12_method_70_code
abbrev yJM_min_JJ : MethodName := ⟨R_JM, "min", "(JJ)J"⟩
abbrev wsJM_min_JJ : List Cond := .code yJM_min_JJ cJM_min_JJ 4 (some .long) :: wG
abbrev cJM_max_JJ : ByteArray := prog_12_method_66_code
abbrev yJM_max_JJ : MethodName := ⟨R_JM, "max", "(JJ)J"⟩
abbrev wsJM_max_JJ : List Cond := .code yJM_max_JJ cJM_max_JJ 4 (some .long) :: wG
abbrev cP_passesBeside : ByteArray := prog_2_method_7_code
abbrev yP_passesBeside : MethodName := ⟨R_P, "passesBeside", "(LShapeForms$Shape;ILShapeForms$Shape;I)Z"⟩
abbrev wsP_passesBeside : List Cond := .code yP_passesBeside cP_passesBeside 9 (some .boolean) :: wG
abbrev cL_grow : ByteArray := method_8_code
abbrev yL_grow : MethodName := ⟨R_L, "grow", "(LShapeForms;IJ[J)I"⟩
abbrev cF_grow : ByteArray := prog_1_method_8_code
abbrev yF_grow : MethodName := ⟨R_F, "grow", "(IJ)I"⟩
abbrev wsF_grow : List Cond := .code yF_grow cF_grow 7 (some .int) :: wG
abbrev cF_needWhole : ByteArray := prog_1_method_19_code
abbrev yF_needWhole : MethodName := ⟨R_F, "needWhole", "(LShapeForms$Shape;)V"⟩
abbrev wsF_needWhole : List Cond := .code yF_needWhole cF_needWhole 1 none :: wG
abbrev cS_isWhole : ByteArray := prog_3_method_2_code
abbrev yS_isWhole : MethodName := ⟨R_S, "isWhole", "()Z"⟩
abbrev wsS_isWhole : List Cond := .code yS_isWhole cS_isWhole 1 (some .boolean) :: wG
abbrev cS_copyWithRadius : ByteArray := prog_3_method_9_code
abbrev yS_copyWithRadius : MethodName := ⟨R_S, "copyWithRadius", "(J)LShapeForms$Shape;"⟩
abbrev wsS_copyWithRadius : List Cond := .code yS_copyWithRadius cS_copyWithRadius 5 (some (.object "ShapeForms$Shape")) :: wG
abbrev cL_inside : ByteArray := method_9_code
abbrev yL_inside : MethodName := ⟨R_L, "inside", "(LShapeForms;IJJ[J)I"⟩
abbrev cF_inside : ByteArray := prog_1_method_9_code
abbrev yF_inside : MethodName := ⟨R_F, "inside", "(IJJ)Z"⟩
abbrev wsF_inside : List Cond := .code yF_inside cF_inside 7 (some .boolean) :: wG
abbrev cS_compareToSides : ByteArray := prog_3_method_16_code
abbrev yS_compareToSides : MethodName := ⟨R_S, "compareToSides", "(JJJ)I"⟩
abbrev wsS_compareToSides : List Cond := .code yS_compareToSides cS_compareToSides 9 (some .int) :: wG
abbrev cS_compareToSide : ByteArray := prog_3_method_17_code
abbrev yS_compareToSide : MethodName := ⟨R_S, "compareToSide", "(IJJJ)I"⟩
abbrev wsS_compareToSide : List Cond := .code yS_compareToSide cS_compareToSide 19 (some .int) :: wG
abbrev cS_squareTo : ByteArray := prog_3_method_18_code
abbrev yS_squareTo : MethodName := ⟨R_S, "squareTo", "(IJJ)J"⟩
abbrev wsS_squareTo : List Cond := .code yS_squareTo cS_squareTo 6 (some .long) :: wG
abbrev cJL_compare_JJ : ByteArray := prog_11_method_42_code
abbrev yJL_compare_JJ : MethodName := ⟨R_JL, "compare", "(JJ)I"⟩
abbrev wsJL_compare_JJ : List Cond := .code yJL_compare_JJ cJL_compare_JJ 4 (some .int) :: wG
abbrev cJM_abs_J : ByteArray := prog_12_method_61_code
abbrev yJM_abs_J : MethodName := ⟨R_JM, "abs", "(J)J"⟩
abbrev wsJM_abs_J : List Cond := .code yJM_abs_J cJM_abs_J 2 (some .long) :: wG
abbrev cW_compareProducts : ByteArray := prog_4_method_2_code
abbrev yW_compareProducts : MethodName := ⟨R_W, "compareProducts", "(JJJJ)I"⟩
abbrev wsW_compareProducts : List Cond := .code yW_compareProducts cW_compareProducts 9 (some .int) :: wG
abbrev cW_highPart : ByteArray := prog_4_method_3_code
abbrev yW_highPart : MethodName := ⟨R_W, "highPart", "(JJ)J"⟩
abbrev wsW_highPart : List Cond := .code yW_highPart cW_highPart 16 (some .long) :: wG
abbrev cJM_min_II : ByteArray := prog_12_method_69_code
abbrev yJM_min_II : MethodName := ⟨R_JM, "min", "(II)I"⟩
abbrev wsJM_min_II : List Cond := .code yJM_min_II cJM_min_II 2 (some .int) :: wG
abbrev cS_encloses : ByteArray := prog_3_method_14_code
abbrev yS_encloses : MethodName := ⟨R_S, "encloses", "(JJ)Z"⟩
abbrev wsS_encloses : List Cond := .code yS_encloses cS_encloses 9 (some .boolean) :: wG
abbrev cL_nearer : ByteArray := method_10_code
abbrev yL_nearer : MethodName := ⟨R_L, "nearer", "(LShapeForms;IIJ[J)I"⟩
abbrev cF_nearer : ByteArray := prog_1_method_10_code
abbrev yF_nearer : MethodName := ⟨R_F, "nearer", "(IIJ)I"⟩
abbrev wsF_nearer : List Cond := .code yF_nearer cF_nearer 8 (some .int) :: wG
abbrev cP_compareCores : ByteArray := prog_2_method_2_code
abbrev yP_compareCores : MethodName := ⟨R_P, "compareCores", "(LShapeForms$Shape;LShapeForms$Shape;J)I"⟩
abbrev wsP_compareCores : List Cond := .code yP_compareCores cP_compareCores 4 (some .int) :: wG
abbrev cP_coresMeet : ByteArray := prog_2_method_4_code
abbrev yP_coresMeet : MethodName := ⟨R_P, "coresMeet", "(LShapeForms$Shape;LShapeForms$Shape;)Z"⟩
abbrev wsP_coresMeet : List Cond := .code yP_coresMeet cP_coresMeet 4 (some .boolean) :: wG
abbrev cS_enclosesCornerOf : ByteArray := prog_3_method_15_code
abbrev yS_enclosesCornerOf : MethodName := ⟨R_S, "enclosesCornerOf", "(LShapeForms$Shape;)Z"⟩
abbrev wsS_enclosesCornerOf : List Cond := .code yS_enclosesCornerOf cS_enclosesCornerOf 3 (some .boolean) :: wG
abbrev cP_compareCorners : ByteArray := prog_2_method_3_code
abbrev yP_compareCorners : MethodName := ⟨R_P, "compareCorners", "(LShapeForms$Shape;LShapeForms$Shape;J)I"⟩
abbrev wsP_compareCorners : List Cond := .code yP_compareCorners cP_compareCorners 6 (some .int) :: wG
abbrev cL_boxOf : ByteArray := method_11_code
abbrev yL_boxOf : MethodName := ⟨R_L, "boxOf", "(LShapeForms;II[J)I"⟩
abbrev cF_boxOf : ByteArray := prog_1_method_11_code
abbrev yF_boxOf : MethodName := ⟨R_F, "boxOf", "(II)J"⟩
abbrev wsF_boxOf : List Cond := .code yF_boxOf cF_boxOf 4 (some .long) :: wG
abbrev cS_outermost : ByteArray := prog_3_method_12_code
abbrev yS_outermost : MethodName := ⟨R_S, "outermost", "(I)J"⟩
abbrev wsS_outermost : List Cond := .code yS_outermost cS_outermost 8 (some .long) :: wG
abbrev cL_turn : ByteArray := method_12_code
abbrev yL_turn : MethodName := ⟨R_L, "turn", "(LShapeForms;IIZ[J)I"⟩
abbrev cF_turn : ByteArray := prog_1_method_12_code
abbrev yF_turn : MethodName := ⟨R_F, "turn", "(IIZ)I"⟩
abbrev wsF_turn : List Cond := .code yF_turn cF_turn 8 (some .int) :: wG
abbrev cS_mirrorCorners : ByteArray := prog_3_method_10_code
abbrev yS_mirrorCorners : MethodName := ⟨R_S, "mirrorCorners", "()V"⟩
abbrev wsS_mirrorCorners : List Cond := .code yS_mirrorCorners cS_mirrorCorners 2 none :: wG
abbrev cJM_floorMod_II : ByteArray := prog_12_method_50_code
abbrev yJM_floorMod_II : MethodName := ⟨R_JM, "floorMod", "(II)I"⟩
abbrev wsJM_floorMod_II : List Cond := .code yJM_floorMod_II cJM_floorMod_II 3 (some .int) :: wG
abbrev cS_turnCornersOnce : ByteArray := prog_3_method_11_code
abbrev yS_turnCornersOnce : MethodName := ⟨R_S, "turnCornersOnce", "()V"⟩
abbrev wsS_turnCornersOnce : List Cond := .code yS_turnCornersOnce cS_turnCornersOnce 4 none :: wG
abbrev cL_kind : ByteArray := method_13_code
abbrev yL_kind : MethodName := ⟨R_L, "kind", "(LShapeForms;I[J)I"⟩
abbrev cF_kind : ByteArray := prog_1_method_13_code
abbrev yF_kind : MethodName := ⟨R_F, "kind", "(I)I"⟩
abbrev wsF_kind : List Cond := .code yF_kind cF_kind 3 (some .int) :: wG
abbrev cL_same : ByteArray := method_14_code
abbrev yL_same : MethodName := ⟨R_L, "same", "(LShapeForms;II[J)I"⟩
abbrev cF_same : ByteArray := prog_1_method_14_code
abbrev yF_same : MethodName := ⟨R_F, "same", "(II)Z"⟩
abbrev wsF_same : List Cond := .code yF_same cF_same 5 (some .boolean) :: wG
abbrev cP_haveOneCore : ByteArray := prog_2_method_8_code
abbrev yP_haveOneCore : MethodName := ⟨R_P, "haveOneCore", "(LShapeForms$Shape;LShapeForms$Shape;)Z"⟩
abbrev wsP_haveOneCore : List Cond := .code yP_haveOneCore cP_haveOneCore 2 (some .boolean) :: wG
abbrev cP_coversAll : ByteArray := prog_2_method_9_code
abbrev yP_coversAll : MethodName := ⟨R_P, "coversAll", "(LShapeForms$Shape;LShapeForms$Shape;)Z"⟩
abbrev wsP_coversAll : List Cond := .code yP_coversAll cP_coversAll 3 (some .boolean) :: wG
abbrev cS_coversSide : ByteArray := prog_3_method_19_code
abbrev yS_coversSide : MethodName := ⟨R_S, "coversSide", "(LShapeForms$Shape;I)Z"⟩
abbrev wsS_coversSide : List Cond := .code yS_coversSide cS_coversSide 14 (some .boolean) :: wG
abbrev cS_coveredFrom : ByteArray := prog_3_method_20_code
abbrev yS_coveredFrom : MethodName := ⟨R_S, "coveredFrom", "(JZLShapeForms$Shape;I)J"⟩
abbrev wsS_coveredFrom : List Cond := .code yS_coveredFrom cS_coveredFrom 15 (some .long) :: wG
abbrev cM_init : ByteArray := prog_6_method_1_code
abbrev yM_init : MethodName := ⟨R_M, "<init>", "()V"⟩
abbrev wsM_init : List Cond := .code yM_init cM_init 1 none :: wG
abbrev cM_thrown : ByteArray := prog_6_method_2_code
abbrev yM_thrown : MethodName := ⟨R_M, "thrown", "()I"⟩
abbrev wsM_thrown : List Cond := .code yM_thrown cM_thrown 1 (some .int) :: wG
abbrev cM_circle : ByteArray := prog_6_method_10_code
abbrev yM_circle : MethodName := ⟨R_M, "circle", "(JJJ)I"⟩
abbrev wsM_circle : List Cond := .code yM_circle cM_circle 8 (some .int) :: wG
abbrev cM_isPlace : ByteArray := prog_6_method_3_code
abbrev yM_isPlace : MethodName := ⟨R_M, "isPlace", "(JJ)Z"⟩
abbrev wsM_isPlace : List Cond := .code yM_isPlace cM_isPlace 4 (some .boolean) :: wG
abbrev cM_isRadius : ByteArray := prog_6_method_4_code
abbrev yM_isRadius : MethodName := ⟨R_M, "isRadius", "(J)Z"⟩
abbrev wsM_isRadius : List Cond := .code yM_isRadius cM_isRadius 2 (some .boolean) :: wG
abbrev cM_begin : ByteArray := prog_6_method_8_code
abbrev yM_begin : MethodName := ⟨R_M, "begin", "(IJ)I"⟩
abbrev wsM_begin : List Cond := .code yM_begin cM_begin 4 (some .int) :: wG
abbrev cM_add : ByteArray := prog_6_method_9_code
abbrev yM_add : MethodName := ⟨R_M, "add", "(IJJ)V"⟩
abbrev wsM_add : List Cond := .code yM_add cM_add 6 none :: wG
abbrev cM_box : ByteArray := prog_6_method_11_code
abbrev yM_box : MethodName := ⟨R_M, "box", "(JJJJJ)I"⟩
abbrev wsM_box : List Cond := .code yM_box cM_box 13 (some .int) :: wG
abbrev cM_polygon : ByteArray := prog_6_method_12_code
abbrev yM_polygon : MethodName := ⟨R_M, "polygon", "()I"⟩
abbrev wsM_polygon : List Cond := .code yM_polygon cM_polygon 1 (some .int) :: wG
abbrev cM_trace : ByteArray := prog_6_method_13_code
abbrev yM_trace : MethodName := ⟨R_M, "trace", "(J)I"⟩
abbrev wsM_trace : List Cond := .code yM_trace cM_trace 3 (some .int) :: wG
abbrev cM_corner : ByteArray := prog_6_method_14_code
abbrev yM_corner : MethodName := ⟨R_M, "corner", "(IJJ)Z"⟩
abbrev wsM_corner : List Cond := .code yM_corner cM_corner 8 (some .boolean) :: wG
abbrev cM_isShape : ByteArray := prog_6_method_5_code
abbrev yM_isShape : MethodName := ⟨R_M, "isShape", "(I)Z"⟩
abbrev wsM_isShape : List Cond := .code yM_isShape cM_isShape 2 (some .boolean) :: wG
abbrev cM_closed : ByteArray := prog_6_method_6_code
abbrev yM_closed : MethodName := ⟨R_M, "closed", "(I)I"⟩
abbrev wsM_closed : List Cond := .code yM_closed cM_closed 2 (some .int) :: wG
abbrev cM_ring : ByteArray := prog_6_method_28_code
abbrev yM_ring : MethodName := ⟨R_M, "ring", "(I)Z"⟩
abbrev wsM_ring : List Cond := .code yM_ring cM_ring 6 (some .boolean) :: wG
abbrev cM_isEmpty : ByteArray := prog_6_method_24_code
abbrev yM_isEmpty : MethodName := ⟨R_M, "isEmpty", "(III)Z"⟩
abbrev wsM_isEmpty : List Cond := .code yM_isEmpty cM_isEmpty 7 (some .boolean) :: wG
abbrev cM_x : ByteArray := prog_6_method_21_code
abbrev yM_x : MethodName := ⟨R_M, "x", "(II)J"⟩
abbrev wsM_x : List Cond := .code yM_x cM_x 3 (some .long) :: wG
abbrev cM_y : ByteArray := prog_6_method_22_code
abbrev yM_y : MethodName := ⟨R_M, "y", "(II)J"⟩
abbrev wsM_y : List Cond := .code yM_y cM_y 3 (some .long) :: wG
abbrev cM_turnOf : ByteArray := prog_6_method_17_code
abbrev yM_turnOf : MethodName := ⟨R_M, "turnOf", "(JJJJJJ)I"⟩
abbrev wsM_turnOf : List Cond := .code yM_turnOf cM_turnOf 12 (some .int) :: wG
abbrev cM_cross : ByteArray := prog_6_method_15_code
abbrev yM_cross : MethodName := ⟨R_M, "cross", "(JJJJ)J"⟩
abbrev wsM_cross : List Cond := .code yM_cross cM_cross 8 (some .long) :: wG
abbrev cM_sign : ByteArray := prog_6_method_16_code
abbrev yM_sign : MethodName := ⟨R_M, "sign", "(J)I"⟩
abbrev wsM_sign : List Cond := .code yM_sign cM_sign 2 (some .int) :: wG
abbrev cM_isCrossing : ByteArray := prog_6_method_27_code
abbrev yM_isCrossing : MethodName := ⟨R_M, "isCrossing", "(III)Z"⟩
abbrev wsM_isCrossing : List Cond := .code yM_isCrossing cM_isCrossing 9 (some .boolean) :: wG
abbrev cM_foldsBack : ByteArray := prog_6_method_25_code
abbrev yM_foldsBack : MethodName := ⟨R_M, "foldsBack", "(IIII)Z"⟩
abbrev wsM_foldsBack : List Cond := .code yM_foldsBack cM_foldsBack 10 (some .boolean) :: wG
abbrev cM_behind : ByteArray := prog_6_method_23_code
abbrev yM_behind : MethodName := ⟨R_M, "behind", "(III)I"⟩
abbrev wsM_behind : List Cond := .code yM_behind cM_behind 3 (some .int) :: wG
abbrev cM_isOn : ByteArray := prog_6_method_19_code
abbrev yM_isOn : MethodName := ⟨R_M, "isOn", "(JJJJJJ)Z"⟩
abbrev wsM_isOn : List Cond := .code yM_isOn cM_isOn 12 (some .boolean) :: wG
abbrev cM_between : ByteArray := prog_6_method_18_code
abbrev yM_between : MethodName := ⟨R_M, "between", "(JJJ)Z"⟩
abbrev wsM_between : List Cond := .code yM_between cM_between 6 (some .boolean) :: wG
abbrev cM_sidesMeet : ByteArray := prog_6_method_26_code
abbrev yM_sidesMeet : MethodName := ⟨R_M, "sidesMeet", "(IIIIIII)Z"⟩
abbrev wsM_sidesMeet : List Cond := .code yM_sidesMeet cM_sidesMeet 10 (some .boolean) :: wG
abbrev cM_meet : ByteArray := prog_6_method_20_code
abbrev yM_meet : MethodName := ⟨R_M, "meet", "(JJJJJJJJ)Z"⟩
abbrev wsM_meet : List Cond := .code yM_meet cM_meet 18 (some .boolean) :: wG
abbrev cM_nearer : ByteArray := prog_6_method_39_code
abbrev yM_nearer : MethodName := ⟨R_M, "nearer", "(IIJ)I"⟩
abbrev wsM_nearer : List Cond := .code yM_nearer cM_nearer 6 (some .int) :: wG
abbrev cM_isWhole : ByteArray := prog_6_method_7_code
abbrev yM_isWhole : MethodName := ⟨R_M, "isWhole", "(I)Z"⟩
abbrev wsM_isWhole : List Cond := .code yM_isWhole cM_isWhole 2 (some .boolean) :: wG
abbrev cM_coresApart : ByteArray := prog_6_method_38_code
abbrev yM_coresApart : MethodName := ⟨R_M, "coresApart", "(IIJ)I"⟩
abbrev wsM_coresApart : List Cond := .code yM_coresApart cM_coresApart 9 (some .int) :: wG
abbrev cM_pieces : ByteArray := prog_6_method_30_code
abbrev yM_pieces : MethodName := ⟨R_M, "pieces", "(II)V"⟩
abbrev wsM_pieces : List Cond := .code yM_pieces cM_pieces 7 none :: wG
abbrev cM_piece : ByteArray := prog_6_method_29_code
abbrev yM_piece : MethodName := ⟨R_M, "piece", "(IJJJJ)V"⟩
abbrev wsM_piece : List Cond := .code yM_piece cM_piece 11 none :: wG
abbrev cM_haveCommon : ByteArray := prog_6_method_37_code
abbrev yM_haveCommon : MethodName := ⟨R_M, "haveCommon", "(II)Z"⟩
abbrev wsM_haveCommon : List Cond := .code yM_haveCommon cM_haveCommon 5 (some .boolean) :: wG
abbrev cM_isInCore : ByteArray := prog_6_method_32_code
abbrev yM_isInCore : MethodName := ⟨R_M, "isInCore", "(IIJJ)Z"⟩
abbrev wsM_isInCore : List Cond := .code yM_isInCore cM_isInCore 10 (some .boolean) :: wG
abbrev cM_hasArea : ByteArray := prog_6_method_31_code
abbrev yM_hasArea : MethodName := ⟨R_M, "hasArea", "(I)Z"⟩
abbrev wsM_hasArea : List Cond := .code yM_hasArea cM_hasArea 2 (some .boolean) :: wG
abbrev cM_apart : ByteArray := prog_6_method_36_code
abbrev yM_apart : MethodName := ⟨R_M, "apart", "(IIJ)I"⟩
abbrev wsM_apart : List Cond := .code yM_apart cM_apart 11 (some .int) :: wG
abbrev cM_farther : ByteArray := prog_6_method_35_code
abbrev yM_farther : MethodName := ⟨R_M, "farther", "(JJJJJJJ)I"⟩
abbrev wsM_farther : List Cond := .code yM_farther cM_farther 27 (some .int) :: wG
abbrev cM_compareProducts : ByteArray := prog_6_method_34_code
abbrev yM_compareProducts : MethodName := ⟨R_M, "compareProducts", "(JJJJ)I"⟩
abbrev wsM_compareProducts : List Cond := .code yM_compareProducts cM_compareProducts 10 (some .int) :: wG
abbrev cM_multiply : ByteArray := prog_6_method_33_code
abbrev yM_multiply : MethodName := ⟨R_M, "multiply", "(IJJ)V"⟩
abbrev wsM_multiply : List Cond := .code yM_multiply cM_multiply 24 none :: wG
abbrev cM_inside : ByteArray := prog_6_method_40_code
abbrev yM_inside : MethodName := ⟨R_M, "inside", "(IJJ)Z"⟩
abbrev wsM_inside : List Cond := .code yM_inside cM_inside 7 (some .boolean) :: wG
abbrev cM_grow : ByteArray := prog_6_method_42_code
abbrev yM_grow : MethodName := ⟨R_M, "grow", "(IJ)I"⟩
abbrev wsM_grow : List Cond := .code yM_grow cM_grow 4 (some .int) :: wG
abbrev cM_copy : ByteArray := prog_6_method_41_code
abbrev yM_copy : MethodName := ⟨R_M, "copy", "(IJ)I"⟩
abbrev wsM_copy : List Cond := .code yM_copy cM_copy 6 (some .int) :: wG
abbrev cM_turn : ByteArray := prog_6_method_43_code
abbrev yM_turn : MethodName := ⟨R_M, "turn", "(IIZ)I"⟩
abbrev wsM_turn : List Cond := .code yM_turn cM_turn 10 (some .int) :: wG
abbrev cM_order : ByteArray := prog_6_method_44_code
abbrev yM_order : MethodName := ⟨R_M, "order", "(I)V"⟩
abbrev wsM_order : List Cond := .code yM_order cM_order 10 none :: wG
abbrev cM_boxOf : ByteArray := prog_6_method_45_code
abbrev yM_boxOf : MethodName := ⟨R_M, "boxOf", "(II)J"⟩
abbrev wsM_boxOf : List Cond := .code yM_boxOf cM_boxOf 10 (some .long) :: wG
abbrev cM_kind : ByteArray := prog_6_method_46_code
abbrev yM_kind : MethodName := ⟨R_M, "kind", "(I)I"⟩
abbrev wsM_kind : List Cond := .code yM_kind cM_kind 2 (some .int) :: wG
abbrev cM_same : ByteArray := prog_6_method_51_code
abbrev yM_same : MethodName := ⟨R_M, "same", "(II)Z"⟩
abbrev wsM_same : List Cond := .code yM_same cM_same 3 (some .boolean) :: wG
abbrev cM_covers : ByteArray := prog_6_method_50_code
abbrev yM_covers : MethodName := ⟨R_M, "covers", "(II)Z"⟩
abbrev wsM_covers : List Cond := .code yM_covers cM_covers 5 (some .boolean) :: wG
abbrev cM_isCovered : ByteArray := prog_6_method_49_code
abbrev yM_isCovered : MethodName := ⟨R_M, "isCovered", "(II)Z"⟩
abbrev wsM_isCovered : List Cond := .code yM_isCovered cM_isCovered 14 (some .boolean) :: wG
abbrev cM_isAhead : ByteArray := prog_6_method_48_code
abbrev yM_isAhead : MethodName := ⟨R_M, "isAhead", "(IJJJJ)Z"⟩
abbrev wsM_isAhead : List Cond := .code yM_isAhead cM_isAhead 10 (some .boolean) :: wG
abbrev cM_isLine : ByteArray := prog_6_method_47_code
abbrev yM_isLine : MethodName := ⟨R_M, "isLine", "(II[J[J[J[J)Z"⟩
abbrev wsM_isLine : List Cond := .code yM_isLine cM_isLine 6 (some .boolean) :: wG
theorem w_0 : (Jvm.Cond.initialized "ShapeFormsLaw") ∈ wG := mG 32 (by decide +kernel) (by decide +kernel)
theorem w_1 : (Jvm.Cond.initialized "ShapeForms") ∈ wG := mG 33 (by decide +kernel) (by decide +kernel)
theorem w_2 : (Jvm.Cond.initialized "ShapeFormsModel") ∈ wG := mG 34 (by decide +kernel) (by decide +kernel)
theorem w_3 : (Jvm.Cond.initialized "java/lang/Throwable") ∈ wG := mG 35 (by decide +kernel) (by decide +kernel)
theorem w_4 : (Jvm.Cond.initialized "java/lang/Exception") ∈ wG := mG 36 (by decide +kernel) (by decide +kernel)
theorem w_5 : (Jvm.Cond.initialized "java/lang/RuntimeException") ∈ wG := mG 37 (by decide +kernel) (by decide +kernel)
theorem w_6 : (Jvm.Cond.initialized "java/lang/IllegalArgumentException") ∈ wG := mG 38 (by decide +kernel) (by decide +kernel)
theorem w_7 : (Jvm.Cond.initialized "ShapeForms$Shape") ∈ wG := mG 39 (by decide +kernel) (by decide +kernel)
theorem w_8 : (Jvm.Cond.initialized "java/lang/IndexOutOfBoundsException") ∈ wG := mG 40 (by decide +kernel) (by decide +kernel)
theorem w_9 : (Jvm.Cond.initialized "java/lang/IllegalStateException") ∈ wG := mG 41 (by decide +kernel) (by decide +kernel)
theorem w_10 : (Jvm.Cond.initialized "ShapeForms$Pair") ∈ wG := mG 42 (by decide +kernel) (by decide +kernel)
theorem w_11 : (Jvm.Cond.initialized "java/lang/Math") ∈ wG := mG 43 (by decide +kernel) (by decide +kernel)
theorem w_12 : (Jvm.Cond.initialized "java/lang/Long") ∈ wG := mG 44 (by decide +kernel) (by decide +kernel)
theorem w_13 : (Jvm.Cond.initialized "ShapeForms$Wide") ∈ wG := mG 45 (by decide +kernel) (by decide +kernel)
theorem w_14 : (Jvm.Cond.classLink "ShapeFormsLaw" (8 : Nat) "ShapeForms") ∈ wG := mG 46 (by decide +kernel) (by decide +kernel)
theorem w_15 : (Jvm.Cond.instantiable "ShapeForms" (2 : Nat)) ∈ wG := mG 47 (by decide +kernel) (by decide +kernel)
theorem w_16 : (Jvm.Cond.methodLink "ShapeFormsLaw" (62 : Nat) ({ cls := "ShapeForms", name := "<init>", desc := "()V" } : Jvm.MethodName)) ∈ wG := mG 48 (by decide +kernel) (by decide +kernel)
theorem w_17 : (Jvm.Cond.instanceMethod ({ cls := "ShapeForms", name := "<init>", desc := "()V" } : Jvm.MethodName)) ∈ wG := mG 49 (by decide +kernel) (by decide +kernel)
theorem w_18 : (Jvm.Cond.code ({ cls := "ShapeForms", name := "<init>", desc := "()V" } : Jvm.MethodName) prog_1_method_1_code (1 : Nat) (Option.none : Option Jvm.ClassFile.FieldType)) ∈ wG := mG 50 (by decide +kernel) (by decide +kernel)
theorem w_19 : (Jvm.Cond.methodLink "ShapeForms" (1 : Nat) ({ cls := "java/lang/Object", name := "<init>", desc := "()V" } : Jvm.MethodName)) ∈ wG := mG 51 (by decide +kernel) (by decide +kernel)
theorem w_20 : (Jvm.Cond.instanceMethod ({ cls := "java/lang/Object", name := "<init>", desc := "()V" } : Jvm.MethodName)) ∈ wG := mG 52 (by decide +kernel) (by decide +kernel)
theorem w_21 : (Jvm.Cond.code ({ cls := "java/lang/Object", name := "<init>", desc := "()V" } : Jvm.MethodName) object_method_1_code (1 : Nat) (Option.none : Option Jvm.ClassFile.FieldType)) ∈ wG := mG 53 (by decide +kernel) (by decide +kernel)
theorem w_22 : (Jvm.Cond.classLink "ShapeForms" (9 : Nat) "ShapeForms$Shape") ∈ wG := mG 54 (by decide +kernel) (by decide +kernel)
theorem w_24 : (Jvm.Cond.fieldLink "ShapeForms" (11 : Nat) "ShapeForms" "shapes" "[LShapeForms$Shape;") ∈ wG := mG 56 (by decide +kernel) (by decide +kernel)
theorem w_25 : (Jvm.Cond.fieldLink "ShapeForms" (15 : Nat) "ShapeForms" "made" "I") ∈ wG := mG 57 (by decide +kernel) (by decide +kernel)
theorem w_26 : (Jvm.Cond.laysFinal "ShapeForms" "ShapeForms" "shapes" "[LShapeForms$Shape;") ∈ wG := mG 58 (by decide +kernel) (by decide +kernel)
theorem w_27 : (Jvm.Cond.soleField "ShapeForms" "shapes") ∈ wG := mG 59 (by decide +kernel) (by decide +kernel)
theorem w_28 : (Jvm.Cond.lays "ShapeForms" "ShapeForms" "made" "I") ∈ wG := mG 60 (by decide +kernel) (by decide +kernel)
theorem w_29 : (Jvm.Cond.soleField "ShapeForms" "made") ∈ wG := mG 61 (by decide +kernel) (by decide +kernel)
theorem w_30 : (Jvm.Cond.superclass "ShapeForms" "java/lang/Object") ∈ wG := mG 62 (by decide +kernel) (by decide +kernel)
theorem w_31 : (Jvm.Cond.methodLink "ShapeFormsLaw" (82 : Nat) ({ cls := "ShapeForms", name := "polygon", desc := "()I" } : Jvm.MethodName)) ∈ wG := mG 63 (by decide +kernel) (by decide +kernel)
theorem w_32 : (Jvm.Cond.instanceMethod ({ cls := "ShapeForms", name := "polygon", desc := "()I" } : Jvm.MethodName)) ∈ wG := mG 64 (by decide +kernel) (by decide +kernel)
theorem w_33 : (Jvm.Cond.selects "ShapeForms" ({ cls := "ShapeForms", name := "polygon", desc := "()I" } : Jvm.MethodName) ({ cls := "ShapeForms", name := "polygon", desc := "()I" } : Jvm.MethodName)) ∈ wG := mG 65 (by decide +kernel) (by decide +kernel)
theorem w_34 : (Jvm.Cond.code ({ cls := "ShapeForms", name := "polygon", desc := "()I" } : Jvm.MethodName) prog_1_method_4_code (1 : Nat) (Option.some Jvm.ClassFile.FieldType.int)) ∈ wG := mG 66 (by decide +kernel) (by decide +kernel)
theorem w_35 : (Jvm.Cond.instantiable "ShapeForms$Shape" (8 : Nat)) ∈ wG := mG 67 (by decide +kernel) (by decide +kernel)
theorem w_36 : (Jvm.Cond.methodLink "ShapeForms" (27 : Nat) ({ cls := "ShapeForms$Shape", name := "<init>", desc := "(IZJ)V" } : Jvm.MethodName)) ∈ wG := mG 68 (by decide +kernel) (by decide +kernel)
theorem w_37 : (Jvm.Cond.instanceMethod ({ cls := "ShapeForms$Shape", name := "<init>", desc := "(IZJ)V" } : Jvm.MethodName)) ∈ wG := mG 69 (by decide +kernel) (by decide +kernel)
theorem w_38 : (Jvm.Cond.code ({ cls := "ShapeForms$Shape", name := "<init>", desc := "(IZJ)V" } : Jvm.MethodName) prog_3_method_1_code (5 : Nat) (Option.none : Option Jvm.ClassFile.FieldType)) ∈ wG := mG 70 (by decide +kernel) (by decide +kernel)
theorem w_39 : (Jvm.Cond.methodLink "ShapeForms$Shape" (3 : Nat) ({ cls := "java/lang/Object", name := "<init>", desc := "()V" } : Jvm.MethodName)) ∈ wG := mG 71 (by decide +kernel) (by decide +kernel)
theorem w_40 : (Jvm.Cond.fieldLink "ShapeForms$Shape" (9 : Nat) "ShapeForms$Shape" "form" "I") ∈ wG := mG 72 (by decide +kernel) (by decide +kernel)
theorem w_41 : (Jvm.Cond.fieldLink "ShapeForms" (132 : Nat) "ShapeForms$Shape" "form" "I") ∈ wG := mG 73 (by decide +kernel) (by decide +kernel)
theorem w_42 : (Jvm.Cond.fieldLink "ShapeForms$Shape" (15 : Nat) "ShapeForms$Shape" "filled" "Z") ∈ wG := mG 74 (by decide +kernel) (by decide +kernel)
theorem w_43 : (Jvm.Cond.fieldLink "ShapeForms$Pair" (75 : Nat) "ShapeForms$Shape" "filled" "Z") ∈ wG := mG 75 (by decide +kernel) (by decide +kernel)
theorem w_44 : (Jvm.Cond.fieldLink "ShapeForms$Shape" (19 : Nat) "ShapeForms$Shape" "radius" "J") ∈ wG := mG 76 (by decide +kernel) (by decide +kernel)
theorem w_45 : (Jvm.Cond.fieldLink "ShapeForms" (86 : Nat) "ShapeForms$Shape" "radius" "J") ∈ wG := mG 77 (by decide +kernel) (by decide +kernel)
theorem w_46 : (Jvm.Cond.fieldLink "ShapeForms$Shape" (23 : Nat) "ShapeForms$Shape" "xs" "[J") ∈ wG := mG 78 (by decide +kernel) (by decide +kernel)
theorem w_47 : (Jvm.Cond.fieldLink "ShapeForms$Pair" (35 : Nat) "ShapeForms$Shape" "xs" "[J") ∈ wG := mG 79 (by decide +kernel) (by decide +kernel)
theorem w_48 : (Jvm.Cond.fieldLink "ShapeForms$Shape" (27 : Nat) "ShapeForms$Shape" "ys" "[J") ∈ wG := mG 80 (by decide +kernel) (by decide +kernel)
theorem w_49 : (Jvm.Cond.fieldLink "ShapeForms$Pair" (39 : Nat) "ShapeForms$Shape" "ys" "[J") ∈ wG := mG 81 (by decide +kernel) (by decide +kernel)
theorem w_50 : (Jvm.Cond.fieldLink "ShapeForms$Shape" (30 : Nat) "ShapeForms$Shape" "ends" "[I") ∈ wG := mG 82 (by decide +kernel) (by decide +kernel)
theorem w_51 : (Jvm.Cond.fieldLink "ShapeForms$Pair" (54 : Nat) "ShapeForms$Shape" "ends" "[I") ∈ wG := mG 83 (by decide +kernel) (by decide +kernel)
theorem w_52 : (Jvm.Cond.fieldLink "ShapeForms$Shape" (34 : Nat) "ShapeForms$Shape" "count" "I") ∈ wG := mG 84 (by decide +kernel) (by decide +kernel)
theorem w_53 : (Jvm.Cond.fieldLink "ShapeForms$Pair" (29 : Nat) "ShapeForms$Shape" "count" "I") ∈ wG := mG 85 (by decide +kernel) (by decide +kernel)
theorem w_54 : (Jvm.Cond.fieldLink "ShapeForms$Shape" (37 : Nat) "ShapeForms$Shape" "open" "I") ∈ wG := mG 86 (by decide +kernel) (by decide +kernel)
theorem w_55 : (Jvm.Cond.laysFinal "ShapeForms$Shape" "ShapeForms$Shape" "form" "I") ∈ wG := mG 87 (by decide +kernel) (by decide +kernel)
theorem w_56 : (Jvm.Cond.soleField "ShapeForms$Shape" "form") ∈ wG := mG 88 (by decide +kernel) (by decide +kernel)
theorem w_57 : (Jvm.Cond.laysFinal "ShapeForms$Shape" "ShapeForms$Shape" "filled" "Z") ∈ wG := mG 89 (by decide +kernel) (by decide +kernel)
theorem w_58 : (Jvm.Cond.soleField "ShapeForms$Shape" "filled") ∈ wG := mG 90 (by decide +kernel) (by decide +kernel)
theorem w_59 : (Jvm.Cond.laysFinal "ShapeForms$Shape" "ShapeForms$Shape" "radius" "J") ∈ wG := mG 91 (by decide +kernel) (by decide +kernel)
theorem w_60 : (Jvm.Cond.soleField "ShapeForms$Shape" "radius") ∈ wG := mG 92 (by decide +kernel) (by decide +kernel)
theorem w_61 : (Jvm.Cond.laysFinal "ShapeForms$Shape" "ShapeForms$Shape" "xs" "[J") ∈ wG := mG 93 (by decide +kernel) (by decide +kernel)
theorem w_62 : (Jvm.Cond.soleField "ShapeForms$Shape" "xs") ∈ wG := mG 94 (by decide +kernel) (by decide +kernel)
theorem w_63 : (Jvm.Cond.laysFinal "ShapeForms$Shape" "ShapeForms$Shape" "ys" "[J") ∈ wG := mG 95 (by decide +kernel) (by decide +kernel)
theorem w_64 : (Jvm.Cond.soleField "ShapeForms$Shape" "ys") ∈ wG := mG 96 (by decide +kernel) (by decide +kernel)
theorem w_65 : (Jvm.Cond.laysFinal "ShapeForms$Shape" "ShapeForms$Shape" "ends" "[I") ∈ wG := mG 97 (by decide +kernel) (by decide +kernel)
theorem w_66 : (Jvm.Cond.soleField "ShapeForms$Shape" "ends") ∈ wG := mG 98 (by decide +kernel) (by decide +kernel)
theorem w_67 : (Jvm.Cond.lays "ShapeForms$Shape" "ShapeForms$Shape" "count" "I") ∈ wG := mG 99 (by decide +kernel) (by decide +kernel)
theorem w_68 : (Jvm.Cond.soleField "ShapeForms$Shape" "count") ∈ wG := mG 100 (by decide +kernel) (by decide +kernel)
theorem w_69 : (Jvm.Cond.lays "ShapeForms$Shape" "ShapeForms$Shape" "open" "I") ∈ wG := mG 101 (by decide +kernel) (by decide +kernel)
theorem w_70 : (Jvm.Cond.soleField "ShapeForms$Shape" "open") ∈ wG := mG 102 (by decide +kernel) (by decide +kernel)
theorem w_71 : (Jvm.Cond.superclass "ShapeForms$Shape" "java/lang/Object") ∈ wG := mG 103 (by decide +kernel) (by decide +kernel)
theorem w_72 : (Jvm.Cond.arrayClass Jvm.ClassFile.FieldType.long) ∈ wG := mG 104 (by decide +kernel) (by decide +kernel)
theorem w_73 : (Jvm.Cond.arrayClass Jvm.ClassFile.FieldType.int) ∈ wG := mG 105 (by decide +kernel) (by decide +kernel)
theorem w_74 : (Jvm.Cond.methodLink "ShapeForms" (34 : Nat) ({ cls := "ShapeForms", name := "keep", desc := "(LShapeForms$Shape;)I" } : Jvm.MethodName)) ∈ wG := mG 106 (by decide +kernel) (by decide +kernel)
theorem w_76 : (Jvm.Cond.instanceMethod ({ cls := "ShapeForms", name := "keep", desc := "(LShapeForms$Shape;)I" } : Jvm.MethodName)) ∈ wG := mG 108 (by decide +kernel) (by decide +kernel)
theorem w_77 : (Jvm.Cond.code ({ cls := "ShapeForms", name := "keep", desc := "(LShapeForms$Shape;)I" } : Jvm.MethodName) prog_1_method_21_code (2 : Nat) (Option.some Jvm.ClassFile.FieldType.int)) ∈ wG := mG 109 (by decide +kernel) (by decide +kernel)
theorem w_78 : (Jvm.Cond.methodLink "ShapeFormsLaw" (68 : Nat) ({ cls := "ShapeFormsLaw", name := "circle", desc := "(LShapeForms;JJJ[J)I" } : Jvm.MethodName)) ∈ wG := mG 110 (by decide +kernel) (by decide +kernel)
theorem w_79 : (Jvm.Cond.static ({ cls := "ShapeFormsLaw", name := "circle", desc := "(LShapeForms;JJJ[J)I" } : Jvm.MethodName)) ∈ wG := mG 111 (by decide +kernel) (by decide +kernel)
theorem w_81 : (Jvm.Cond.classLink "ShapeFormsLaw" (13 : Nat) "java/lang/IllegalArgumentException") ∈ wG := mG 113 (by decide +kernel) (by decide +kernel)
theorem w_82 : (Jvm.Cond.methodLink "ShapeFormsLaw" (7 : Nat) ({ cls := "ShapeForms", name := "circle", desc := "(JJJ)I" } : Jvm.MethodName)) ∈ wG := mG 114 (by decide +kernel) (by decide +kernel)
theorem w_83 : (Jvm.Cond.instanceMethod ({ cls := "ShapeForms", name := "circle", desc := "(JJJ)I" } : Jvm.MethodName)) ∈ wG := mG 115 (by decide +kernel) (by decide +kernel)
theorem w_84 : (Jvm.Cond.selects "ShapeForms" ({ cls := "ShapeForms", name := "circle", desc := "(JJJ)I" } : Jvm.MethodName) ({ cls := "ShapeForms", name := "circle", desc := "(JJJ)I" } : Jvm.MethodName)) ∈ wG := mG 116 (by decide +kernel) (by decide +kernel)
theorem w_85 : (Jvm.Cond.code ({ cls := "ShapeForms", name := "circle", desc := "(JJJ)I" } : Jvm.MethodName) prog_1_method_2_code (8 : Nat) (Option.some Jvm.ClassFile.FieldType.int)) ∈ wG := mG 117 (by decide +kernel) (by decide +kernel)
theorem w_86 : (Jvm.Cond.methodLink "ShapeForms" (19 : Nat) ({ cls := "ShapeForms", name := "needPlace", desc := "(JJ)V" } : Jvm.MethodName)) ∈ wG := mG 118 (by decide +kernel) (by decide +kernel)
theorem w_87 : (Jvm.Cond.static ({ cls := "ShapeForms", name := "needPlace", desc := "(JJ)V" } : Jvm.MethodName)) ∈ wG := mG 119 (by decide +kernel) (by decide +kernel)
theorem w_88 : (Jvm.Cond.code ({ cls := "ShapeForms", name := "needPlace", desc := "(JJ)V" } : Jvm.MethodName) prog_1_method_17_code (4 : Nat) (Option.none : Option Jvm.ClassFile.FieldType)) ∈ wG := mG 120 (by decide +kernel) (by decide +kernel)
theorem w_89 : (Jvm.Cond.methodLink "ShapeForms" (143 : Nat) ({ cls := "ShapeForms", name := "isPlace", desc := "(JJ)Z" } : Jvm.MethodName)) ∈ wG := mG 121 (by decide +kernel) (by decide +kernel)
theorem w_90 : (Jvm.Cond.static ({ cls := "ShapeForms", name := "isPlace", desc := "(JJ)Z" } : Jvm.MethodName)) ∈ wG := mG 122 (by decide +kernel) (by decide +kernel)
theorem w_91 : (Jvm.Cond.code ({ cls := "ShapeForms", name := "isPlace", desc := "(JJ)Z" } : Jvm.MethodName) prog_1_method_15_code (4 : Nat) (Option.some Jvm.ClassFile.FieldType.boolean)) ∈ wG := mG 123 (by decide +kernel) (by decide +kernel)
theorem w_92 : (Jvm.Cond.constantLong "ShapeForms" (139 : Nat) (-500000000 : Int64)) ∈ wG := mG 124 (by decide +kernel) (by decide +kernel)
theorem w_93 : (Jvm.Cond.constantLong "ShapeForms" (141 : Nat) (500000000 : Int64)) ∈ wG := mG 125 (by decide +kernel) (by decide +kernel)
theorem w_94 : (Jvm.Cond.classLink "ShapeForms" (40 : Nat) "java/lang/IllegalArgumentException") ∈ wG := mG 126 (by decide +kernel) (by decide +kernel)
theorem w_95 : (Jvm.Cond.instantiable "java/lang/IllegalArgumentException" (6 : Nat)) ∈ wG := mG 127 (by decide +kernel) (by decide +kernel)
theorem w_103 : (Jvm.Cond.selects "java/lang/IllegalArgumentException" ({ cls := "java/lang/Throwable", name := "fillInStackTrace", desc := "(I)Ljava/lang/Throwable;" } : Jvm.MethodName) ({ cls := "java/lang/Throwable", name := "fillInStackTrace", desc := "(I)Ljava/lang/Throwable;" } : Jvm.MethodName)) ∈ wG := mG 135 (by decide +kernel) (by decide +kernel)
theorem w_104 : (Jvm.Cond.selects "java/lang/IllegalArgumentException" ({ cls := "java/lang/Throwable", name := "fillInStackTrace", desc := "()Ljava/lang/Throwable;" } : Jvm.MethodName) ({ cls := "java/lang/Throwable", name := "fillInStackTrace", desc := "()Ljava/lang/Throwable;" } : Jvm.MethodName)) ∈ wG := mG 136 (by decide +kernel) (by decide +kernel)
theorem w_105 : (Jvm.Cond.lays "java/lang/IllegalArgumentException" "java/lang/Throwable" "cause" "Ljava/lang/Throwable;") ∈ wG := mG 137 (by decide +kernel) (by decide +kernel)
theorem w_106 : (Jvm.Cond.lays "java/lang/Throwable" "java/lang/Throwable" "cause" "Ljava/lang/Throwable;") ∈ wG := mG 138 (by decide +kernel) (by decide +kernel)
theorem w_107 : (Jvm.Cond.lays "java/lang/IllegalArgumentException" "java/lang/Throwable" "stackTrace" "[Ljava/lang/StackTraceElement;") ∈ wG := mG 139 (by decide +kernel) (by decide +kernel)
theorem w_108 : (Jvm.Cond.lays "java/lang/Throwable" "java/lang/Throwable" "stackTrace" "[Ljava/lang/StackTraceElement;") ∈ wG := mG 140 (by decide +kernel) (by decide +kernel)
theorem w_109 : (Jvm.Cond.lays "java/lang/IllegalArgumentException" "java/lang/Throwable" "suppressedExceptions" "Ljava/util/List;") ∈ wG := mG 141 (by decide +kernel) (by decide +kernel)
theorem w_110 : (Jvm.Cond.lays "java/lang/Throwable" "java/lang/Throwable" "suppressedExceptions" "Ljava/util/List;") ∈ wG := mG 142 (by decide +kernel) (by decide +kernel)
theorem w_111 : (Jvm.Cond.lays "java/lang/IllegalArgumentException" "java/lang/Throwable" "detailMessage" "Ljava/lang/String;") ∈ wG := mG 143 (by decide +kernel) (by decide +kernel)
theorem w_112 : (Jvm.Cond.lays "java/lang/Throwable" "java/lang/Throwable" "detailMessage" "Ljava/lang/String;") ∈ wG := mG 144 (by decide +kernel) (by decide +kernel)
theorem w_113 : (Jvm.Cond.lays "java/lang/IllegalArgumentException" "java/lang/Throwable" "backtrace" "Ljava/lang/Object;") ∈ wG := mG 145 (by decide +kernel) (by decide +kernel)
theorem w_114 : (Jvm.Cond.lays "java/lang/Throwable" "java/lang/Throwable" "backtrace" "Ljava/lang/Object;") ∈ wG := mG 146 (by decide +kernel) (by decide +kernel)
theorem w_115 : (Jvm.Cond.fieldLink "java/lang/Throwable" (198 : Nat) "java/lang/Throwable" "backtrace" "Ljava/lang/Object;") ∈ wG := mG 147 (by decide +kernel) (by decide +kernel)
theorem w_116 : (Jvm.Cond.superclass "java/lang/Throwable" "java/lang/Object") ∈ wG := mG 148 (by decide +kernel) (by decide +kernel)
theorem w_117 : (Jvm.Cond.instanceMethod ({ cls := "java/lang/Throwable", name := "<init>", desc := "()V" } : Jvm.MethodName)) ∈ wG := mG 149 (by decide +kernel) (by decide +kernel)
theorem w_118 : (Jvm.Cond.code ({ cls := "java/lang/Throwable", name := "<init>", desc := "()V" } : Jvm.MethodName) prog_15_method_1_code (1 : Nat) (Option.none : Option Jvm.ClassFile.FieldType)) ∈ wG := mG 150 (by decide +kernel) (by decide +kernel)
theorem w_119 : (Jvm.Cond.methodLink "java/lang/Throwable" (1 : Nat) ({ cls := "java/lang/Object", name := "<init>", desc := "()V" } : Jvm.MethodName)) ∈ wG := mG 151 (by decide +kernel) (by decide +kernel)
theorem w_120 : (Jvm.Cond.fieldLink "java/lang/Throwable" (13 : Nat) "java/lang/Throwable" "UNASSIGNED_STACK" "[Ljava/lang/StackTraceElement;") ∈ wG := mG 152 (by decide +kernel) (by decide +kernel)
theorem w_122 : (Jvm.Cond.fieldLink "java/lang/Throwable" (20 : Nat) "java/lang/Throwable" "SUPPRESSED_SENTINEL" "Ljava/util/List;") ∈ wG := mG 154 (by decide +kernel) (by decide +kernel)
theorem w_124 : (Jvm.Cond.methodLink "java/lang/Throwable" (27 : Nat) ({ cls := "java/lang/Throwable", name := "fillInStackTrace", desc := "()Ljava/lang/Throwable;" } : Jvm.MethodName)) ∈ wG := mG 156 (by decide +kernel) (by decide +kernel)
theorem w_125 : (Jvm.Cond.instanceMethod ({ cls := "java/lang/Throwable", name := "fillInStackTrace", desc := "()Ljava/lang/Throwable;" } : Jvm.MethodName)) ∈ wG := mG 157 (by decide +kernel) (by decide +kernel)
theorem w_126 : (Jvm.Cond.sameMethod "java/lang/Throwable" "java/lang/Throwable" "fillInStackTrace" "()Ljava/lang/Throwable;") ∈ wG := mG 158 (by decide +kernel) (by decide +kernel)
theorem w_127 : (Jvm.Cond.selects "java/lang/IllegalStateException" ({ cls := "java/lang/Throwable", name := "fillInStackTrace", desc := "()Ljava/lang/Throwable;" } : Jvm.MethodName) ({ cls := "java/lang/Throwable", name := "fillInStackTrace", desc := "()Ljava/lang/Throwable;" } : Jvm.MethodName)) ∈ wG := mG 159 (by decide +kernel) (by decide +kernel)
theorem w_128 : (Jvm.Cond.selects "java/lang/IndexOutOfBoundsException" ({ cls := "java/lang/Throwable", name := "fillInStackTrace", desc := "()Ljava/lang/Throwable;" } : Jvm.MethodName) ({ cls := "java/lang/Throwable", name := "fillInStackTrace", desc := "()Ljava/lang/Throwable;" } : Jvm.MethodName)) ∈ wG := mG 160 (by decide +kernel) (by decide +kernel)
theorem w_130 : (Jvm.Cond.methodLink "java/lang/Throwable" (202 : Nat) ({ cls := "java/lang/Throwable", name := "fillInStackTrace", desc := "(I)Ljava/lang/Throwable;" } : Jvm.MethodName)) ∈ wG := mG 162 (by decide +kernel) (by decide +kernel)
theorem w_132 : (Jvm.Cond.instanceMethod ({ cls := "java/lang/Throwable", name := "fillInStackTrace", desc := "(I)Ljava/lang/Throwable;" } : Jvm.MethodName)) ∈ wG := mG 164 (by decide +kernel) (by decide +kernel)
theorem w_133 : (Jvm.Cond.instantiable "java/lang/Throwable" (6 : Nat)) ∈ wG := mG 165 (by decide +kernel) (by decide +kernel)
theorem w_136 : (Jvm.Cond.methodLink "ShapeForms" (44 : Nat) ({ cls := "java/lang/IllegalArgumentException", name := "<init>", desc := "(Ljava/lang/String;)V" } : Jvm.MethodName)) ∈ wG := mG 168 (by decide +kernel) (by decide +kernel)
theorem w_137 : (Jvm.Cond.instanceMethod ({ cls := "java/lang/IllegalArgumentException", name := "<init>", desc := "(Ljava/lang/String;)V" } : Jvm.MethodName)) ∈ wG := mG 169 (by decide +kernel) (by decide +kernel)
theorem w_138 : (Jvm.Cond.code ({ cls := "java/lang/IllegalArgumentException", name := "<init>", desc := "(Ljava/lang/String;)V" } : Jvm.MethodName) prog_8_method_2_code (2 : Nat) (Option.none : Option Jvm.ClassFile.FieldType)) ∈ wG := mG 170 (by decide +kernel) (by decide +kernel)
theorem w_139 : (Jvm.Cond.methodLink "java/lang/IllegalArgumentException" (7 : Nat) ({ cls := "java/lang/RuntimeException", name := "<init>", desc := "(Ljava/lang/String;)V" } : Jvm.MethodName)) ∈ wG := mG 171 (by decide +kernel) (by decide +kernel)
theorem w_140 : (Jvm.Cond.instanceMethod ({ cls := "java/lang/RuntimeException", name := "<init>", desc := "(Ljava/lang/String;)V" } : Jvm.MethodName)) ∈ wG := mG 172 (by decide +kernel) (by decide +kernel)
theorem w_141 : (Jvm.Cond.code ({ cls := "java/lang/RuntimeException", name := "<init>", desc := "(Ljava/lang/String;)V" } : Jvm.MethodName) prog_13_method_2_code (2 : Nat) (Option.none : Option Jvm.ClassFile.FieldType)) ∈ wG := mG 173 (by decide +kernel) (by decide +kernel)
theorem w_142 : (Jvm.Cond.methodLink "java/lang/RuntimeException" (7 : Nat) ({ cls := "java/lang/Exception", name := "<init>", desc := "(Ljava/lang/String;)V" } : Jvm.MethodName)) ∈ wG := mG 174 (by decide +kernel) (by decide +kernel)
theorem w_143 : (Jvm.Cond.instanceMethod ({ cls := "java/lang/Exception", name := "<init>", desc := "(Ljava/lang/String;)V" } : Jvm.MethodName)) ∈ wG := mG 175 (by decide +kernel) (by decide +kernel)
theorem w_144 : (Jvm.Cond.code ({ cls := "java/lang/Exception", name := "<init>", desc := "(Ljava/lang/String;)V" } : Jvm.MethodName) prog_7_method_2_code (2 : Nat) (Option.none : Option Jvm.ClassFile.FieldType)) ∈ wG := mG 176 (by decide +kernel) (by decide +kernel)
theorem w_145 : (Jvm.Cond.methodLink "java/lang/Exception" (7 : Nat) ({ cls := "java/lang/Throwable", name := "<init>", desc := "(Ljava/lang/String;)V" } : Jvm.MethodName)) ∈ wG := mG 177 (by decide +kernel) (by decide +kernel)
theorem w_146 : (Jvm.Cond.instanceMethod ({ cls := "java/lang/Throwable", name := "<init>", desc := "(Ljava/lang/String;)V" } : Jvm.MethodName)) ∈ wG := mG 178 (by decide +kernel) (by decide +kernel)
theorem w_147 : (Jvm.Cond.code ({ cls := "java/lang/Throwable", name := "<init>", desc := "(Ljava/lang/String;)V" } : Jvm.MethodName) prog_15_method_2_code (2 : Nat) (Option.none : Option Jvm.ClassFile.FieldType)) ∈ wG := mG 179 (by decide +kernel) (by decide +kernel)
theorem w_148 : (Jvm.Cond.fieldLink "java/lang/Throwable" (198 : Nat) "java/lang/Throwable" "backtrace" "Ljava/lang/Object;") ∈ wG := mG 180 (by decide +kernel) (by decide +kernel)
theorem w_149 : (Jvm.Cond.fieldLink "java/lang/Throwable" (31 : Nat) "java/lang/Throwable" "detailMessage" "Ljava/lang/String;") ∈ wG := mG 181 (by decide +kernel) (by decide +kernel)
theorem w_150 : (Jvm.Cond.fieldLink "java/lang/Throwable" (7 : Nat) "java/lang/Throwable" "cause" "Ljava/lang/Throwable;") ∈ wG := mG 182 (by decide +kernel) (by decide +kernel)
theorem w_151 : (Jvm.Cond.fieldLink "java/lang/Throwable" (17 : Nat) "java/lang/Throwable" "stackTrace" "[Ljava/lang/StackTraceElement;") ∈ wG := mG 183 (by decide +kernel) (by decide +kernel)
theorem w_152 : (Jvm.Cond.fieldLink "java/lang/Throwable" (24 : Nat) "java/lang/Throwable" "suppressedExceptions" "Ljava/util/List;") ∈ wG := mG 184 (by decide +kernel) (by decide +kernel)
theorem w_153 : (Jvm.Cond.soleField "java/lang/Throwable" "backtrace") ∈ wG := mG 185 (by decide +kernel) (by decide +kernel)
theorem w_154 : (Jvm.Cond.soleField "java/lang/Throwable" "detailMessage") ∈ wG := mG 186 (by decide +kernel) (by decide +kernel)
theorem w_155 : (Jvm.Cond.soleField "java/lang/Throwable" "cause") ∈ wG := mG 187 (by decide +kernel) (by decide +kernel)
theorem w_156 : (Jvm.Cond.soleField "java/lang/Throwable" "stackTrace") ∈ wG := mG 188 (by decide +kernel) (by decide +kernel)
theorem w_157 : (Jvm.Cond.lays "java/lang/IllegalArgumentException" "java/lang/Throwable" "depth" "I") ∈ wG := mG 189 (by decide +kernel) (by decide +kernel)
theorem w_158 : (Jvm.Cond.soleField "java/lang/Throwable" "depth") ∈ wG := mG 190 (by decide +kernel) (by decide +kernel)
theorem w_159 : (Jvm.Cond.soleField "java/lang/Throwable" "suppressedExceptions") ∈ wG := mG 191 (by decide +kernel) (by decide +kernel)
theorem w_160 : (Jvm.Cond.superclass "java/lang/IllegalArgumentException" "java/lang/RuntimeException") ∈ wG := mG 192 (by decide +kernel) (by decide +kernel)
theorem w_161 : (Jvm.Cond.arrayClass Jvm.ClassFile.FieldType.byte) ∈ wG := mG 193 (by decide +kernel) (by decide +kernel)
theorem w_162 : (Jvm.Cond.methodLink "ShapeForms" (23 : Nat) ({ cls := "ShapeForms", name := "needLength", desc := "(J)V" } : Jvm.MethodName)) ∈ wG := mG 194 (by decide +kernel) (by decide +kernel)
theorem w_163 : (Jvm.Cond.static ({ cls := "ShapeForms", name := "needLength", desc := "(J)V" } : Jvm.MethodName)) ∈ wG := mG 195 (by decide +kernel) (by decide +kernel)
theorem w_164 : (Jvm.Cond.code ({ cls := "ShapeForms", name := "needLength", desc := "(J)V" } : Jvm.MethodName) prog_1_method_18_code (2 : Nat) (Option.none : Option Jvm.ClassFile.FieldType)) ∈ wG := mG 196 (by decide +kernel) (by decide +kernel)
theorem w_165 : (Jvm.Cond.methodLink "ShapeForms" (90 : Nat) ({ cls := "ShapeForms", name := "isLength", desc := "(J)Z" } : Jvm.MethodName)) ∈ wG := mG 197 (by decide +kernel) (by decide +kernel)
theorem w_166 : (Jvm.Cond.static ({ cls := "ShapeForms", name := "isLength", desc := "(J)Z" } : Jvm.MethodName)) ∈ wG := mG 198 (by decide +kernel) (by decide +kernel)
theorem w_167 : (Jvm.Cond.code ({ cls := "ShapeForms", name := "isLength", desc := "(J)Z" } : Jvm.MethodName) prog_1_method_16_code (2 : Nat) (Option.some Jvm.ClassFile.FieldType.boolean)) ∈ wG := mG 199 (by decide +kernel) (by decide +kernel)
theorem w_168 : (Jvm.Cond.constantLong "ShapeForms" (82 : Nat) (1000000000 : Int64)) ∈ wG := mG 200 (by decide +kernel) (by decide +kernel)
theorem w_170 : (Jvm.Cond.methodLink "ShapeForms" (30 : Nat) ({ cls := "ShapeForms$Shape", name := "addCorner", desc := "(JJ)Z" } : Jvm.MethodName)) ∈ wG := mG 202 (by decide +kernel) (by decide +kernel)
theorem w_171 : (Jvm.Cond.instanceMethod ({ cls := "ShapeForms$Shape", name := "addCorner", desc := "(JJ)Z" } : Jvm.MethodName)) ∈ wG := mG 203 (by decide +kernel) (by decide +kernel)
theorem w_172 : (Jvm.Cond.selects "ShapeForms$Shape" ({ cls := "ShapeForms$Shape", name := "addCorner", desc := "(JJ)Z" } : Jvm.MethodName) ({ cls := "ShapeForms$Shape", name := "addCorner", desc := "(JJ)Z" } : Jvm.MethodName)) ∈ wG := mG 204 (by decide +kernel) (by decide +kernel)
theorem w_173 : (Jvm.Cond.code ({ cls := "ShapeForms$Shape", name := "addCorner", desc := "(JJ)Z" } : Jvm.MethodName) prog_3_method_5_code (5 : Nat) (Option.some Jvm.ClassFile.FieldType.boolean)) ∈ wG := mG 205 (by decide +kernel) (by decide +kernel)
theorem w_174 : (Jvm.Cond.methodLink "ShapeFormsLaw" (78 : Nat) ({ cls := "ShapeFormsLaw", name := "box", desc := "(LShapeForms;JJJJJ[J)I" } : Jvm.MethodName)) ∈ wG := mG 206 (by decide +kernel) (by decide +kernel)
theorem w_175 : (Jvm.Cond.static ({ cls := "ShapeFormsLaw", name := "box", desc := "(LShapeForms;JJJJJ[J)I" } : Jvm.MethodName)) ∈ wG := mG 207 (by decide +kernel) (by decide +kernel)
theorem w_177 : (Jvm.Cond.methodLink "ShapeFormsLaw" (15 : Nat) ({ cls := "ShapeForms", name := "box", desc := "(JJJJJ)I" } : Jvm.MethodName)) ∈ wG := mG 209 (by decide +kernel) (by decide +kernel)
theorem w_178 : (Jvm.Cond.instanceMethod ({ cls := "ShapeForms", name := "box", desc := "(JJJJJ)I" } : Jvm.MethodName)) ∈ wG := mG 210 (by decide +kernel) (by decide +kernel)
theorem w_179 : (Jvm.Cond.selects "ShapeForms" ({ cls := "ShapeForms", name := "box", desc := "(JJJJJ)I" } : Jvm.MethodName) ({ cls := "ShapeForms", name := "box", desc := "(JJJJJ)I" } : Jvm.MethodName)) ∈ wG := mG 211 (by decide +kernel) (by decide +kernel)
theorem w_180 : (Jvm.Cond.code ({ cls := "ShapeForms", name := "box", desc := "(JJJJJ)I" } : Jvm.MethodName) prog_1_method_3_code (11 : Nat) (Option.some Jvm.ClassFile.FieldType.int)) ∈ wG := mG 212 (by decide +kernel) (by decide +kernel)
theorem w_181 : (Jvm.Cond.constantLong "ShapeForms" (38 : Nat) (2 : Int64)) ∈ wG := mG 213 (by decide +kernel) (by decide +kernel)
theorem w_183 : (Jvm.Cond.methodLink "ShapeForms" (47 : Nat) ({ cls := "ShapeForms", name := "roundedBox", desc := "(JJJJJ)LShapeForms$Shape;" } : Jvm.MethodName)) ∈ wG := mG 215 (by decide +kernel) (by decide +kernel)
theorem w_184 : (Jvm.Cond.static ({ cls := "ShapeForms", name := "roundedBox", desc := "(JJJJJ)LShapeForms$Shape;" } : Jvm.MethodName)) ∈ wG := mG 216 (by decide +kernel) (by decide +kernel)
theorem w_185 : (Jvm.Cond.code ({ cls := "ShapeForms", name := "roundedBox", desc := "(JJJJJ)LShapeForms$Shape;" } : Jvm.MethodName) prog_1_method_22_code (12 : Nat) (Option.some (Jvm.ClassFile.FieldType.object "ShapeForms$Shape"))) ∈ wG := mG 217 (by decide +kernel) (by decide +kernel)
theorem w_186 : (Jvm.Cond.methodLink "ShapeFormsLaw" (86 : Nat) ({ cls := "ShapeFormsLaw", name := "trace", desc := "(LShapeForms;J[J)I" } : Jvm.MethodName)) ∈ wG := mG 218 (by decide +kernel) (by decide +kernel)
theorem w_187 : (Jvm.Cond.static ({ cls := "ShapeFormsLaw", name := "trace", desc := "(LShapeForms;J[J)I" } : Jvm.MethodName)) ∈ wG := mG 219 (by decide +kernel) (by decide +kernel)
theorem w_189 : (Jvm.Cond.methodLink "ShapeFormsLaw" (19 : Nat) ({ cls := "ShapeForms", name := "trace", desc := "(J)I" } : Jvm.MethodName)) ∈ wG := mG 221 (by decide +kernel) (by decide +kernel)
theorem w_190 : (Jvm.Cond.instanceMethod ({ cls := "ShapeForms", name := "trace", desc := "(J)I" } : Jvm.MethodName)) ∈ wG := mG 222 (by decide +kernel) (by decide +kernel)
theorem w_191 : (Jvm.Cond.selects "ShapeForms" ({ cls := "ShapeForms", name := "trace", desc := "(J)I" } : Jvm.MethodName) ({ cls := "ShapeForms", name := "trace", desc := "(J)I" } : Jvm.MethodName)) ∈ wG := mG 223 (by decide +kernel) (by decide +kernel)
theorem w_192 : (Jvm.Cond.code ({ cls := "ShapeForms", name := "trace", desc := "(J)I" } : Jvm.MethodName) prog_1_method_5_code (3 : Nat) (Option.some Jvm.ClassFile.FieldType.int)) ∈ wG := mG 224 (by decide +kernel) (by decide +kernel)
theorem w_193 : (Jvm.Cond.constantLong "ShapeForms" (51 : Nat) (2000000000 : Int64)) ∈ wG := mG 225 (by decide +kernel) (by decide +kernel)
theorem w_195 : (Jvm.Cond.methodLink "ShapeFormsLaw" (90 : Nat) ({ cls := "ShapeFormsLaw", name := "corner", desc := "(LShapeForms;IJJ[J)I" } : Jvm.MethodName)) ∈ wG := mG 227 (by decide +kernel) (by decide +kernel)
theorem w_196 : (Jvm.Cond.static ({ cls := "ShapeFormsLaw", name := "corner", desc := "(LShapeForms;IJJ[J)I" } : Jvm.MethodName)) ∈ wG := mG 228 (by decide +kernel) (by decide +kernel)
theorem w_198 : (Jvm.Cond.classLink "ShapeFormsLaw" (27 : Nat) "java/lang/IndexOutOfBoundsException") ∈ wG := mG 230 (by decide +kernel) (by decide +kernel)
theorem w_199 : (Jvm.Cond.classLink "ShapeFormsLaw" (29 : Nat) "java/lang/IllegalStateException") ∈ wG := mG 231 (by decide +kernel) (by decide +kernel)
theorem w_200 : (Jvm.Cond.methodLink "ShapeFormsLaw" (23 : Nat) ({ cls := "ShapeForms", name := "corner", desc := "(IJJ)Z" } : Jvm.MethodName)) ∈ wG := mG 232 (by decide +kernel) (by decide +kernel)
theorem w_201 : (Jvm.Cond.instanceMethod ({ cls := "ShapeForms", name := "corner", desc := "(IJJ)Z" } : Jvm.MethodName)) ∈ wG := mG 233 (by decide +kernel) (by decide +kernel)
theorem w_202 : (Jvm.Cond.selects "ShapeForms" ({ cls := "ShapeForms", name := "corner", desc := "(IJJ)Z" } : Jvm.MethodName) ({ cls := "ShapeForms", name := "corner", desc := "(IJJ)Z" } : Jvm.MethodName)) ∈ wG := mG 234 (by decide +kernel) (by decide +kernel)
theorem w_203 : (Jvm.Cond.code ({ cls := "ShapeForms", name := "corner", desc := "(IJJ)Z" } : Jvm.MethodName) prog_1_method_6_code (7 : Nat) (Option.some Jvm.ClassFile.FieldType.boolean)) ∈ wG := mG 235 (by decide +kernel) (by decide +kernel)
theorem w_204 : (Jvm.Cond.methodLink "ShapeForms" (55 : Nat) ({ cls := "ShapeForms", name := "find", desc := "(I)LShapeForms$Shape;" } : Jvm.MethodName)) ∈ wG := mG 236 (by decide +kernel) (by decide +kernel)
theorem w_206 : (Jvm.Cond.instanceMethod ({ cls := "ShapeForms", name := "find", desc := "(I)LShapeForms$Shape;" } : Jvm.MethodName)) ∈ wG := mG 238 (by decide +kernel) (by decide +kernel)
theorem w_207 : (Jvm.Cond.code ({ cls := "ShapeForms", name := "find", desc := "(I)LShapeForms$Shape;" } : Jvm.MethodName) prog_1_method_20_code (3 : Nat) (Option.some (Jvm.ClassFile.FieldType.object "ShapeForms$Shape"))) ∈ wG := mG 239 (by decide +kernel) (by decide +kernel)
theorem w_208 : (Jvm.Cond.classLink "ShapeForms" (111 : Nat) "java/lang/IndexOutOfBoundsException") ∈ wG := mG 240 (by decide +kernel) (by decide +kernel)
theorem w_209 : (Jvm.Cond.instantiable "java/lang/IndexOutOfBoundsException" (6 : Nat)) ∈ wG := mG 241 (by decide +kernel) (by decide +kernel)
theorem w_211 : (Jvm.Cond.selects "java/lang/IndexOutOfBoundsException" ({ cls := "java/lang/Throwable", name := "fillInStackTrace", desc := "(I)Ljava/lang/Throwable;" } : Jvm.MethodName) ({ cls := "java/lang/Throwable", name := "fillInStackTrace", desc := "(I)Ljava/lang/Throwable;" } : Jvm.MethodName)) ∈ wG := mG 243 (by decide +kernel) (by decide +kernel)
theorem w_212 : (Jvm.Cond.lays "java/lang/IndexOutOfBoundsException" "java/lang/Throwable" "cause" "Ljava/lang/Throwable;") ∈ wG := mG 244 (by decide +kernel) (by decide +kernel)
theorem w_213 : (Jvm.Cond.lays "java/lang/IndexOutOfBoundsException" "java/lang/Throwable" "stackTrace" "[Ljava/lang/StackTraceElement;") ∈ wG := mG 245 (by decide +kernel) (by decide +kernel)
theorem w_214 : (Jvm.Cond.lays "java/lang/IndexOutOfBoundsException" "java/lang/Throwable" "suppressedExceptions" "Ljava/util/List;") ∈ wG := mG 246 (by decide +kernel) (by decide +kernel)
theorem w_215 : (Jvm.Cond.lays "java/lang/IndexOutOfBoundsException" "java/lang/Throwable" "detailMessage" "Ljava/lang/String;") ∈ wG := mG 247 (by decide +kernel) (by decide +kernel)
theorem w_216 : (Jvm.Cond.lays "java/lang/IndexOutOfBoundsException" "java/lang/Throwable" "backtrace" "Ljava/lang/Object;") ∈ wG := mG 248 (by decide +kernel) (by decide +kernel)
theorem w_218 : (Jvm.Cond.methodLink "ShapeForms" (115 : Nat) ({ cls := "java/lang/IndexOutOfBoundsException", name := "<init>", desc := "(Ljava/lang/String;)V" } : Jvm.MethodName)) ∈ wG := mG 250 (by decide +kernel) (by decide +kernel)
theorem w_219 : (Jvm.Cond.instanceMethod ({ cls := "java/lang/IndexOutOfBoundsException", name := "<init>", desc := "(Ljava/lang/String;)V" } : Jvm.MethodName)) ∈ wG := mG 251 (by decide +kernel) (by decide +kernel)
theorem w_220 : (Jvm.Cond.code ({ cls := "java/lang/IndexOutOfBoundsException", name := "<init>", desc := "(Ljava/lang/String;)V" } : Jvm.MethodName) prog_10_method_2_code (2 : Nat) (Option.none : Option Jvm.ClassFile.FieldType)) ∈ wG := mG 252 (by decide +kernel) (by decide +kernel)
theorem w_221 : (Jvm.Cond.methodLink "java/lang/IndexOutOfBoundsException" (7 : Nat) ({ cls := "java/lang/RuntimeException", name := "<init>", desc := "(Ljava/lang/String;)V" } : Jvm.MethodName)) ∈ wG := mG 253 (by decide +kernel) (by decide +kernel)
theorem w_222 : (Jvm.Cond.lays "java/lang/IndexOutOfBoundsException" "java/lang/Throwable" "depth" "I") ∈ wG := mG 254 (by decide +kernel) (by decide +kernel)
theorem w_223 : (Jvm.Cond.superclass "java/lang/IndexOutOfBoundsException" "java/lang/RuntimeException") ∈ wG := mG 255 (by decide +kernel) (by decide +kernel)
theorem w_224 : (Jvm.Cond.methodLink "ShapeForms" (59 : Nat) ({ cls := "ShapeForms$Shape", name := "takesCorners", desc := "()Z" } : Jvm.MethodName)) ∈ wG := mG 256 (by decide +kernel) (by decide +kernel)
theorem w_225 : (Jvm.Cond.instanceMethod ({ cls := "ShapeForms$Shape", name := "takesCorners", desc := "()Z" } : Jvm.MethodName)) ∈ wG := mG 257 (by decide +kernel) (by decide +kernel)
theorem w_226 : (Jvm.Cond.selects "ShapeForms$Shape" ({ cls := "ShapeForms$Shape", name := "takesCorners", desc := "()Z" } : Jvm.MethodName) ({ cls := "ShapeForms$Shape", name := "takesCorners", desc := "()Z" } : Jvm.MethodName)) ∈ wG := mG 258 (by decide +kernel) (by decide +kernel)
theorem w_227 : (Jvm.Cond.code ({ cls := "ShapeForms$Shape", name := "takesCorners", desc := "()Z" } : Jvm.MethodName) prog_3_method_4_code (1 : Nat) (Option.some Jvm.ClassFile.FieldType.boolean)) ∈ wG := mG 259 (by decide +kernel) (by decide +kernel)
theorem w_228 : (Jvm.Cond.classLink "ShapeForms" (63 : Nat) "java/lang/IllegalStateException") ∈ wG := mG 260 (by decide +kernel) (by decide +kernel)
theorem w_229 : (Jvm.Cond.instantiable "java/lang/IllegalStateException" (6 : Nat)) ∈ wG := mG 261 (by decide +kernel) (by decide +kernel)
theorem w_231 : (Jvm.Cond.selects "java/lang/IllegalStateException" ({ cls := "java/lang/Throwable", name := "fillInStackTrace", desc := "(I)Ljava/lang/Throwable;" } : Jvm.MethodName) ({ cls := "java/lang/Throwable", name := "fillInStackTrace", desc := "(I)Ljava/lang/Throwable;" } : Jvm.MethodName)) ∈ wG := mG 263 (by decide +kernel) (by decide +kernel)
theorem w_232 : (Jvm.Cond.lays "java/lang/IllegalStateException" "java/lang/Throwable" "cause" "Ljava/lang/Throwable;") ∈ wG := mG 264 (by decide +kernel) (by decide +kernel)
theorem w_233 : (Jvm.Cond.lays "java/lang/IllegalStateException" "java/lang/Throwable" "stackTrace" "[Ljava/lang/StackTraceElement;") ∈ wG := mG 265 (by decide +kernel) (by decide +kernel)
theorem w_234 : (Jvm.Cond.lays "java/lang/IllegalStateException" "java/lang/Throwable" "suppressedExceptions" "Ljava/util/List;") ∈ wG := mG 266 (by decide +kernel) (by decide +kernel)
theorem w_235 : (Jvm.Cond.lays "java/lang/IllegalStateException" "java/lang/Throwable" "detailMessage" "Ljava/lang/String;") ∈ wG := mG 267 (by decide +kernel) (by decide +kernel)
theorem w_236 : (Jvm.Cond.lays "java/lang/IllegalStateException" "java/lang/Throwable" "backtrace" "Ljava/lang/Object;") ∈ wG := mG 268 (by decide +kernel) (by decide +kernel)
theorem w_238 : (Jvm.Cond.methodLink "ShapeForms" (67 : Nat) ({ cls := "java/lang/IllegalStateException", name := "<init>", desc := "(Ljava/lang/String;)V" } : Jvm.MethodName)) ∈ wG := mG 270 (by decide +kernel) (by decide +kernel)
theorem w_239 : (Jvm.Cond.instanceMethod ({ cls := "java/lang/IllegalStateException", name := "<init>", desc := "(Ljava/lang/String;)V" } : Jvm.MethodName)) ∈ wG := mG 271 (by decide +kernel) (by decide +kernel)
theorem w_240 : (Jvm.Cond.code ({ cls := "java/lang/IllegalStateException", name := "<init>", desc := "(Ljava/lang/String;)V" } : Jvm.MethodName) prog_9_method_2_code (2 : Nat) (Option.none : Option Jvm.ClassFile.FieldType)) ∈ wG := mG 272 (by decide +kernel) (by decide +kernel)
theorem w_241 : (Jvm.Cond.methodLink "java/lang/IllegalStateException" (7 : Nat) ({ cls := "java/lang/RuntimeException", name := "<init>", desc := "(Ljava/lang/String;)V" } : Jvm.MethodName)) ∈ wG := mG 273 (by decide +kernel) (by decide +kernel)
theorem w_242 : (Jvm.Cond.lays "java/lang/IllegalStateException" "java/lang/Throwable" "depth" "I") ∈ wG := mG 274 (by decide +kernel) (by decide +kernel)
theorem w_243 : (Jvm.Cond.superclass "java/lang/IllegalStateException" "java/lang/RuntimeException") ∈ wG := mG 275 (by decide +kernel) (by decide +kernel)
theorem w_244 : (Jvm.Cond.methodLink "ShapeFormsLaw" (94 : Nat) ({ cls := "ShapeFormsLaw", name := "ring", desc := "(LShapeForms;I[J)I" } : Jvm.MethodName)) ∈ wG := mG 276 (by decide +kernel) (by decide +kernel)
theorem w_245 : (Jvm.Cond.static ({ cls := "ShapeFormsLaw", name := "ring", desc := "(LShapeForms;I[J)I" } : Jvm.MethodName)) ∈ wG := mG 277 (by decide +kernel) (by decide +kernel)
theorem w_247 : (Jvm.Cond.methodLink "ShapeFormsLaw" (31 : Nat) ({ cls := "ShapeForms", name := "ring", desc := "(I)Z" } : Jvm.MethodName)) ∈ wG := mG 279 (by decide +kernel) (by decide +kernel)
theorem w_248 : (Jvm.Cond.instanceMethod ({ cls := "ShapeForms", name := "ring", desc := "(I)Z" } : Jvm.MethodName)) ∈ wG := mG 280 (by decide +kernel) (by decide +kernel)
theorem w_249 : (Jvm.Cond.selects "ShapeForms" ({ cls := "ShapeForms", name := "ring", desc := "(I)Z" } : Jvm.MethodName) ({ cls := "ShapeForms", name := "ring", desc := "(I)Z" } : Jvm.MethodName)) ∈ wG := mG 281 (by decide +kernel) (by decide +kernel)
theorem w_250 : (Jvm.Cond.code ({ cls := "ShapeForms", name := "ring", desc := "(I)Z" } : Jvm.MethodName) prog_1_method_7_code (3 : Nat) (Option.some Jvm.ClassFile.FieldType.boolean)) ∈ wG := mG 282 (by decide +kernel) (by decide +kernel)
theorem w_251 : (Jvm.Cond.methodLink "ShapeForms" (68 : Nat) ({ cls := "ShapeForms$Shape", name := "hasOpenRing", desc := "()Z" } : Jvm.MethodName)) ∈ wG := mG 283 (by decide +kernel) (by decide +kernel)
theorem w_252 : (Jvm.Cond.instanceMethod ({ cls := "ShapeForms$Shape", name := "hasOpenRing", desc := "()Z" } : Jvm.MethodName)) ∈ wG := mG 284 (by decide +kernel) (by decide +kernel)
theorem w_253 : (Jvm.Cond.selects "ShapeForms$Shape" ({ cls := "ShapeForms$Shape", name := "hasOpenRing", desc := "()Z" } : Jvm.MethodName) ({ cls := "ShapeForms$Shape", name := "hasOpenRing", desc := "()Z" } : Jvm.MethodName)) ∈ wG := mG 285 (by decide +kernel) (by decide +kernel)
theorem w_254 : (Jvm.Cond.code ({ cls := "ShapeForms$Shape", name := "hasOpenRing", desc := "()Z" } : Jvm.MethodName) prog_3_method_3_code (1 : Nat) (Option.some Jvm.ClassFile.FieldType.boolean)) ∈ wG := mG 286 (by decide +kernel) (by decide +kernel)
theorem w_256 : (Jvm.Cond.methodLink "ShapeForms" (73 : Nat) ({ cls := "ShapeForms$Shape", name := "closeRing", desc := "()Z" } : Jvm.MethodName)) ∈ wG := mG 288 (by decide +kernel) (by decide +kernel)
theorem w_257 : (Jvm.Cond.instanceMethod ({ cls := "ShapeForms$Shape", name := "closeRing", desc := "()Z" } : Jvm.MethodName)) ∈ wG := mG 289 (by decide +kernel) (by decide +kernel)
theorem w_258 : (Jvm.Cond.selects "ShapeForms$Shape" ({ cls := "ShapeForms$Shape", name := "closeRing", desc := "()Z" } : Jvm.MethodName) ({ cls := "ShapeForms$Shape", name := "closeRing", desc := "()Z" } : Jvm.MethodName)) ∈ wG := mG 290 (by decide +kernel) (by decide +kernel)
theorem w_259 : (Jvm.Cond.code ({ cls := "ShapeForms$Shape", name := "closeRing", desc := "()Z" } : Jvm.MethodName) prog_3_method_6_code (1 : Nat) (Option.some Jvm.ClassFile.FieldType.boolean)) ∈ wG := mG 291 (by decide +kernel) (by decide +kernel)
theorem w_260 : (Jvm.Cond.methodLink "ShapeForms$Shape" (44 : Nat) ({ cls := "ShapeForms$Shape", name := "isOpenRingEmpty", desc := "()Z" } : Jvm.MethodName)) ∈ wG := mG 292 (by decide +kernel) (by decide +kernel)
theorem w_261 : (Jvm.Cond.instanceMethod ({ cls := "ShapeForms$Shape", name := "isOpenRingEmpty", desc := "()Z" } : Jvm.MethodName)) ∈ wG := mG 293 (by decide +kernel) (by decide +kernel)
theorem w_262 : (Jvm.Cond.selects "ShapeForms$Shape" ({ cls := "ShapeForms$Shape", name := "isOpenRingEmpty", desc := "()Z" } : Jvm.MethodName) ({ cls := "ShapeForms$Shape", name := "isOpenRingEmpty", desc := "()Z" } : Jvm.MethodName)) ∈ wG := mG 294 (by decide +kernel) (by decide +kernel)
theorem w_263 : (Jvm.Cond.code ({ cls := "ShapeForms$Shape", name := "isOpenRingEmpty", desc := "()Z" } : Jvm.MethodName) prog_3_method_7_code (2 : Nat) (Option.some Jvm.ClassFile.FieldType.boolean)) ∈ wG := mG 295 (by decide +kernel) (by decide +kernel)
theorem w_264 : (Jvm.Cond.methodLink "ShapeForms$Shape" (50 : Nat) ({ cls := "ShapeForms$Shape", name := "cross", desc := "(IJJ)J" } : Jvm.MethodName)) ∈ wG := mG 296 (by decide +kernel) (by decide +kernel)
theorem w_265 : (Jvm.Cond.instanceMethod ({ cls := "ShapeForms$Shape", name := "cross", desc := "(IJJ)J" } : Jvm.MethodName)) ∈ wG := mG 297 (by decide +kernel) (by decide +kernel)
theorem w_266 : (Jvm.Cond.selects "ShapeForms$Shape" ({ cls := "ShapeForms$Shape", name := "cross", desc := "(IJJ)J" } : Jvm.MethodName) ({ cls := "ShapeForms$Shape", name := "cross", desc := "(IJJ)J" } : Jvm.MethodName)) ∈ wG := mG 298 (by decide +kernel) (by decide +kernel)
theorem w_267 : (Jvm.Cond.code ({ cls := "ShapeForms$Shape", name := "cross", desc := "(IJJ)J" } : Jvm.MethodName) prog_3_method_13_code (7 : Nat) (Option.some Jvm.ClassFile.FieldType.long)) ∈ wG := mG 299 (by decide +kernel) (by decide +kernel)
theorem w_268 : (Jvm.Cond.methodLink "ShapeForms$Shape" (47 : Nat) ({ cls := "ShapeForms$Shape", name := "isOpenRingCrossing", desc := "()Z" } : Jvm.MethodName)) ∈ wG := mG 300 (by decide +kernel) (by decide +kernel)
theorem w_269 : (Jvm.Cond.instanceMethod ({ cls := "ShapeForms$Shape", name := "isOpenRingCrossing", desc := "()Z" } : Jvm.MethodName)) ∈ wG := mG 301 (by decide +kernel) (by decide +kernel)
theorem w_270 : (Jvm.Cond.selects "ShapeForms$Shape" ({ cls := "ShapeForms$Shape", name := "isOpenRingCrossing", desc := "()Z" } : Jvm.MethodName) ({ cls := "ShapeForms$Shape", name := "isOpenRingCrossing", desc := "()Z" } : Jvm.MethodName)) ∈ wG := mG 302 (by decide +kernel) (by decide +kernel)
theorem w_271 : (Jvm.Cond.code ({ cls := "ShapeForms$Shape", name := "isOpenRingCrossing", desc := "()Z" } : Jvm.MethodName) prog_3_method_8_code (4 : Nat) (Option.some Jvm.ClassFile.FieldType.boolean)) ∈ wG := mG 303 (by decide +kernel) (by decide +kernel)
theorem w_272 : (Jvm.Cond.methodLink "ShapeForms$Shape" (54 : Nat) ({ cls := "ShapeForms$Pair", name := "sidesMeet", desc := "(LShapeForms$Shape;ILShapeForms$Shape;I)Z" } : Jvm.MethodName)) ∈ wG := mG 304 (by decide +kernel) (by decide +kernel)
theorem w_273 : (Jvm.Cond.static ({ cls := "ShapeForms$Pair", name := "sidesMeet", desc := "(LShapeForms$Shape;ILShapeForms$Shape;I)Z" } : Jvm.MethodName)) ∈ wG := mG 305 (by decide +kernel) (by decide +kernel)
theorem w_274 : (Jvm.Cond.code ({ cls := "ShapeForms$Pair", name := "sidesMeet", desc := "(LShapeForms$Shape;ILShapeForms$Shape;I)Z" } : Jvm.MethodName) prog_2_method_5_code (6 : Nat) (Option.some Jvm.ClassFile.FieldType.boolean)) ∈ wG := mG 306 (by decide +kernel) (by decide +kernel)
theorem w_275 : (Jvm.Cond.methodLink "ShapeForms$Pair" (58 : Nat) ({ cls := "ShapeForms$Pair", name := "spansMeet", desc := "(JJJJ)Z" } : Jvm.MethodName)) ∈ wG := mG 307 (by decide +kernel) (by decide +kernel)
theorem w_276 : (Jvm.Cond.static ({ cls := "ShapeForms$Pair", name := "spansMeet", desc := "(JJJJ)Z" } : Jvm.MethodName)) ∈ wG := mG 308 (by decide +kernel) (by decide +kernel)
theorem w_277 : (Jvm.Cond.code ({ cls := "ShapeForms$Pair", name := "spansMeet", desc := "(JJJJ)Z" } : Jvm.MethodName) prog_2_method_6_code (8 : Nat) (Option.some Jvm.ClassFile.FieldType.boolean)) ∈ wG := mG 309 (by decide +kernel) (by decide +kernel)
theorem w_278 : (Jvm.Cond.methodLink "ShapeForms$Pair" (65 : Nat) ({ cls := "java/lang/Math", name := "min", desc := "(JJ)J" } : Jvm.MethodName)) ∈ wG := mG 310 (by decide +kernel) (by decide +kernel)
theorem w_279 : (Jvm.Cond.static ({ cls := "java/lang/Math", name := "min", desc := "(JJ)J" } : Jvm.MethodName)) ∈ wG := mG 311 (by decide +kernel) (by decide +kernel)
theorem w_280 : (Jvm.Cond.code ({ cls := "java/lang/Math", name := "min", desc := "(JJ)J" } : Jvm.MethodName) prog_12_method_70_code (4 : Nat) (Option.some Jvm.ClassFile.FieldType.long)) ∈ wG := mG 312 (by decide +kernel) (by decide +kernel)
theorem w_281 : (Jvm.Cond.methodLink "ShapeForms$Pair" (68 : Nat) ({ cls := "java/lang/Math", name := "max", desc := "(JJ)J" } : Jvm.MethodName)) ∈ wG := mG 313 (by decide +kernel) (by decide +kernel)
theorem w_282 : (Jvm.Cond.static ({ cls := "java/lang/Math", name := "max", desc := "(JJ)J" } : Jvm.MethodName)) ∈ wG := mG 314 (by decide +kernel) (by decide +kernel)
theorem w_283 : (Jvm.Cond.code ({ cls := "java/lang/Math", name := "max", desc := "(JJ)J" } : Jvm.MethodName) prog_12_method_66_code (4 : Nat) (Option.some Jvm.ClassFile.FieldType.long)) ∈ wG := mG 315 (by decide +kernel) (by decide +kernel)
theorem w_284 : (Jvm.Cond.methodLink "ShapeForms$Pair" (62 : Nat) ({ cls := "ShapeForms$Pair", name := "passesBeside", desc := "(LShapeForms$Shape;ILShapeForms$Shape;I)Z" } : Jvm.MethodName)) ∈ wG := mG 316 (by decide +kernel) (by decide +kernel)
theorem w_285 : (Jvm.Cond.static ({ cls := "ShapeForms$Pair", name := "passesBeside", desc := "(LShapeForms$Shape;ILShapeForms$Shape;I)Z" } : Jvm.MethodName)) ∈ wG := mG 317 (by decide +kernel) (by decide +kernel)
theorem w_286 : (Jvm.Cond.code ({ cls := "ShapeForms$Pair", name := "passesBeside", desc := "(LShapeForms$Shape;ILShapeForms$Shape;I)Z" } : Jvm.MethodName) prog_2_method_7_code (9 : Nat) (Option.some Jvm.ClassFile.FieldType.boolean)) ∈ wG := mG 318 (by decide +kernel) (by decide +kernel)
theorem w_287 : (Jvm.Cond.methodLink "ShapeForms$Pair" (71 : Nat) ({ cls := "ShapeForms$Shape", name := "cross", desc := "(IJJ)J" } : Jvm.MethodName)) ∈ wG := mG 319 (by decide +kernel) (by decide +kernel)
theorem w_288 : (Jvm.Cond.methodLink "ShapeFormsLaw" (98 : Nat) ({ cls := "ShapeFormsLaw", name := "grow", desc := "(LShapeForms;IJ[J)I" } : Jvm.MethodName)) ∈ wG := mG 320 (by decide +kernel) (by decide +kernel)
theorem w_289 : (Jvm.Cond.static ({ cls := "ShapeFormsLaw", name := "grow", desc := "(LShapeForms;IJ[J)I" } : Jvm.MethodName)) ∈ wG := mG 321 (by decide +kernel) (by decide +kernel)
theorem w_291 : (Jvm.Cond.methodLink "ShapeFormsLaw" (35 : Nat) ({ cls := "ShapeForms", name := "grow", desc := "(IJ)I" } : Jvm.MethodName)) ∈ wG := mG 323 (by decide +kernel) (by decide +kernel)
theorem w_292 : (Jvm.Cond.instanceMethod ({ cls := "ShapeForms", name := "grow", desc := "(IJ)I" } : Jvm.MethodName)) ∈ wG := mG 324 (by decide +kernel) (by decide +kernel)
theorem w_293 : (Jvm.Cond.selects "ShapeForms" ({ cls := "ShapeForms", name := "grow", desc := "(IJ)I" } : Jvm.MethodName) ({ cls := "ShapeForms", name := "grow", desc := "(IJ)I" } : Jvm.MethodName)) ∈ wG := mG 325 (by decide +kernel) (by decide +kernel)
theorem w_294 : (Jvm.Cond.code ({ cls := "ShapeForms", name := "grow", desc := "(IJ)I" } : Jvm.MethodName) prog_1_method_8_code (7 : Nat) (Option.some Jvm.ClassFile.FieldType.int)) ∈ wG := mG 326 (by decide +kernel) (by decide +kernel)
theorem w_295 : (Jvm.Cond.methodLink "ShapeForms" (76 : Nat) ({ cls := "ShapeForms", name := "needWhole", desc := "(LShapeForms$Shape;)V" } : Jvm.MethodName)) ∈ wG := mG 327 (by decide +kernel) (by decide +kernel)
theorem w_296 : (Jvm.Cond.static ({ cls := "ShapeForms", name := "needWhole", desc := "(LShapeForms$Shape;)V" } : Jvm.MethodName)) ∈ wG := mG 328 (by decide +kernel) (by decide +kernel)
theorem w_297 : (Jvm.Cond.code ({ cls := "ShapeForms", name := "needWhole", desc := "(LShapeForms$Shape;)V" } : Jvm.MethodName) prog_1_method_19_code (1 : Nat) (Option.none : Option Jvm.ClassFile.FieldType)) ∈ wG := mG 329 (by decide +kernel) (by decide +kernel)
theorem w_298 : (Jvm.Cond.methodLink "ShapeForms" (150 : Nat) ({ cls := "ShapeForms$Shape", name := "isWhole", desc := "()Z" } : Jvm.MethodName)) ∈ wG := mG 330 (by decide +kernel) (by decide +kernel)
theorem w_299 : (Jvm.Cond.instanceMethod ({ cls := "ShapeForms$Shape", name := "isWhole", desc := "()Z" } : Jvm.MethodName)) ∈ wG := mG 331 (by decide +kernel) (by decide +kernel)
theorem w_300 : (Jvm.Cond.selects "ShapeForms$Shape" ({ cls := "ShapeForms$Shape", name := "isWhole", desc := "()Z" } : Jvm.MethodName) ({ cls := "ShapeForms$Shape", name := "isWhole", desc := "()Z" } : Jvm.MethodName)) ∈ wG := mG 332 (by decide +kernel) (by decide +kernel)
theorem w_301 : (Jvm.Cond.code ({ cls := "ShapeForms$Shape", name := "isWhole", desc := "()Z" } : Jvm.MethodName) prog_3_method_2_code (1 : Nat) (Option.some Jvm.ClassFile.FieldType.boolean)) ∈ wG := mG 333 (by decide +kernel) (by decide +kernel)
theorem w_302 : (Jvm.Cond.methodLink "ShapeForms$Shape" (40 : Nat) ({ cls := "ShapeForms$Shape", name := "hasOpenRing", desc := "()Z" } : Jvm.MethodName)) ∈ wG := mG 334 (by decide +kernel) (by decide +kernel)
theorem w_304 : (Jvm.Cond.constantLong "ShapeForms" (80 : Nat) (-1000000000 : Int64)) ∈ wG := mG 336 (by decide +kernel) (by decide +kernel)
theorem w_306 : (Jvm.Cond.methodLink "ShapeForms" (94 : Nat) ({ cls := "ShapeForms$Shape", name := "copyWithRadius", desc := "(J)LShapeForms$Shape;" } : Jvm.MethodName)) ∈ wG := mG 338 (by decide +kernel) (by decide +kernel)
theorem w_307 : (Jvm.Cond.instanceMethod ({ cls := "ShapeForms$Shape", name := "copyWithRadius", desc := "(J)LShapeForms$Shape;" } : Jvm.MethodName)) ∈ wG := mG 339 (by decide +kernel) (by decide +kernel)
theorem w_308 : (Jvm.Cond.selects "ShapeForms$Shape" ({ cls := "ShapeForms$Shape", name := "copyWithRadius", desc := "(J)LShapeForms$Shape;" } : Jvm.MethodName) ({ cls := "ShapeForms$Shape", name := "copyWithRadius", desc := "(J)LShapeForms$Shape;" } : Jvm.MethodName)) ∈ wG := mG 340 (by decide +kernel) (by decide +kernel)
theorem w_309 : (Jvm.Cond.code ({ cls := "ShapeForms$Shape", name := "copyWithRadius", desc := "(J)LShapeForms$Shape;" } : Jvm.MethodName) prog_3_method_9_code (5 : Nat) (Option.some (Jvm.ClassFile.FieldType.object "ShapeForms$Shape"))) ∈ wG := mG 341 (by decide +kernel) (by decide +kernel)
theorem w_310 : (Jvm.Cond.classLink "ShapeForms$Shape" (10 : Nat) "ShapeForms$Shape") ∈ wG := mG 342 (by decide +kernel) (by decide +kernel)
theorem w_311 : (Jvm.Cond.methodLink "ShapeForms$Shape" (60 : Nat) ({ cls := "ShapeForms$Shape", name := "<init>", desc := "(IZJ)V" } : Jvm.MethodName)) ∈ wG := mG 343 (by decide +kernel) (by decide +kernel)
theorem w_312 : (Jvm.Cond.methodLink "ShapeFormsLaw" (102 : Nat) ({ cls := "ShapeFormsLaw", name := "inside", desc := "(LShapeForms;IJJ[J)I" } : Jvm.MethodName)) ∈ wG := mG 344 (by decide +kernel) (by decide +kernel)
theorem w_313 : (Jvm.Cond.static ({ cls := "ShapeFormsLaw", name := "inside", desc := "(LShapeForms;IJJ[J)I" } : Jvm.MethodName)) ∈ wG := mG 345 (by decide +kernel) (by decide +kernel)
theorem w_315 : (Jvm.Cond.methodLink "ShapeFormsLaw" (39 : Nat) ({ cls := "ShapeForms", name := "inside", desc := "(IJJ)Z" } : Jvm.MethodName)) ∈ wG := mG 347 (by decide +kernel) (by decide +kernel)
theorem w_316 : (Jvm.Cond.instanceMethod ({ cls := "ShapeForms", name := "inside", desc := "(IJJ)Z" } : Jvm.MethodName)) ∈ wG := mG 348 (by decide +kernel) (by decide +kernel)
theorem w_317 : (Jvm.Cond.selects "ShapeForms" ({ cls := "ShapeForms", name := "inside", desc := "(IJJ)Z" } : Jvm.MethodName) ({ cls := "ShapeForms", name := "inside", desc := "(IJJ)Z" } : Jvm.MethodName)) ∈ wG := mG 349 (by decide +kernel) (by decide +kernel)
theorem w_318 : (Jvm.Cond.code ({ cls := "ShapeForms", name := "inside", desc := "(IJJ)Z" } : Jvm.MethodName) prog_1_method_9_code (7 : Nat) (Option.some Jvm.ClassFile.FieldType.boolean)) ∈ wG := mG 350 (by decide +kernel) (by decide +kernel)
theorem w_319 : (Jvm.Cond.methodLink "ShapeForms" (98 : Nat) ({ cls := "ShapeForms$Shape", name := "compareToSides", desc := "(JJJ)I" } : Jvm.MethodName)) ∈ wG := mG 351 (by decide +kernel) (by decide +kernel)
theorem w_320 : (Jvm.Cond.instanceMethod ({ cls := "ShapeForms$Shape", name := "compareToSides", desc := "(JJJ)I" } : Jvm.MethodName)) ∈ wG := mG 352 (by decide +kernel) (by decide +kernel)
theorem w_321 : (Jvm.Cond.selects "ShapeForms$Shape" ({ cls := "ShapeForms$Shape", name := "compareToSides", desc := "(JJJ)I" } : Jvm.MethodName) ({ cls := "ShapeForms$Shape", name := "compareToSides", desc := "(JJJ)I" } : Jvm.MethodName)) ∈ wG := mG 353 (by decide +kernel) (by decide +kernel)
theorem w_322 : (Jvm.Cond.code ({ cls := "ShapeForms$Shape", name := "compareToSides", desc := "(JJJ)I" } : Jvm.MethodName) prog_3_method_16_code (9 : Nat) (Option.some Jvm.ClassFile.FieldType.int)) ∈ wG := mG 354 (by decide +kernel) (by decide +kernel)
theorem w_323 : (Jvm.Cond.methodLink "ShapeForms$Shape" (76 : Nat) ({ cls := "ShapeForms$Shape", name := "compareToSide", desc := "(IJJJ)I" } : Jvm.MethodName)) ∈ wG := mG 355 (by decide +kernel) (by decide +kernel)
theorem w_325 : (Jvm.Cond.instanceMethod ({ cls := "ShapeForms$Shape", name := "compareToSide", desc := "(IJJJ)I" } : Jvm.MethodName)) ∈ wG := mG 357 (by decide +kernel) (by decide +kernel)
theorem w_326 : (Jvm.Cond.code ({ cls := "ShapeForms$Shape", name := "compareToSide", desc := "(IJJJ)I" } : Jvm.MethodName) prog_3_method_17_code (19 : Nat) (Option.some Jvm.ClassFile.FieldType.int)) ∈ wG := mG 358 (by decide +kernel) (by decide +kernel)
theorem w_327 : (Jvm.Cond.methodLink "ShapeForms$Shape" (83 : Nat) ({ cls := "ShapeForms$Shape", name := "squareTo", desc := "(IJJ)J" } : Jvm.MethodName)) ∈ wG := mG 359 (by decide +kernel) (by decide +kernel)
theorem w_329 : (Jvm.Cond.instanceMethod ({ cls := "ShapeForms$Shape", name := "squareTo", desc := "(IJJ)J" } : Jvm.MethodName)) ∈ wG := mG 361 (by decide +kernel) (by decide +kernel)
theorem w_330 : (Jvm.Cond.code ({ cls := "ShapeForms$Shape", name := "squareTo", desc := "(IJJ)J" } : Jvm.MethodName) prog_3_method_18_code (6 : Nat) (Option.some Jvm.ClassFile.FieldType.long)) ∈ wG := mG 362 (by decide +kernel) (by decide +kernel)
theorem w_331 : (Jvm.Cond.methodLink "ShapeForms$Shape" (86 : Nat) ({ cls := "java/lang/Long", name := "compare", desc := "(JJ)I" } : Jvm.MethodName)) ∈ wG := mG 363 (by decide +kernel) (by decide +kernel)
theorem w_332 : (Jvm.Cond.static ({ cls := "java/lang/Long", name := "compare", desc := "(JJ)I" } : Jvm.MethodName)) ∈ wG := mG 364 (by decide +kernel) (by decide +kernel)
theorem w_333 : (Jvm.Cond.code ({ cls := "java/lang/Long", name := "compare", desc := "(JJ)I" } : Jvm.MethodName) prog_11_method_42_code (4 : Nat) (Option.some Jvm.ClassFile.FieldType.int)) ∈ wG := mG 365 (by decide +kernel) (by decide +kernel)
theorem w_334 : (Jvm.Cond.methodLink "ShapeForms$Shape" (92 : Nat) ({ cls := "java/lang/Math", name := "abs", desc := "(J)J" } : Jvm.MethodName)) ∈ wG := mG 366 (by decide +kernel) (by decide +kernel)
theorem w_335 : (Jvm.Cond.static ({ cls := "java/lang/Math", name := "abs", desc := "(J)J" } : Jvm.MethodName)) ∈ wG := mG 367 (by decide +kernel) (by decide +kernel)
theorem w_336 : (Jvm.Cond.code ({ cls := "java/lang/Math", name := "abs", desc := "(J)J" } : Jvm.MethodName) prog_12_method_61_code (2 : Nat) (Option.some Jvm.ClassFile.FieldType.long)) ∈ wG := mG 368 (by decide +kernel) (by decide +kernel)
theorem w_337 : (Jvm.Cond.methodLink "ShapeForms$Shape" (96 : Nat) ({ cls := "ShapeForms$Wide", name := "compareProducts", desc := "(JJJJ)I" } : Jvm.MethodName)) ∈ wG := mG 369 (by decide +kernel) (by decide +kernel)
theorem w_338 : (Jvm.Cond.static ({ cls := "ShapeForms$Wide", name := "compareProducts", desc := "(JJJJ)I" } : Jvm.MethodName)) ∈ wG := mG 370 (by decide +kernel) (by decide +kernel)
theorem w_339 : (Jvm.Cond.code ({ cls := "ShapeForms$Wide", name := "compareProducts", desc := "(JJJJ)I" } : Jvm.MethodName) prog_4_method_2_code (9 : Nat) (Option.some Jvm.ClassFile.FieldType.int)) ∈ wG := mG 371 (by decide +kernel) (by decide +kernel)
theorem w_340 : (Jvm.Cond.methodLink "ShapeForms$Wide" (7 : Nat) ({ cls := "ShapeForms$Wide", name := "highPart", desc := "(JJ)J" } : Jvm.MethodName)) ∈ wG := mG 372 (by decide +kernel) (by decide +kernel)
theorem w_341 : (Jvm.Cond.static ({ cls := "ShapeForms$Wide", name := "highPart", desc := "(JJ)J" } : Jvm.MethodName)) ∈ wG := mG 373 (by decide +kernel) (by decide +kernel)
theorem w_342 : (Jvm.Cond.code ({ cls := "ShapeForms$Wide", name := "highPart", desc := "(JJ)J" } : Jvm.MethodName) prog_4_method_3_code (16 : Nat) (Option.some Jvm.ClassFile.FieldType.long)) ∈ wG := mG 374 (by decide +kernel) (by decide +kernel)
theorem w_343 : (Jvm.Cond.constantLong "ShapeForms$Wide" (21 : Nat) (4294967295 : Int64)) ∈ wG := mG 375 (by decide +kernel) (by decide +kernel)
theorem w_344 : (Jvm.Cond.methodLink "ShapeForms$Wide" (13 : Nat) ({ cls := "java/lang/Long", name := "compare", desc := "(JJ)I" } : Jvm.MethodName)) ∈ wG := mG 376 (by decide +kernel) (by decide +kernel)
theorem w_345 : (Jvm.Cond.constantLong "ShapeForms$Wide" (19 : Nat) (-9223372036854775808 : Int64)) ∈ wG := mG 377 (by decide +kernel) (by decide +kernel)
theorem w_346 : (Jvm.Cond.methodLink "ShapeForms$Shape" (80 : Nat) ({ cls := "java/lang/Math", name := "min", desc := "(II)I" } : Jvm.MethodName)) ∈ wG := mG 378 (by decide +kernel) (by decide +kernel)
theorem w_347 : (Jvm.Cond.static ({ cls := "java/lang/Math", name := "min", desc := "(II)I" } : Jvm.MethodName)) ∈ wG := mG 379 (by decide +kernel) (by decide +kernel)
theorem w_348 : (Jvm.Cond.code ({ cls := "java/lang/Math", name := "min", desc := "(II)I" } : Jvm.MethodName) prog_12_method_69_code (2 : Nat) (Option.some Jvm.ClassFile.FieldType.int)) ∈ wG := mG 380 (by decide +kernel) (by decide +kernel)
theorem w_349 : (Jvm.Cond.methodLink "ShapeForms" (102 : Nat) ({ cls := "ShapeForms$Shape", name := "encloses", desc := "(JJ)Z" } : Jvm.MethodName)) ∈ wG := mG 381 (by decide +kernel) (by decide +kernel)
theorem w_350 : (Jvm.Cond.instanceMethod ({ cls := "ShapeForms$Shape", name := "encloses", desc := "(JJ)Z" } : Jvm.MethodName)) ∈ wG := mG 382 (by decide +kernel) (by decide +kernel)
theorem w_351 : (Jvm.Cond.selects "ShapeForms$Shape" ({ cls := "ShapeForms$Shape", name := "encloses", desc := "(JJ)Z" } : Jvm.MethodName) ({ cls := "ShapeForms$Shape", name := "encloses", desc := "(JJ)Z" } : Jvm.MethodName)) ∈ wG := mG 383 (by decide +kernel) (by decide +kernel)
theorem w_352 : (Jvm.Cond.code ({ cls := "ShapeForms$Shape", name := "encloses", desc := "(JJ)Z" } : Jvm.MethodName) prog_3_method_14_code (9 : Nat) (Option.some Jvm.ClassFile.FieldType.boolean)) ∈ wG := mG 384 (by decide +kernel) (by decide +kernel)
theorem w_353 : (Jvm.Cond.methodLink "ShapeFormsLaw" (105 : Nat) ({ cls := "ShapeFormsLaw", name := "nearer", desc := "(LShapeForms;IIJ[J)I" } : Jvm.MethodName)) ∈ wG := mG 385 (by decide +kernel) (by decide +kernel)
theorem w_354 : (Jvm.Cond.static ({ cls := "ShapeFormsLaw", name := "nearer", desc := "(LShapeForms;IIJ[J)I" } : Jvm.MethodName)) ∈ wG := mG 386 (by decide +kernel) (by decide +kernel)
theorem w_356 : (Jvm.Cond.methodLink "ShapeFormsLaw" (42 : Nat) ({ cls := "ShapeForms", name := "nearer", desc := "(IIJ)I" } : Jvm.MethodName)) ∈ wG := mG 388 (by decide +kernel) (by decide +kernel)
theorem w_357 : (Jvm.Cond.instanceMethod ({ cls := "ShapeForms", name := "nearer", desc := "(IIJ)I" } : Jvm.MethodName)) ∈ wG := mG 389 (by decide +kernel) (by decide +kernel)
theorem w_358 : (Jvm.Cond.selects "ShapeForms" ({ cls := "ShapeForms", name := "nearer", desc := "(IIJ)I" } : Jvm.MethodName) ({ cls := "ShapeForms", name := "nearer", desc := "(IIJ)I" } : Jvm.MethodName)) ∈ wG := mG 390 (by decide +kernel) (by decide +kernel)
theorem w_359 : (Jvm.Cond.code ({ cls := "ShapeForms", name := "nearer", desc := "(IIJ)I" } : Jvm.MethodName) prog_1_method_10_code (8 : Nat) (Option.some Jvm.ClassFile.FieldType.int)) ∈ wG := mG 391 (by decide +kernel) (by decide +kernel)
theorem w_360 : (Jvm.Cond.methodLink "ShapeForms" (105 : Nat) ({ cls := "ShapeForms$Pair", name := "compareCores", desc := "(LShapeForms$Shape;LShapeForms$Shape;J)I" } : Jvm.MethodName)) ∈ wG := mG 392 (by decide +kernel) (by decide +kernel)
theorem w_361 : (Jvm.Cond.static ({ cls := "ShapeForms$Pair", name := "compareCores", desc := "(LShapeForms$Shape;LShapeForms$Shape;J)I" } : Jvm.MethodName)) ∈ wG := mG 393 (by decide +kernel) (by decide +kernel)
theorem w_362 : (Jvm.Cond.code ({ cls := "ShapeForms$Pair", name := "compareCores", desc := "(LShapeForms$Shape;LShapeForms$Shape;J)I" } : Jvm.MethodName) prog_2_method_2_code (4 : Nat) (Option.some Jvm.ClassFile.FieldType.int)) ∈ wG := mG 394 (by decide +kernel) (by decide +kernel)
theorem w_363 : (Jvm.Cond.methodLink "ShapeForms$Pair" (7 : Nat) ({ cls := "ShapeForms$Pair", name := "coresMeet", desc := "(LShapeForms$Shape;LShapeForms$Shape;)Z" } : Jvm.MethodName)) ∈ wG := mG 395 (by decide +kernel) (by decide +kernel)
theorem w_364 : (Jvm.Cond.static ({ cls := "ShapeForms$Pair", name := "coresMeet", desc := "(LShapeForms$Shape;LShapeForms$Shape;)Z" } : Jvm.MethodName)) ∈ wG := mG 396 (by decide +kernel) (by decide +kernel)
theorem w_365 : (Jvm.Cond.code ({ cls := "ShapeForms$Pair", name := "coresMeet", desc := "(LShapeForms$Shape;LShapeForms$Shape;)Z" } : Jvm.MethodName) prog_2_method_4_code (4 : Nat) (Option.some Jvm.ClassFile.FieldType.boolean)) ∈ wG := mG 397 (by decide +kernel) (by decide +kernel)
theorem w_366 : (Jvm.Cond.methodLink "ShapeForms$Pair" (46 : Nat) ({ cls := "ShapeForms$Pair", name := "sidesMeet", desc := "(LShapeForms$Shape;ILShapeForms$Shape;I)Z" } : Jvm.MethodName)) ∈ wG := mG 398 (by decide +kernel) (by decide +kernel)
theorem w_367 : (Jvm.Cond.methodLink "ShapeForms$Pair" (50 : Nat) ({ cls := "ShapeForms$Shape", name := "enclosesCornerOf", desc := "(LShapeForms$Shape;)Z" } : Jvm.MethodName)) ∈ wG := mG 399 (by decide +kernel) (by decide +kernel)
theorem w_368 : (Jvm.Cond.instanceMethod ({ cls := "ShapeForms$Shape", name := "enclosesCornerOf", desc := "(LShapeForms$Shape;)Z" } : Jvm.MethodName)) ∈ wG := mG 400 (by decide +kernel) (by decide +kernel)
theorem w_369 : (Jvm.Cond.selects "ShapeForms$Shape" ({ cls := "ShapeForms$Shape", name := "enclosesCornerOf", desc := "(LShapeForms$Shape;)Z" } : Jvm.MethodName) ({ cls := "ShapeForms$Shape", name := "enclosesCornerOf", desc := "(LShapeForms$Shape;)Z" } : Jvm.MethodName)) ∈ wG := mG 401 (by decide +kernel) (by decide +kernel)
theorem w_370 : (Jvm.Cond.code ({ cls := "ShapeForms$Shape", name := "enclosesCornerOf", desc := "(LShapeForms$Shape;)Z" } : Jvm.MethodName) prog_3_method_15_code (3 : Nat) (Option.some Jvm.ClassFile.FieldType.boolean)) ∈ wG := mG 402 (by decide +kernel) (by decide +kernel)
theorem w_371 : (Jvm.Cond.methodLink "ShapeForms$Shape" (72 : Nat) ({ cls := "ShapeForms$Shape", name := "encloses", desc := "(JJ)Z" } : Jvm.MethodName)) ∈ wG := mG 403 (by decide +kernel) (by decide +kernel)
theorem w_372 : (Jvm.Cond.methodLink "ShapeForms$Pair" (13 : Nat) ({ cls := "java/lang/Long", name := "compare", desc := "(JJ)I" } : Jvm.MethodName)) ∈ wG := mG 404 (by decide +kernel) (by decide +kernel)
theorem w_373 : (Jvm.Cond.methodLink "ShapeForms$Pair" (19 : Nat) ({ cls := "ShapeForms$Pair", name := "compareCorners", desc := "(LShapeForms$Shape;LShapeForms$Shape;J)I" } : Jvm.MethodName)) ∈ wG := mG 405 (by decide +kernel) (by decide +kernel)
theorem w_374 : (Jvm.Cond.static ({ cls := "ShapeForms$Pair", name := "compareCorners", desc := "(LShapeForms$Shape;LShapeForms$Shape;J)I" } : Jvm.MethodName)) ∈ wG := mG 406 (by decide +kernel) (by decide +kernel)
theorem w_375 : (Jvm.Cond.code ({ cls := "ShapeForms$Pair", name := "compareCorners", desc := "(LShapeForms$Shape;LShapeForms$Shape;J)I" } : Jvm.MethodName) prog_2_method_3_code (6 : Nat) (Option.some Jvm.ClassFile.FieldType.int)) ∈ wG := mG 407 (by decide +kernel) (by decide +kernel)
theorem w_376 : (Jvm.Cond.methodLink "ShapeForms$Pair" (42 : Nat) ({ cls := "ShapeForms$Shape", name := "compareToSides", desc := "(JJJ)I" } : Jvm.MethodName)) ∈ wG := mG 408 (by decide +kernel) (by decide +kernel)
theorem w_377 : (Jvm.Cond.methodLink "ShapeForms$Pair" (23 : Nat) ({ cls := "java/lang/Math", name := "min", desc := "(II)I" } : Jvm.MethodName)) ∈ wG := mG 409 (by decide +kernel) (by decide +kernel)
theorem w_378 : (Jvm.Cond.methodLink "ShapeFormsLaw" (109 : Nat) ({ cls := "ShapeFormsLaw", name := "boxOf", desc := "(LShapeForms;II[J)I" } : Jvm.MethodName)) ∈ wG := mG 410 (by decide +kernel) (by decide +kernel)
theorem w_379 : (Jvm.Cond.static ({ cls := "ShapeFormsLaw", name := "boxOf", desc := "(LShapeForms;II[J)I" } : Jvm.MethodName)) ∈ wG := mG 411 (by decide +kernel) (by decide +kernel)
theorem w_381 : (Jvm.Cond.methodLink "ShapeFormsLaw" (46 : Nat) ({ cls := "ShapeForms", name := "boxOf", desc := "(II)J" } : Jvm.MethodName)) ∈ wG := mG 413 (by decide +kernel) (by decide +kernel)
theorem w_382 : (Jvm.Cond.instanceMethod ({ cls := "ShapeForms", name := "boxOf", desc := "(II)J" } : Jvm.MethodName)) ∈ wG := mG 414 (by decide +kernel) (by decide +kernel)
theorem w_383 : (Jvm.Cond.selects "ShapeForms" ({ cls := "ShapeForms", name := "boxOf", desc := "(II)J" } : Jvm.MethodName) ({ cls := "ShapeForms", name := "boxOf", desc := "(II)J" } : Jvm.MethodName)) ∈ wG := mG 415 (by decide +kernel) (by decide +kernel)
theorem w_384 : (Jvm.Cond.code ({ cls := "ShapeForms", name := "boxOf", desc := "(II)J" } : Jvm.MethodName) prog_1_method_11_code (4 : Nat) (Option.some Jvm.ClassFile.FieldType.long)) ∈ wG := mG 416 (by decide +kernel) (by decide +kernel)
theorem w_386 : (Jvm.Cond.methodLink "ShapeForms" (116 : Nat) ({ cls := "ShapeForms$Shape", name := "outermost", desc := "(I)J" } : Jvm.MethodName)) ∈ wG := mG 418 (by decide +kernel) (by decide +kernel)
theorem w_387 : (Jvm.Cond.instanceMethod ({ cls := "ShapeForms$Shape", name := "outermost", desc := "(I)J" } : Jvm.MethodName)) ∈ wG := mG 419 (by decide +kernel) (by decide +kernel)
theorem w_388 : (Jvm.Cond.selects "ShapeForms$Shape" ({ cls := "ShapeForms$Shape", name := "outermost", desc := "(I)J" } : Jvm.MethodName) ({ cls := "ShapeForms$Shape", name := "outermost", desc := "(I)J" } : Jvm.MethodName)) ∈ wG := mG 420 (by decide +kernel) (by decide +kernel)
theorem w_389 : (Jvm.Cond.code ({ cls := "ShapeForms$Shape", name := "outermost", desc := "(I)J" } : Jvm.MethodName) prog_3_method_12_code (8 : Nat) (Option.some Jvm.ClassFile.FieldType.long)) ∈ wG := mG 421 (by decide +kernel) (by decide +kernel)
theorem w_390 : (Jvm.Cond.methodLink "ShapeForms$Shape" (63 : Nat) ({ cls := "java/lang/Math", name := "min", desc := "(JJ)J" } : Jvm.MethodName)) ∈ wG := mG 422 (by decide +kernel) (by decide +kernel)
theorem w_391 : (Jvm.Cond.methodLink "ShapeForms$Shape" (69 : Nat) ({ cls := "java/lang/Math", name := "max", desc := "(JJ)J" } : Jvm.MethodName)) ∈ wG := mG 423 (by decide +kernel) (by decide +kernel)
theorem w_392 : (Jvm.Cond.methodLink "ShapeFormsLaw" (113 : Nat) ({ cls := "ShapeFormsLaw", name := "turn", desc := "(LShapeForms;IIZ[J)I" } : Jvm.MethodName)) ∈ wG := mG 424 (by decide +kernel) (by decide +kernel)
theorem w_393 : (Jvm.Cond.static ({ cls := "ShapeFormsLaw", name := "turn", desc := "(LShapeForms;IIZ[J)I" } : Jvm.MethodName)) ∈ wG := mG 425 (by decide +kernel) (by decide +kernel)
theorem w_395 : (Jvm.Cond.methodLink "ShapeFormsLaw" (50 : Nat) ({ cls := "ShapeForms", name := "turn", desc := "(IIZ)I" } : Jvm.MethodName)) ∈ wG := mG 427 (by decide +kernel) (by decide +kernel)
theorem w_396 : (Jvm.Cond.instanceMethod ({ cls := "ShapeForms", name := "turn", desc := "(IIZ)I" } : Jvm.MethodName)) ∈ wG := mG 428 (by decide +kernel) (by decide +kernel)
theorem w_397 : (Jvm.Cond.selects "ShapeForms" ({ cls := "ShapeForms", name := "turn", desc := "(IIZ)I" } : Jvm.MethodName) ({ cls := "ShapeForms", name := "turn", desc := "(IIZ)I" } : Jvm.MethodName)) ∈ wG := mG 429 (by decide +kernel) (by decide +kernel)
theorem w_398 : (Jvm.Cond.code ({ cls := "ShapeForms", name := "turn", desc := "(IIZ)I" } : Jvm.MethodName) prog_1_method_12_code (8 : Nat) (Option.some Jvm.ClassFile.FieldType.int)) ∈ wG := mG 430 (by decide +kernel) (by decide +kernel)
theorem w_399 : (Jvm.Cond.methodLink "ShapeForms" (120 : Nat) ({ cls := "ShapeForms$Shape", name := "mirrorCorners", desc := "()V" } : Jvm.MethodName)) ∈ wG := mG 431 (by decide +kernel) (by decide +kernel)
theorem w_400 : (Jvm.Cond.instanceMethod ({ cls := "ShapeForms$Shape", name := "mirrorCorners", desc := "()V" } : Jvm.MethodName)) ∈ wG := mG 432 (by decide +kernel) (by decide +kernel)
theorem w_401 : (Jvm.Cond.selects "ShapeForms$Shape" ({ cls := "ShapeForms$Shape", name := "mirrorCorners", desc := "()V" } : Jvm.MethodName) ({ cls := "ShapeForms$Shape", name := "mirrorCorners", desc := "()V" } : Jvm.MethodName)) ∈ wG := mG 433 (by decide +kernel) (by decide +kernel)
theorem w_402 : (Jvm.Cond.code ({ cls := "ShapeForms$Shape", name := "mirrorCorners", desc := "()V" } : Jvm.MethodName) prog_3_method_10_code (2 : Nat) (Option.none : Option Jvm.ClassFile.FieldType)) ∈ wG := mG 434 (by decide +kernel) (by decide +kernel)
theorem w_403 : (Jvm.Cond.methodLink "ShapeForms" (123 : Nat) ({ cls := "java/lang/Math", name := "floorMod", desc := "(II)I" } : Jvm.MethodName)) ∈ wG := mG 435 (by decide +kernel) (by decide +kernel)
theorem w_404 : (Jvm.Cond.static ({ cls := "java/lang/Math", name := "floorMod", desc := "(II)I" } : Jvm.MethodName)) ∈ wG := mG 436 (by decide +kernel) (by decide +kernel)
theorem w_405 : (Jvm.Cond.code ({ cls := "java/lang/Math", name := "floorMod", desc := "(II)I" } : Jvm.MethodName) prog_12_method_50_code (3 : Nat) (Option.some Jvm.ClassFile.FieldType.int)) ∈ wG := mG 437 (by decide +kernel) (by decide +kernel)
theorem w_406 : (Jvm.Cond.methodLink "ShapeForms" (129 : Nat) ({ cls := "ShapeForms$Shape", name := "turnCornersOnce", desc := "()V" } : Jvm.MethodName)) ∈ wG := mG 438 (by decide +kernel) (by decide +kernel)
theorem w_407 : (Jvm.Cond.instanceMethod ({ cls := "ShapeForms$Shape", name := "turnCornersOnce", desc := "()V" } : Jvm.MethodName)) ∈ wG := mG 439 (by decide +kernel) (by decide +kernel)
theorem w_408 : (Jvm.Cond.selects "ShapeForms$Shape" ({ cls := "ShapeForms$Shape", name := "turnCornersOnce", desc := "()V" } : Jvm.MethodName) ({ cls := "ShapeForms$Shape", name := "turnCornersOnce", desc := "()V" } : Jvm.MethodName)) ∈ wG := mG 440 (by decide +kernel) (by decide +kernel)
theorem w_409 : (Jvm.Cond.code ({ cls := "ShapeForms$Shape", name := "turnCornersOnce", desc := "()V" } : Jvm.MethodName) prog_3_method_11_code (4 : Nat) (Option.none : Option Jvm.ClassFile.FieldType)) ∈ wG := mG 441 (by decide +kernel) (by decide +kernel)
theorem w_410 : (Jvm.Cond.methodLink "ShapeFormsLaw" (117 : Nat) ({ cls := "ShapeFormsLaw", name := "kind", desc := "(LShapeForms;I[J)I" } : Jvm.MethodName)) ∈ wG := mG 442 (by decide +kernel) (by decide +kernel)
theorem w_411 : (Jvm.Cond.static ({ cls := "ShapeFormsLaw", name := "kind", desc := "(LShapeForms;I[J)I" } : Jvm.MethodName)) ∈ wG := mG 443 (by decide +kernel) (by decide +kernel)
theorem w_413 : (Jvm.Cond.methodLink "ShapeFormsLaw" (54 : Nat) ({ cls := "ShapeForms", name := "kind", desc := "(I)I" } : Jvm.MethodName)) ∈ wG := mG 445 (by decide +kernel) (by decide +kernel)
theorem w_414 : (Jvm.Cond.instanceMethod ({ cls := "ShapeForms", name := "kind", desc := "(I)I" } : Jvm.MethodName)) ∈ wG := mG 446 (by decide +kernel) (by decide +kernel)
theorem w_415 : (Jvm.Cond.selects "ShapeForms" ({ cls := "ShapeForms", name := "kind", desc := "(I)I" } : Jvm.MethodName) ({ cls := "ShapeForms", name := "kind", desc := "(I)I" } : Jvm.MethodName)) ∈ wG := mG 447 (by decide +kernel) (by decide +kernel)
theorem w_416 : (Jvm.Cond.code ({ cls := "ShapeForms", name := "kind", desc := "(I)I" } : Jvm.MethodName) prog_1_method_13_code (3 : Nat) (Option.some Jvm.ClassFile.FieldType.int)) ∈ wG := mG 448 (by decide +kernel) (by decide +kernel)
theorem w_417 : (Jvm.Cond.methodLink "ShapeFormsLaw" (120 : Nat) ({ cls := "ShapeFormsLaw", name := "same", desc := "(LShapeForms;II[J)I" } : Jvm.MethodName)) ∈ wG := mG 449 (by decide +kernel) (by decide +kernel)
theorem w_418 : (Jvm.Cond.static ({ cls := "ShapeFormsLaw", name := "same", desc := "(LShapeForms;II[J)I" } : Jvm.MethodName)) ∈ wG := mG 450 (by decide +kernel) (by decide +kernel)
theorem w_420 : (Jvm.Cond.methodLink "ShapeFormsLaw" (58 : Nat) ({ cls := "ShapeForms", name := "same", desc := "(II)Z" } : Jvm.MethodName)) ∈ wG := mG 452 (by decide +kernel) (by decide +kernel)
theorem w_421 : (Jvm.Cond.instanceMethod ({ cls := "ShapeForms", name := "same", desc := "(II)Z" } : Jvm.MethodName)) ∈ wG := mG 453 (by decide +kernel) (by decide +kernel)
theorem w_422 : (Jvm.Cond.selects "ShapeForms" ({ cls := "ShapeForms", name := "same", desc := "(II)Z" } : Jvm.MethodName) ({ cls := "ShapeForms", name := "same", desc := "(II)Z" } : Jvm.MethodName)) ∈ wG := mG 454 (by decide +kernel) (by decide +kernel)
theorem w_423 : (Jvm.Cond.code ({ cls := "ShapeForms", name := "same", desc := "(II)Z" } : Jvm.MethodName) prog_1_method_14_code (5 : Nat) (Option.some Jvm.ClassFile.FieldType.boolean)) ∈ wG := mG 455 (by decide +kernel) (by decide +kernel)
theorem w_424 : (Jvm.Cond.methodLink "ShapeForms" (135 : Nat) ({ cls := "ShapeForms$Pair", name := "haveOneCore", desc := "(LShapeForms$Shape;LShapeForms$Shape;)Z" } : Jvm.MethodName)) ∈ wG := mG 456 (by decide +kernel) (by decide +kernel)
theorem w_425 : (Jvm.Cond.static ({ cls := "ShapeForms$Pair", name := "haveOneCore", desc := "(LShapeForms$Shape;LShapeForms$Shape;)Z" } : Jvm.MethodName)) ∈ wG := mG 457 (by decide +kernel) (by decide +kernel)
theorem w_426 : (Jvm.Cond.code ({ cls := "ShapeForms$Pair", name := "haveOneCore", desc := "(LShapeForms$Shape;LShapeForms$Shape;)Z" } : Jvm.MethodName) prog_2_method_8_code (2 : Nat) (Option.some Jvm.ClassFile.FieldType.boolean)) ∈ wG := mG 458 (by decide +kernel) (by decide +kernel)
theorem w_427 : (Jvm.Cond.methodLink "ShapeForms$Pair" (79 : Nat) ({ cls := "ShapeForms$Pair", name := "coversAll", desc := "(LShapeForms$Shape;LShapeForms$Shape;)Z" } : Jvm.MethodName)) ∈ wG := mG 459 (by decide +kernel) (by decide +kernel)
theorem w_428 : (Jvm.Cond.static ({ cls := "ShapeForms$Pair", name := "coversAll", desc := "(LShapeForms$Shape;LShapeForms$Shape;)Z" } : Jvm.MethodName)) ∈ wG := mG 460 (by decide +kernel) (by decide +kernel)
theorem w_429 : (Jvm.Cond.code ({ cls := "ShapeForms$Pair", name := "coversAll", desc := "(LShapeForms$Shape;LShapeForms$Shape;)Z" } : Jvm.MethodName) prog_2_method_9_code (3 : Nat) (Option.some Jvm.ClassFile.FieldType.boolean)) ∈ wG := mG 461 (by decide +kernel) (by decide +kernel)
theorem w_430 : (Jvm.Cond.methodLink "ShapeForms$Pair" (82 : Nat) ({ cls := "ShapeForms$Shape", name := "coversSide", desc := "(LShapeForms$Shape;I)Z" } : Jvm.MethodName)) ∈ wG := mG 462 (by decide +kernel) (by decide +kernel)
theorem w_431 : (Jvm.Cond.instanceMethod ({ cls := "ShapeForms$Shape", name := "coversSide", desc := "(LShapeForms$Shape;I)Z" } : Jvm.MethodName)) ∈ wG := mG 463 (by decide +kernel) (by decide +kernel)
theorem w_432 : (Jvm.Cond.selects "ShapeForms$Shape" ({ cls := "ShapeForms$Shape", name := "coversSide", desc := "(LShapeForms$Shape;I)Z" } : Jvm.MethodName) ({ cls := "ShapeForms$Shape", name := "coversSide", desc := "(LShapeForms$Shape;I)Z" } : Jvm.MethodName)) ∈ wG := mG 464 (by decide +kernel) (by decide +kernel)
theorem w_433 : (Jvm.Cond.code ({ cls := "ShapeForms$Shape", name := "coversSide", desc := "(LShapeForms$Shape;I)Z" } : Jvm.MethodName) prog_3_method_19_code (14 : Nat) (Option.some Jvm.ClassFile.FieldType.boolean)) ∈ wG := mG 465 (by decide +kernel) (by decide +kernel)
theorem w_434 : (Jvm.Cond.methodLink "ShapeForms$Shape" (102 : Nat) ({ cls := "ShapeForms$Shape", name := "compareToSides", desc := "(JJJ)I" } : Jvm.MethodName)) ∈ wG := mG 466 (by decide +kernel) (by decide +kernel)
theorem w_435 : (Jvm.Cond.methodLink "ShapeForms$Shape" (106 : Nat) ({ cls := "ShapeForms$Shape", name := "coveredFrom", desc := "(JZLShapeForms$Shape;I)J" } : Jvm.MethodName)) ∈ wG := mG 467 (by decide +kernel) (by decide +kernel)
theorem w_437 : (Jvm.Cond.instanceMethod ({ cls := "ShapeForms$Shape", name := "coveredFrom", desc := "(JZLShapeForms$Shape;I)J" } : Jvm.MethodName)) ∈ wG := mG 469 (by decide +kernel) (by decide +kernel)
theorem w_438 : (Jvm.Cond.code ({ cls := "ShapeForms$Shape", name := "coveredFrom", desc := "(JZLShapeForms$Shape;I)J" } : Jvm.MethodName) prog_3_method_20_code (15 : Nat) (Option.some Jvm.ClassFile.FieldType.long)) ∈ wG := mG 470 (by decide +kernel) (by decide +kernel)
theorem w_439 : (Jvm.Cond.classLink "ShapeFormsLaw" (63 : Nat) "ShapeFormsModel") ∈ wG := mG 471 (by decide +kernel) (by decide +kernel)
theorem w_440 : (Jvm.Cond.instantiable "ShapeFormsModel" (15 : Nat)) ∈ wG := mG 472 (by decide +kernel) (by decide +kernel)
theorem w_441 : (Jvm.Cond.methodLink "ShapeFormsLaw" (65 : Nat) ({ cls := "ShapeFormsModel", name := "<init>", desc := "()V" } : Jvm.MethodName)) ∈ wG := mG 473 (by decide +kernel) (by decide +kernel)
theorem w_442 : (Jvm.Cond.instanceMethod ({ cls := "ShapeFormsModel", name := "<init>", desc := "()V" } : Jvm.MethodName)) ∈ wG := mG 474 (by decide +kernel) (by decide +kernel)
theorem w_443 : (Jvm.Cond.code ({ cls := "ShapeFormsModel", name := "<init>", desc := "()V" } : Jvm.MethodName) prog_6_method_1_code (1 : Nat) (Option.none : Option Jvm.ClassFile.FieldType)) ∈ wG := mG 475 (by decide +kernel) (by decide +kernel)
theorem w_444 : (Jvm.Cond.methodLink "ShapeFormsModel" (1 : Nat) ({ cls := "java/lang/Object", name := "<init>", desc := "()V" } : Jvm.MethodName)) ∈ wG := mG 476 (by decide +kernel) (by decide +kernel)
theorem w_445 : (Jvm.Cond.fieldLink "ShapeFormsModel" (50 : Nat) "ShapeFormsModel" "thrown" "I") ∈ wG := mG 477 (by decide +kernel) (by decide +kernel)
theorem w_446 : (Jvm.Cond.fieldLink "ShapeFormsModel" (60 : Nat) "ShapeFormsModel" "shapes" "I") ∈ wG := mG 478 (by decide +kernel) (by decide +kernel)
theorem w_447 : (Jvm.Cond.fieldLink "ShapeFormsModel" (7 : Nat) "ShapeFormsModel" "kinds" "[I") ∈ wG := mG 479 (by decide +kernel) (by decide +kernel)
theorem w_448 : (Jvm.Cond.fieldLink "ShapeFormsModel" (13 : Nat) "ShapeFormsModel" "radii" "[J") ∈ wG := mG 480 (by decide +kernel) (by decide +kernel)
theorem w_449 : (Jvm.Cond.fieldLink "ShapeFormsModel" (17 : Nat) "ShapeFormsModel" "cornerX" "[J") ∈ wG := mG 481 (by decide +kernel) (by decide +kernel)
theorem w_450 : (Jvm.Cond.fieldLink "ShapeFormsModel" (20 : Nat) "ShapeFormsModel" "cornerY" "[J") ∈ wG := mG 482 (by decide +kernel) (by decide +kernel)
theorem w_451 : (Jvm.Cond.fieldLink "ShapeFormsModel" (23 : Nat) "ShapeFormsModel" "many" "[I") ∈ wG := mG 483 (by decide +kernel) (by decide +kernel)
theorem w_452 : (Jvm.Cond.fieldLink "ShapeFormsModel" (26 : Nat) "ShapeFormsModel" "ends" "[I") ∈ wG := mG 484 (by decide +kernel) (by decide +kernel)
theorem w_453 : (Jvm.Cond.fieldLink "ShapeFormsModel" (29 : Nat) "ShapeFormsModel" "rings" "[I") ∈ wG := mG 485 (by decide +kernel) (by decide +kernel)
theorem w_454 : (Jvm.Cond.fieldLink "ShapeFormsModel" (32 : Nat) "ShapeFormsModel" "ax" "[J") ∈ wG := mG 486 (by decide +kernel) (by decide +kernel)
theorem w_455 : (Jvm.Cond.fieldLink "ShapeFormsModel" (35 : Nat) "ShapeFormsModel" "ay" "[J") ∈ wG := mG 487 (by decide +kernel) (by decide +kernel)
theorem w_456 : (Jvm.Cond.fieldLink "ShapeFormsModel" (38 : Nat) "ShapeFormsModel" "bx" "[J") ∈ wG := mG 488 (by decide +kernel) (by decide +kernel)
theorem w_457 : (Jvm.Cond.fieldLink "ShapeFormsModel" (41 : Nat) "ShapeFormsModel" "by" "[J") ∈ wG := mG 489 (by decide +kernel) (by decide +kernel)
theorem w_458 : (Jvm.Cond.fieldLink "ShapeFormsModel" (44 : Nat) "ShapeFormsModel" "size" "[I") ∈ wG := mG 490 (by decide +kernel) (by decide +kernel)
theorem w_459 : (Jvm.Cond.fieldLink "ShapeFormsModel" (47 : Nat) "ShapeFormsModel" "digits" "[J") ∈ wG := mG 491 (by decide +kernel) (by decide +kernel)
theorem w_460 : (Jvm.Cond.lays "ShapeFormsModel" "ShapeFormsModel" "thrown" "I") ∈ wG := mG 492 (by decide +kernel) (by decide +kernel)
theorem w_461 : (Jvm.Cond.soleField "ShapeFormsModel" "thrown") ∈ wG := mG 493 (by decide +kernel) (by decide +kernel)
theorem w_462 : (Jvm.Cond.lays "ShapeFormsModel" "ShapeFormsModel" "shapes" "I") ∈ wG := mG 494 (by decide +kernel) (by decide +kernel)
theorem w_463 : (Jvm.Cond.soleField "ShapeFormsModel" "shapes") ∈ wG := mG 495 (by decide +kernel) (by decide +kernel)
theorem w_464 : (Jvm.Cond.laysFinal "ShapeFormsModel" "ShapeFormsModel" "kinds" "[I") ∈ wG := mG 496 (by decide +kernel) (by decide +kernel)
theorem w_465 : (Jvm.Cond.soleField "ShapeFormsModel" "kinds") ∈ wG := mG 497 (by decide +kernel) (by decide +kernel)
theorem w_466 : (Jvm.Cond.laysFinal "ShapeFormsModel" "ShapeFormsModel" "radii" "[J") ∈ wG := mG 498 (by decide +kernel) (by decide +kernel)
theorem w_467 : (Jvm.Cond.soleField "ShapeFormsModel" "radii") ∈ wG := mG 499 (by decide +kernel) (by decide +kernel)
theorem w_468 : (Jvm.Cond.laysFinal "ShapeFormsModel" "ShapeFormsModel" "cornerX" "[J") ∈ wG := mG 500 (by decide +kernel) (by decide +kernel)
theorem w_469 : (Jvm.Cond.soleField "ShapeFormsModel" "cornerX") ∈ wG := mG 501 (by decide +kernel) (by decide +kernel)
theorem w_470 : (Jvm.Cond.laysFinal "ShapeFormsModel" "ShapeFormsModel" "cornerY" "[J") ∈ wG := mG 502 (by decide +kernel) (by decide +kernel)
theorem w_471 : (Jvm.Cond.soleField "ShapeFormsModel" "cornerY") ∈ wG := mG 503 (by decide +kernel) (by decide +kernel)
theorem w_472 : (Jvm.Cond.laysFinal "ShapeFormsModel" "ShapeFormsModel" "many" "[I") ∈ wG := mG 504 (by decide +kernel) (by decide +kernel)
theorem w_473 : (Jvm.Cond.soleField "ShapeFormsModel" "many") ∈ wG := mG 505 (by decide +kernel) (by decide +kernel)
theorem w_474 : (Jvm.Cond.laysFinal "ShapeFormsModel" "ShapeFormsModel" "ends" "[I") ∈ wG := mG 506 (by decide +kernel) (by decide +kernel)
theorem w_475 : (Jvm.Cond.soleField "ShapeFormsModel" "ends") ∈ wG := mG 507 (by decide +kernel) (by decide +kernel)
theorem w_476 : (Jvm.Cond.laysFinal "ShapeFormsModel" "ShapeFormsModel" "rings" "[I") ∈ wG := mG 508 (by decide +kernel) (by decide +kernel)
theorem w_477 : (Jvm.Cond.soleField "ShapeFormsModel" "rings") ∈ wG := mG 509 (by decide +kernel) (by decide +kernel)
theorem w_478 : (Jvm.Cond.laysFinal "ShapeFormsModel" "ShapeFormsModel" "ax" "[J") ∈ wG := mG 510 (by decide +kernel) (by decide +kernel)
theorem w_479 : (Jvm.Cond.soleField "ShapeFormsModel" "ax") ∈ wG := mG 511 (by decide +kernel) (by decide +kernel)
theorem w_480 : (Jvm.Cond.laysFinal "ShapeFormsModel" "ShapeFormsModel" "ay" "[J") ∈ wG := mG 512 (by decide +kernel) (by decide +kernel)
theorem w_481 : (Jvm.Cond.soleField "ShapeFormsModel" "ay") ∈ wG := mG 513 (by decide +kernel) (by decide +kernel)
theorem w_482 : (Jvm.Cond.laysFinal "ShapeFormsModel" "ShapeFormsModel" "bx" "[J") ∈ wG := mG 514 (by decide +kernel) (by decide +kernel)
theorem w_483 : (Jvm.Cond.soleField "ShapeFormsModel" "bx") ∈ wG := mG 515 (by decide +kernel) (by decide +kernel)
theorem w_484 : (Jvm.Cond.laysFinal "ShapeFormsModel" "ShapeFormsModel" "by" "[J") ∈ wG := mG 516 (by decide +kernel) (by decide +kernel)
theorem w_485 : (Jvm.Cond.soleField "ShapeFormsModel" "by") ∈ wG := mG 517 (by decide +kernel) (by decide +kernel)
theorem w_486 : (Jvm.Cond.laysFinal "ShapeFormsModel" "ShapeFormsModel" "size" "[I") ∈ wG := mG 518 (by decide +kernel) (by decide +kernel)
theorem w_487 : (Jvm.Cond.soleField "ShapeFormsModel" "size") ∈ wG := mG 519 (by decide +kernel) (by decide +kernel)
theorem w_488 : (Jvm.Cond.laysFinal "ShapeFormsModel" "ShapeFormsModel" "digits" "[J") ∈ wG := mG 520 (by decide +kernel) (by decide +kernel)
theorem w_489 : (Jvm.Cond.soleField "ShapeFormsModel" "digits") ∈ wG := mG 521 (by decide +kernel) (by decide +kernel)
theorem w_490 : (Jvm.Cond.superclass "ShapeFormsModel" "java/lang/Object") ∈ wG := mG 522 (by decide +kernel) (by decide +kernel)
theorem w_491 : (Jvm.Cond.methodLink "ShapeFormsLaw" (74 : Nat) ({ cls := "ShapeFormsModel", name := "thrown", desc := "()I" } : Jvm.MethodName)) ∈ wG := mG 523 (by decide +kernel) (by decide +kernel)
theorem w_492 : (Jvm.Cond.instanceMethod ({ cls := "ShapeFormsModel", name := "thrown", desc := "()I" } : Jvm.MethodName)) ∈ wG := mG 524 (by decide +kernel) (by decide +kernel)
theorem w_493 : (Jvm.Cond.selects "ShapeFormsModel" ({ cls := "ShapeFormsModel", name := "thrown", desc := "()I" } : Jvm.MethodName) ({ cls := "ShapeFormsModel", name := "thrown", desc := "()I" } : Jvm.MethodName)) ∈ wG := mG 525 (by decide +kernel) (by decide +kernel)
theorem w_494 : (Jvm.Cond.code ({ cls := "ShapeFormsModel", name := "thrown", desc := "()I" } : Jvm.MethodName) prog_6_method_2_code (1 : Nat) (Option.some Jvm.ClassFile.FieldType.int)) ∈ wG := mG 526 (by decide +kernel) (by decide +kernel)
theorem w_495 : (Jvm.Cond.methodLink "ShapeFormsLaw" (73 : Nat) ({ cls := "ShapeFormsModel", name := "circle", desc := "(JJJ)I" } : Jvm.MethodName)) ∈ wG := mG 527 (by decide +kernel) (by decide +kernel)
theorem w_496 : (Jvm.Cond.instanceMethod ({ cls := "ShapeFormsModel", name := "circle", desc := "(JJJ)I" } : Jvm.MethodName)) ∈ wG := mG 528 (by decide +kernel) (by decide +kernel)
theorem w_497 : (Jvm.Cond.selects "ShapeFormsModel" ({ cls := "ShapeFormsModel", name := "circle", desc := "(JJJ)I" } : Jvm.MethodName) ({ cls := "ShapeFormsModel", name := "circle", desc := "(JJJ)I" } : Jvm.MethodName)) ∈ wG := mG 529 (by decide +kernel) (by decide +kernel)
theorem w_498 : (Jvm.Cond.code ({ cls := "ShapeFormsModel", name := "circle", desc := "(JJJ)I" } : Jvm.MethodName) prog_6_method_10_code (8 : Nat) (Option.some Jvm.ClassFile.FieldType.int)) ∈ wG := mG 530 (by decide +kernel) (by decide +kernel)
theorem w_499 : (Jvm.Cond.methodLink "ShapeFormsModel" (67 : Nat) ({ cls := "ShapeFormsModel", name := "isPlace", desc := "(JJ)Z" } : Jvm.MethodName)) ∈ wG := mG 531 (by decide +kernel) (by decide +kernel)
theorem w_500 : (Jvm.Cond.static ({ cls := "ShapeFormsModel", name := "isPlace", desc := "(JJ)Z" } : Jvm.MethodName)) ∈ wG := mG 532 (by decide +kernel) (by decide +kernel)
theorem w_501 : (Jvm.Cond.code ({ cls := "ShapeFormsModel", name := "isPlace", desc := "(JJ)Z" } : Jvm.MethodName) prog_6_method_3_code (4 : Nat) (Option.some Jvm.ClassFile.FieldType.boolean)) ∈ wG := mG 533 (by decide +kernel) (by decide +kernel)
theorem w_502 : (Jvm.Cond.constantLong "ShapeFormsModel" (54 : Nat) (-500000000 : Int64)) ∈ wG := mG 534 (by decide +kernel) (by decide +kernel)
theorem w_503 : (Jvm.Cond.constantLong "ShapeFormsModel" (56 : Nat) (500000000 : Int64)) ∈ wG := mG 535 (by decide +kernel) (by decide +kernel)
theorem w_504 : (Jvm.Cond.methodLink "ShapeFormsModel" (71 : Nat) ({ cls := "ShapeFormsModel", name := "isRadius", desc := "(J)Z" } : Jvm.MethodName)) ∈ wG := mG 536 (by decide +kernel) (by decide +kernel)
theorem w_505 : (Jvm.Cond.static ({ cls := "ShapeFormsModel", name := "isRadius", desc := "(J)Z" } : Jvm.MethodName)) ∈ wG := mG 537 (by decide +kernel) (by decide +kernel)
theorem w_506 : (Jvm.Cond.code ({ cls := "ShapeFormsModel", name := "isRadius", desc := "(J)Z" } : Jvm.MethodName) prog_6_method_4_code (2 : Nat) (Option.some Jvm.ClassFile.FieldType.boolean)) ∈ wG := mG 538 (by decide +kernel) (by decide +kernel)
theorem w_507 : (Jvm.Cond.constantLong "ShapeFormsModel" (58 : Nat) (1000000000 : Int64)) ∈ wG := mG 539 (by decide +kernel) (by decide +kernel)
theorem w_508 : (Jvm.Cond.methodLink "ShapeFormsModel" (75 : Nat) ({ cls := "ShapeFormsModel", name := "begin", desc := "(IJ)I" } : Jvm.MethodName)) ∈ wG := mG 540 (by decide +kernel) (by decide +kernel)
theorem w_510 : (Jvm.Cond.instanceMethod ({ cls := "ShapeFormsModel", name := "begin", desc := "(IJ)I" } : Jvm.MethodName)) ∈ wG := mG 542 (by decide +kernel) (by decide +kernel)
theorem w_511 : (Jvm.Cond.code ({ cls := "ShapeFormsModel", name := "begin", desc := "(IJ)I" } : Jvm.MethodName) prog_6_method_8_code (4 : Nat) (Option.some Jvm.ClassFile.FieldType.int)) ∈ wG := mG 543 (by decide +kernel) (by decide +kernel)
theorem w_512 : (Jvm.Cond.methodLink "ShapeFormsModel" (79 : Nat) ({ cls := "ShapeFormsModel", name := "add", desc := "(IJJ)V" } : Jvm.MethodName)) ∈ wG := mG 544 (by decide +kernel) (by decide +kernel)
theorem w_514 : (Jvm.Cond.instanceMethod ({ cls := "ShapeFormsModel", name := "add", desc := "(IJJ)V" } : Jvm.MethodName)) ∈ wG := mG 546 (by decide +kernel) (by decide +kernel)
theorem w_515 : (Jvm.Cond.code ({ cls := "ShapeFormsModel", name := "add", desc := "(IJJ)V" } : Jvm.MethodName) prog_6_method_9_code (6 : Nat) (Option.none : Option Jvm.ClassFile.FieldType)) ∈ wG := mG 547 (by decide +kernel) (by decide +kernel)
theorem w_516 : (Jvm.Cond.methodLink "ShapeFormsLaw" (81 : Nat) ({ cls := "ShapeFormsModel", name := "box", desc := "(JJJJJ)I" } : Jvm.MethodName)) ∈ wG := mG 548 (by decide +kernel) (by decide +kernel)
theorem w_517 : (Jvm.Cond.instanceMethod ({ cls := "ShapeFormsModel", name := "box", desc := "(JJJJJ)I" } : Jvm.MethodName)) ∈ wG := mG 549 (by decide +kernel) (by decide +kernel)
theorem w_518 : (Jvm.Cond.selects "ShapeFormsModel" ({ cls := "ShapeFormsModel", name := "box", desc := "(JJJJJ)I" } : Jvm.MethodName) ({ cls := "ShapeFormsModel", name := "box", desc := "(JJJJJ)I" } : Jvm.MethodName)) ∈ wG := mG 550 (by decide +kernel) (by decide +kernel)
theorem w_519 : (Jvm.Cond.code ({ cls := "ShapeFormsModel", name := "box", desc := "(JJJJJ)I" } : Jvm.MethodName) prog_6_method_11_code (13 : Nat) (Option.some Jvm.ClassFile.FieldType.int)) ∈ wG := mG 551 (by decide +kernel) (by decide +kernel)
theorem w_520 : (Jvm.Cond.methodLink "ShapeFormsLaw" (85 : Nat) ({ cls := "ShapeFormsModel", name := "polygon", desc := "()I" } : Jvm.MethodName)) ∈ wG := mG 552 (by decide +kernel) (by decide +kernel)
theorem w_521 : (Jvm.Cond.instanceMethod ({ cls := "ShapeFormsModel", name := "polygon", desc := "()I" } : Jvm.MethodName)) ∈ wG := mG 553 (by decide +kernel) (by decide +kernel)
theorem w_522 : (Jvm.Cond.selects "ShapeFormsModel" ({ cls := "ShapeFormsModel", name := "polygon", desc := "()I" } : Jvm.MethodName) ({ cls := "ShapeFormsModel", name := "polygon", desc := "()I" } : Jvm.MethodName)) ∈ wG := mG 554 (by decide +kernel) (by decide +kernel)
theorem w_523 : (Jvm.Cond.code ({ cls := "ShapeFormsModel", name := "polygon", desc := "()I" } : Jvm.MethodName) prog_6_method_12_code (1 : Nat) (Option.some Jvm.ClassFile.FieldType.int)) ∈ wG := mG 555 (by decide +kernel) (by decide +kernel)
theorem w_524 : (Jvm.Cond.methodLink "ShapeFormsLaw" (89 : Nat) ({ cls := "ShapeFormsModel", name := "trace", desc := "(J)I" } : Jvm.MethodName)) ∈ wG := mG 556 (by decide +kernel) (by decide +kernel)
theorem w_525 : (Jvm.Cond.instanceMethod ({ cls := "ShapeFormsModel", name := "trace", desc := "(J)I" } : Jvm.MethodName)) ∈ wG := mG 557 (by decide +kernel) (by decide +kernel)
theorem w_526 : (Jvm.Cond.selects "ShapeFormsModel" ({ cls := "ShapeFormsModel", name := "trace", desc := "(J)I" } : Jvm.MethodName) ({ cls := "ShapeFormsModel", name := "trace", desc := "(J)I" } : Jvm.MethodName)) ∈ wG := mG 558 (by decide +kernel) (by decide +kernel)
theorem w_527 : (Jvm.Cond.code ({ cls := "ShapeFormsModel", name := "trace", desc := "(J)I" } : Jvm.MethodName) prog_6_method_13_code (3 : Nat) (Option.some Jvm.ClassFile.FieldType.int)) ∈ wG := mG 559 (by decide +kernel) (by decide +kernel)
theorem w_528 : (Jvm.Cond.constantLong "ShapeFormsModel" (83 : Nat) (2000000000 : Int64)) ∈ wG := mG 560 (by decide +kernel) (by decide +kernel)
theorem w_529 : (Jvm.Cond.constantLong "ShapeFormsModel" (85 : Nat) (2 : Int64)) ∈ wG := mG 561 (by decide +kernel) (by decide +kernel)
theorem w_530 : (Jvm.Cond.methodLink "ShapeFormsLaw" (93 : Nat) ({ cls := "ShapeFormsModel", name := "corner", desc := "(IJJ)Z" } : Jvm.MethodName)) ∈ wG := mG 562 (by decide +kernel) (by decide +kernel)
theorem w_531 : (Jvm.Cond.instanceMethod ({ cls := "ShapeFormsModel", name := "corner", desc := "(IJJ)Z" } : Jvm.MethodName)) ∈ wG := mG 563 (by decide +kernel) (by decide +kernel)
theorem w_532 : (Jvm.Cond.selects "ShapeFormsModel" ({ cls := "ShapeFormsModel", name := "corner", desc := "(IJJ)Z" } : Jvm.MethodName) ({ cls := "ShapeFormsModel", name := "corner", desc := "(IJJ)Z" } : Jvm.MethodName)) ∈ wG := mG 564 (by decide +kernel) (by decide +kernel)
theorem w_533 : (Jvm.Cond.code ({ cls := "ShapeFormsModel", name := "corner", desc := "(IJJ)Z" } : Jvm.MethodName) prog_6_method_14_code (8 : Nat) (Option.some Jvm.ClassFile.FieldType.boolean)) ∈ wG := mG 565 (by decide +kernel) (by decide +kernel)
theorem w_534 : (Jvm.Cond.methodLink "ShapeFormsModel" (87 : Nat) ({ cls := "ShapeFormsModel", name := "isShape", desc := "(I)Z" } : Jvm.MethodName)) ∈ wG := mG 566 (by decide +kernel) (by decide +kernel)
theorem w_536 : (Jvm.Cond.instanceMethod ({ cls := "ShapeFormsModel", name := "isShape", desc := "(I)Z" } : Jvm.MethodName)) ∈ wG := mG 568 (by decide +kernel) (by decide +kernel)
theorem w_537 : (Jvm.Cond.code ({ cls := "ShapeFormsModel", name := "isShape", desc := "(I)Z" } : Jvm.MethodName) prog_6_method_5_code (2 : Nat) (Option.some Jvm.ClassFile.FieldType.boolean)) ∈ wG := mG 569 (by decide +kernel) (by decide +kernel)
theorem w_538 : (Jvm.Cond.methodLink "ShapeFormsModel" (63 : Nat) ({ cls := "ShapeFormsModel", name := "closed", desc := "(I)I" } : Jvm.MethodName)) ∈ wG := mG 570 (by decide +kernel) (by decide +kernel)
theorem w_540 : (Jvm.Cond.instanceMethod ({ cls := "ShapeFormsModel", name := "closed", desc := "(I)I" } : Jvm.MethodName)) ∈ wG := mG 572 (by decide +kernel) (by decide +kernel)
theorem w_541 : (Jvm.Cond.code ({ cls := "ShapeFormsModel", name := "closed", desc := "(I)I" } : Jvm.MethodName) prog_6_method_6_code (2 : Nat) (Option.some Jvm.ClassFile.FieldType.int)) ∈ wG := mG 573 (by decide +kernel) (by decide +kernel)
theorem w_542 : (Jvm.Cond.methodLink "ShapeFormsLaw" (97 : Nat) ({ cls := "ShapeFormsModel", name := "ring", desc := "(I)Z" } : Jvm.MethodName)) ∈ wG := mG 574 (by decide +kernel) (by decide +kernel)
theorem w_543 : (Jvm.Cond.instanceMethod ({ cls := "ShapeFormsModel", name := "ring", desc := "(I)Z" } : Jvm.MethodName)) ∈ wG := mG 575 (by decide +kernel) (by decide +kernel)
theorem w_544 : (Jvm.Cond.selects "ShapeFormsModel" ({ cls := "ShapeFormsModel", name := "ring", desc := "(I)Z" } : Jvm.MethodName) ({ cls := "ShapeFormsModel", name := "ring", desc := "(I)Z" } : Jvm.MethodName)) ∈ wG := mG 576 (by decide +kernel) (by decide +kernel)
theorem w_545 : (Jvm.Cond.code ({ cls := "ShapeFormsModel", name := "ring", desc := "(I)Z" } : Jvm.MethodName) prog_6_method_28_code (6 : Nat) (Option.some Jvm.ClassFile.FieldType.boolean)) ∈ wG := mG 577 (by decide +kernel) (by decide +kernel)
theorem w_546 : (Jvm.Cond.methodLink "ShapeFormsModel" (134 : Nat) ({ cls := "ShapeFormsModel", name := "isEmpty", desc := "(III)Z" } : Jvm.MethodName)) ∈ wG := mG 578 (by decide +kernel) (by decide +kernel)
theorem w_548 : (Jvm.Cond.instanceMethod ({ cls := "ShapeFormsModel", name := "isEmpty", desc := "(III)Z" } : Jvm.MethodName)) ∈ wG := mG 580 (by decide +kernel) (by decide +kernel)
theorem w_549 : (Jvm.Cond.code ({ cls := "ShapeFormsModel", name := "isEmpty", desc := "(III)Z" } : Jvm.MethodName) prog_6_method_24_code (7 : Nat) (Option.some Jvm.ClassFile.FieldType.boolean)) ∈ wG := mG 581 (by decide +kernel) (by decide +kernel)
theorem w_550 : (Jvm.Cond.methodLink "ShapeFormsModel" (111 : Nat) ({ cls := "ShapeFormsModel", name := "x", desc := "(II)J" } : Jvm.MethodName)) ∈ wG := mG 582 (by decide +kernel) (by decide +kernel)
theorem w_552 : (Jvm.Cond.instanceMethod ({ cls := "ShapeFormsModel", name := "x", desc := "(II)J" } : Jvm.MethodName)) ∈ wG := mG 584 (by decide +kernel) (by decide +kernel)
theorem w_553 : (Jvm.Cond.code ({ cls := "ShapeFormsModel", name := "x", desc := "(II)J" } : Jvm.MethodName) prog_6_method_21_code (3 : Nat) (Option.some Jvm.ClassFile.FieldType.long)) ∈ wG := mG 585 (by decide +kernel) (by decide +kernel)
theorem w_554 : (Jvm.Cond.methodLink "ShapeFormsModel" (115 : Nat) ({ cls := "ShapeFormsModel", name := "y", desc := "(II)J" } : Jvm.MethodName)) ∈ wG := mG 586 (by decide +kernel) (by decide +kernel)
theorem w_556 : (Jvm.Cond.instanceMethod ({ cls := "ShapeFormsModel", name := "y", desc := "(II)J" } : Jvm.MethodName)) ∈ wG := mG 588 (by decide +kernel) (by decide +kernel)
theorem w_557 : (Jvm.Cond.code ({ cls := "ShapeFormsModel", name := "y", desc := "(II)J" } : Jvm.MethodName) prog_6_method_22_code (3 : Nat) (Option.some Jvm.ClassFile.FieldType.long)) ∈ wG := mG 589 (by decide +kernel) (by decide +kernel)
theorem w_558 : (Jvm.Cond.methodLink "ShapeFormsModel" (103 : Nat) ({ cls := "ShapeFormsModel", name := "turnOf", desc := "(JJJJJJ)I" } : Jvm.MethodName)) ∈ wG := mG 590 (by decide +kernel) (by decide +kernel)
theorem w_559 : (Jvm.Cond.static ({ cls := "ShapeFormsModel", name := "turnOf", desc := "(JJJJJJ)I" } : Jvm.MethodName)) ∈ wG := mG 591 (by decide +kernel) (by decide +kernel)
theorem w_560 : (Jvm.Cond.code ({ cls := "ShapeFormsModel", name := "turnOf", desc := "(JJJJJJ)I" } : Jvm.MethodName) prog_6_method_17_code (12 : Nat) (Option.some Jvm.ClassFile.FieldType.int)) ∈ wG := mG 592 (by decide +kernel) (by decide +kernel)
theorem w_561 : (Jvm.Cond.methodLink "ShapeFormsModel" (91 : Nat) ({ cls := "ShapeFormsModel", name := "cross", desc := "(JJJJ)J" } : Jvm.MethodName)) ∈ wG := mG 593 (by decide +kernel) (by decide +kernel)
theorem w_562 : (Jvm.Cond.static ({ cls := "ShapeFormsModel", name := "cross", desc := "(JJJJ)J" } : Jvm.MethodName)) ∈ wG := mG 594 (by decide +kernel) (by decide +kernel)
theorem w_563 : (Jvm.Cond.code ({ cls := "ShapeFormsModel", name := "cross", desc := "(JJJJ)J" } : Jvm.MethodName) prog_6_method_15_code (8 : Nat) (Option.some Jvm.ClassFile.FieldType.long)) ∈ wG := mG 595 (by decide +kernel) (by decide +kernel)
theorem w_564 : (Jvm.Cond.methodLink "ShapeFormsModel" (95 : Nat) ({ cls := "ShapeFormsModel", name := "sign", desc := "(J)I" } : Jvm.MethodName)) ∈ wG := mG 596 (by decide +kernel) (by decide +kernel)
theorem w_565 : (Jvm.Cond.static ({ cls := "ShapeFormsModel", name := "sign", desc := "(J)I" } : Jvm.MethodName)) ∈ wG := mG 597 (by decide +kernel) (by decide +kernel)
theorem w_566 : (Jvm.Cond.code ({ cls := "ShapeFormsModel", name := "sign", desc := "(J)I" } : Jvm.MethodName) prog_6_method_16_code (2 : Nat) (Option.some Jvm.ClassFile.FieldType.int)) ∈ wG := mG 598 (by decide +kernel) (by decide +kernel)
theorem w_567 : (Jvm.Cond.methodLink "ShapeFormsModel" (138 : Nat) ({ cls := "ShapeFormsModel", name := "isCrossing", desc := "(III)Z" } : Jvm.MethodName)) ∈ wG := mG 599 (by decide +kernel) (by decide +kernel)
theorem w_569 : (Jvm.Cond.instanceMethod ({ cls := "ShapeFormsModel", name := "isCrossing", desc := "(III)Z" } : Jvm.MethodName)) ∈ wG := mG 601 (by decide +kernel) (by decide +kernel)
theorem w_570 : (Jvm.Cond.code ({ cls := "ShapeFormsModel", name := "isCrossing", desc := "(III)Z" } : Jvm.MethodName) prog_6_method_27_code (9 : Nat) (Option.some Jvm.ClassFile.FieldType.boolean)) ∈ wG := mG 602 (by decide +kernel) (by decide +kernel)
theorem w_571 : (Jvm.Cond.methodLink "ShapeFormsModel" (126 : Nat) ({ cls := "ShapeFormsModel", name := "foldsBack", desc := "(IIII)Z" } : Jvm.MethodName)) ∈ wG := mG 603 (by decide +kernel) (by decide +kernel)
theorem w_573 : (Jvm.Cond.instanceMethod ({ cls := "ShapeFormsModel", name := "foldsBack", desc := "(IIII)Z" } : Jvm.MethodName)) ∈ wG := mG 605 (by decide +kernel) (by decide +kernel)
theorem w_574 : (Jvm.Cond.code ({ cls := "ShapeFormsModel", name := "foldsBack", desc := "(IIII)Z" } : Jvm.MethodName) prog_6_method_25_code (10 : Nat) (Option.some Jvm.ClassFile.FieldType.boolean)) ∈ wG := mG 606 (by decide +kernel) (by decide +kernel)
theorem w_575 : (Jvm.Cond.methodLink "ShapeFormsModel" (118 : Nat) ({ cls := "ShapeFormsModel", name := "behind", desc := "(III)I" } : Jvm.MethodName)) ∈ wG := mG 607 (by decide +kernel) (by decide +kernel)
theorem w_576 : (Jvm.Cond.static ({ cls := "ShapeFormsModel", name := "behind", desc := "(III)I" } : Jvm.MethodName)) ∈ wG := mG 608 (by decide +kernel) (by decide +kernel)
theorem w_577 : (Jvm.Cond.code ({ cls := "ShapeFormsModel", name := "behind", desc := "(III)I" } : Jvm.MethodName) prog_6_method_23_code (3 : Nat) (Option.some Jvm.ClassFile.FieldType.int)) ∈ wG := mG 609 (by decide +kernel) (by decide +kernel)
theorem w_578 : (Jvm.Cond.methodLink "ShapeFormsModel" (107 : Nat) ({ cls := "ShapeFormsModel", name := "isOn", desc := "(JJJJJJ)Z" } : Jvm.MethodName)) ∈ wG := mG 610 (by decide +kernel) (by decide +kernel)
theorem w_579 : (Jvm.Cond.static ({ cls := "ShapeFormsModel", name := "isOn", desc := "(JJJJJJ)Z" } : Jvm.MethodName)) ∈ wG := mG 611 (by decide +kernel) (by decide +kernel)
theorem w_580 : (Jvm.Cond.code ({ cls := "ShapeFormsModel", name := "isOn", desc := "(JJJJJJ)Z" } : Jvm.MethodName) prog_6_method_19_code (12 : Nat) (Option.some Jvm.ClassFile.FieldType.boolean)) ∈ wG := mG 612 (by decide +kernel) (by decide +kernel)
theorem w_581 : (Jvm.Cond.methodLink "ShapeFormsModel" (99 : Nat) ({ cls := "ShapeFormsModel", name := "between", desc := "(JJJ)Z" } : Jvm.MethodName)) ∈ wG := mG 613 (by decide +kernel) (by decide +kernel)
theorem w_582 : (Jvm.Cond.static ({ cls := "ShapeFormsModel", name := "between", desc := "(JJJ)Z" } : Jvm.MethodName)) ∈ wG := mG 614 (by decide +kernel) (by decide +kernel)
theorem w_583 : (Jvm.Cond.code ({ cls := "ShapeFormsModel", name := "between", desc := "(JJJ)Z" } : Jvm.MethodName) prog_6_method_18_code (6 : Nat) (Option.some Jvm.ClassFile.FieldType.boolean)) ∈ wG := mG 615 (by decide +kernel) (by decide +kernel)
theorem w_584 : (Jvm.Cond.methodLink "ShapeFormsModel" (130 : Nat) ({ cls := "ShapeFormsModel", name := "sidesMeet", desc := "(IIIIIII)Z" } : Jvm.MethodName)) ∈ wG := mG 616 (by decide +kernel) (by decide +kernel)
theorem w_586 : (Jvm.Cond.instanceMethod ({ cls := "ShapeFormsModel", name := "sidesMeet", desc := "(IIIIIII)Z" } : Jvm.MethodName)) ∈ wG := mG 618 (by decide +kernel) (by decide +kernel)
theorem w_587 : (Jvm.Cond.code ({ cls := "ShapeFormsModel", name := "sidesMeet", desc := "(IIIIIII)Z" } : Jvm.MethodName) prog_6_method_26_code (10 : Nat) (Option.some Jvm.ClassFile.FieldType.boolean)) ∈ wG := mG 619 (by decide +kernel) (by decide +kernel)
theorem w_588 : (Jvm.Cond.methodLink "ShapeFormsModel" (122 : Nat) ({ cls := "ShapeFormsModel", name := "meet", desc := "(JJJJJJJJ)Z" } : Jvm.MethodName)) ∈ wG := mG 620 (by decide +kernel) (by decide +kernel)
theorem w_589 : (Jvm.Cond.static ({ cls := "ShapeFormsModel", name := "meet", desc := "(JJJJJJJJ)Z" } : Jvm.MethodName)) ∈ wG := mG 621 (by decide +kernel) (by decide +kernel)
theorem w_590 : (Jvm.Cond.code ({ cls := "ShapeFormsModel", name := "meet", desc := "(JJJJJJJJ)Z" } : Jvm.MethodName) prog_6_method_20_code (18 : Nat) (Option.some Jvm.ClassFile.FieldType.boolean)) ∈ wG := mG 622 (by decide +kernel) (by decide +kernel)
theorem w_591 : (Jvm.Cond.methodLink "ShapeFormsLaw" (108 : Nat) ({ cls := "ShapeFormsModel", name := "nearer", desc := "(IIJ)I" } : Jvm.MethodName)) ∈ wG := mG 623 (by decide +kernel) (by decide +kernel)
theorem w_592 : (Jvm.Cond.instanceMethod ({ cls := "ShapeFormsModel", name := "nearer", desc := "(IIJ)I" } : Jvm.MethodName)) ∈ wG := mG 624 (by decide +kernel) (by decide +kernel)
theorem w_593 : (Jvm.Cond.selects "ShapeFormsModel" ({ cls := "ShapeFormsModel", name := "nearer", desc := "(IIJ)I" } : Jvm.MethodName) ({ cls := "ShapeFormsModel", name := "nearer", desc := "(IIJ)I" } : Jvm.MethodName)) ∈ wG := mG 625 (by decide +kernel) (by decide +kernel)
theorem w_594 : (Jvm.Cond.code ({ cls := "ShapeFormsModel", name := "nearer", desc := "(IIJ)I" } : Jvm.MethodName) prog_6_method_39_code (6 : Nat) (Option.some Jvm.ClassFile.FieldType.int)) ∈ wG := mG 626 (by decide +kernel) (by decide +kernel)
theorem w_595 : (Jvm.Cond.methodLink "ShapeFormsModel" (177 : Nat) ({ cls := "ShapeFormsModel", name := "isWhole", desc := "(I)Z" } : Jvm.MethodName)) ∈ wG := mG 627 (by decide +kernel) (by decide +kernel)
theorem w_597 : (Jvm.Cond.instanceMethod ({ cls := "ShapeFormsModel", name := "isWhole", desc := "(I)Z" } : Jvm.MethodName)) ∈ wG := mG 629 (by decide +kernel) (by decide +kernel)
theorem w_598 : (Jvm.Cond.code ({ cls := "ShapeFormsModel", name := "isWhole", desc := "(I)Z" } : Jvm.MethodName) prog_6_method_7_code (2 : Nat) (Option.some Jvm.ClassFile.FieldType.boolean)) ∈ wG := mG 630 (by decide +kernel) (by decide +kernel)
theorem w_599 : (Jvm.Cond.methodLink "ShapeFormsModel" (180 : Nat) ({ cls := "ShapeFormsModel", name := "coresApart", desc := "(IIJ)I" } : Jvm.MethodName)) ∈ wG := mG 631 (by decide +kernel) (by decide +kernel)
theorem w_601 : (Jvm.Cond.instanceMethod ({ cls := "ShapeFormsModel", name := "coresApart", desc := "(IIJ)I" } : Jvm.MethodName)) ∈ wG := mG 633 (by decide +kernel) (by decide +kernel)
theorem w_602 : (Jvm.Cond.code ({ cls := "ShapeFormsModel", name := "coresApart", desc := "(IIJ)I" } : Jvm.MethodName) prog_6_method_38_code (9 : Nat) (Option.some Jvm.ClassFile.FieldType.int)) ∈ wG := mG 634 (by decide +kernel) (by decide +kernel)
theorem w_603 : (Jvm.Cond.methodLink "ShapeFormsModel" (165 : Nat) ({ cls := "ShapeFormsModel", name := "pieces", desc := "(II)V" } : Jvm.MethodName)) ∈ wG := mG 635 (by decide +kernel) (by decide +kernel)
theorem w_605 : (Jvm.Cond.instanceMethod ({ cls := "ShapeFormsModel", name := "pieces", desc := "(II)V" } : Jvm.MethodName)) ∈ wG := mG 637 (by decide +kernel) (by decide +kernel)
theorem w_606 : (Jvm.Cond.code ({ cls := "ShapeFormsModel", name := "pieces", desc := "(II)V" } : Jvm.MethodName) prog_6_method_30_code (7 : Nat) (Option.none : Option Jvm.ClassFile.FieldType)) ∈ wG := mG 638 (by decide +kernel) (by decide +kernel)
theorem w_607 : (Jvm.Cond.methodLink "ShapeFormsModel" (141 : Nat) ({ cls := "ShapeFormsModel", name := "piece", desc := "(IJJJJ)V" } : Jvm.MethodName)) ∈ wG := mG 639 (by decide +kernel) (by decide +kernel)
theorem w_609 : (Jvm.Cond.instanceMethod ({ cls := "ShapeFormsModel", name := "piece", desc := "(IJJJJ)V" } : Jvm.MethodName)) ∈ wG := mG 641 (by decide +kernel) (by decide +kernel)
theorem w_610 : (Jvm.Cond.code ({ cls := "ShapeFormsModel", name := "piece", desc := "(IJJJJ)V" } : Jvm.MethodName) prog_6_method_29_code (11 : Nat) (Option.none : Option Jvm.ClassFile.FieldType)) ∈ wG := mG 642 (by decide +kernel) (by decide +kernel)
theorem w_611 : (Jvm.Cond.methodLink "ShapeFormsModel" (169 : Nat) ({ cls := "ShapeFormsModel", name := "haveCommon", desc := "(II)Z" } : Jvm.MethodName)) ∈ wG := mG 643 (by decide +kernel) (by decide +kernel)
theorem w_613 : (Jvm.Cond.instanceMethod ({ cls := "ShapeFormsModel", name := "haveCommon", desc := "(II)Z" } : Jvm.MethodName)) ∈ wG := mG 645 (by decide +kernel) (by decide +kernel)
theorem w_614 : (Jvm.Cond.code ({ cls := "ShapeFormsModel", name := "haveCommon", desc := "(II)Z" } : Jvm.MethodName) prog_6_method_37_code (5 : Nat) (Option.some Jvm.ClassFile.FieldType.boolean)) ∈ wG := mG 646 (by decide +kernel) (by decide +kernel)
theorem w_615 : (Jvm.Cond.methodLink "ShapeFormsModel" (161 : Nat) ({ cls := "ShapeFormsModel", name := "isInCore", desc := "(IIJJ)Z" } : Jvm.MethodName)) ∈ wG := mG 647 (by decide +kernel) (by decide +kernel)
theorem w_617 : (Jvm.Cond.instanceMethod ({ cls := "ShapeFormsModel", name := "isInCore", desc := "(IIJJ)Z" } : Jvm.MethodName)) ∈ wG := mG 649 (by decide +kernel) (by decide +kernel)
theorem w_618 : (Jvm.Cond.code ({ cls := "ShapeFormsModel", name := "isInCore", desc := "(IIJJ)Z" } : Jvm.MethodName) prog_6_method_32_code (10 : Nat) (Option.some Jvm.ClassFile.FieldType.boolean)) ∈ wG := mG 650 (by decide +kernel) (by decide +kernel)
theorem w_619 : (Jvm.Cond.methodLink "ShapeFormsModel" (145 : Nat) ({ cls := "ShapeFormsModel", name := "hasArea", desc := "(I)Z" } : Jvm.MethodName)) ∈ wG := mG 651 (by decide +kernel) (by decide +kernel)
theorem w_621 : (Jvm.Cond.instanceMethod ({ cls := "ShapeFormsModel", name := "hasArea", desc := "(I)Z" } : Jvm.MethodName)) ∈ wG := mG 653 (by decide +kernel) (by decide +kernel)
theorem w_622 : (Jvm.Cond.code ({ cls := "ShapeFormsModel", name := "hasArea", desc := "(I)Z" } : Jvm.MethodName) prog_6_method_31_code (2 : Nat) (Option.some Jvm.ClassFile.FieldType.boolean)) ∈ wG := mG 654 (by decide +kernel) (by decide +kernel)
theorem w_623 : (Jvm.Cond.methodLink "ShapeFormsModel" (173 : Nat) ({ cls := "ShapeFormsModel", name := "apart", desc := "(IIJ)I" } : Jvm.MethodName)) ∈ wG := mG 655 (by decide +kernel) (by decide +kernel)
theorem w_625 : (Jvm.Cond.instanceMethod ({ cls := "ShapeFormsModel", name := "apart", desc := "(IIJ)I" } : Jvm.MethodName)) ∈ wG := mG 657 (by decide +kernel) (by decide +kernel)
theorem w_626 : (Jvm.Cond.code ({ cls := "ShapeFormsModel", name := "apart", desc := "(IIJ)I" } : Jvm.MethodName) prog_6_method_36_code (11 : Nat) (Option.some Jvm.ClassFile.FieldType.int)) ∈ wG := mG 658 (by decide +kernel) (by decide +kernel)
theorem w_627 : (Jvm.Cond.methodLink "ShapeFormsModel" (157 : Nat) ({ cls := "ShapeFormsModel", name := "farther", desc := "(JJJJJJJ)I" } : Jvm.MethodName)) ∈ wG := mG 659 (by decide +kernel) (by decide +kernel)
theorem w_629 : (Jvm.Cond.instanceMethod ({ cls := "ShapeFormsModel", name := "farther", desc := "(JJJJJJJ)I" } : Jvm.MethodName)) ∈ wG := mG 661 (by decide +kernel) (by decide +kernel)
theorem w_630 : (Jvm.Cond.code ({ cls := "ShapeFormsModel", name := "farther", desc := "(JJJJJJJ)I" } : Jvm.MethodName) prog_6_method_35_code (27 : Nat) (Option.some Jvm.ClassFile.FieldType.int)) ∈ wG := mG 662 (by decide +kernel) (by decide +kernel)
theorem w_631 : (Jvm.Cond.methodLink "ShapeFormsModel" (153 : Nat) ({ cls := "ShapeFormsModel", name := "compareProducts", desc := "(JJJJ)I" } : Jvm.MethodName)) ∈ wG := mG 663 (by decide +kernel) (by decide +kernel)
theorem w_633 : (Jvm.Cond.instanceMethod ({ cls := "ShapeFormsModel", name := "compareProducts", desc := "(JJJJ)I" } : Jvm.MethodName)) ∈ wG := mG 665 (by decide +kernel) (by decide +kernel)
theorem w_634 : (Jvm.Cond.code ({ cls := "ShapeFormsModel", name := "compareProducts", desc := "(JJJJ)I" } : Jvm.MethodName) prog_6_method_34_code (10 : Nat) (Option.some Jvm.ClassFile.FieldType.int)) ∈ wG := mG 666 (by decide +kernel) (by decide +kernel)
theorem w_635 : (Jvm.Cond.methodLink "ShapeFormsModel" (150 : Nat) ({ cls := "ShapeFormsModel", name := "multiply", desc := "(IJJ)V" } : Jvm.MethodName)) ∈ wG := mG 667 (by decide +kernel) (by decide +kernel)
theorem w_637 : (Jvm.Cond.instanceMethod ({ cls := "ShapeFormsModel", name := "multiply", desc := "(IJJ)V" } : Jvm.MethodName)) ∈ wG := mG 669 (by decide +kernel) (by decide +kernel)
theorem w_638 : (Jvm.Cond.code ({ cls := "ShapeFormsModel", name := "multiply", desc := "(IJJ)V" } : Jvm.MethodName) prog_6_method_33_code (24 : Nat) (Option.none : Option Jvm.ClassFile.FieldType)) ∈ wG := mG 670 (by decide +kernel) (by decide +kernel)
theorem w_639 : (Jvm.Cond.constantLong "ShapeFormsModel" (148 : Nat) (4294967295 : Int64)) ∈ wG := mG 671 (by decide +kernel) (by decide +kernel)
theorem w_640 : (Jvm.Cond.methodLink "ShapeFormsLaw" (104 : Nat) ({ cls := "ShapeFormsModel", name := "inside", desc := "(IJJ)Z" } : Jvm.MethodName)) ∈ wG := mG 672 (by decide +kernel) (by decide +kernel)
theorem w_641 : (Jvm.Cond.instanceMethod ({ cls := "ShapeFormsModel", name := "inside", desc := "(IJJ)Z" } : Jvm.MethodName)) ∈ wG := mG 673 (by decide +kernel) (by decide +kernel)
theorem w_642 : (Jvm.Cond.selects "ShapeFormsModel" ({ cls := "ShapeFormsModel", name := "inside", desc := "(IJJ)Z" } : Jvm.MethodName) ({ cls := "ShapeFormsModel", name := "inside", desc := "(IJJ)Z" } : Jvm.MethodName)) ∈ wG := mG 674 (by decide +kernel) (by decide +kernel)
theorem w_643 : (Jvm.Cond.code ({ cls := "ShapeFormsModel", name := "inside", desc := "(IJJ)Z" } : Jvm.MethodName) prog_6_method_40_code (7 : Nat) (Option.some Jvm.ClassFile.FieldType.boolean)) ∈ wG := mG 675 (by decide +kernel) (by decide +kernel)
theorem w_644 : (Jvm.Cond.methodLink "ShapeFormsLaw" (101 : Nat) ({ cls := "ShapeFormsModel", name := "grow", desc := "(IJ)I" } : Jvm.MethodName)) ∈ wG := mG 676 (by decide +kernel) (by decide +kernel)
theorem w_645 : (Jvm.Cond.instanceMethod ({ cls := "ShapeFormsModel", name := "grow", desc := "(IJ)I" } : Jvm.MethodName)) ∈ wG := mG 677 (by decide +kernel) (by decide +kernel)
theorem w_646 : (Jvm.Cond.selects "ShapeFormsModel" ({ cls := "ShapeFormsModel", name := "grow", desc := "(IJ)I" } : Jvm.MethodName) ({ cls := "ShapeFormsModel", name := "grow", desc := "(IJ)I" } : Jvm.MethodName)) ∈ wG := mG 678 (by decide +kernel) (by decide +kernel)
theorem w_647 : (Jvm.Cond.code ({ cls := "ShapeFormsModel", name := "grow", desc := "(IJ)I" } : Jvm.MethodName) prog_6_method_42_code (4 : Nat) (Option.some Jvm.ClassFile.FieldType.int)) ∈ wG := mG 679 (by decide +kernel) (by decide +kernel)
theorem w_648 : (Jvm.Cond.constantLong "ShapeFormsModel" (183 : Nat) (-1000000000 : Int64)) ∈ wG := mG 680 (by decide +kernel) (by decide +kernel)
theorem w_649 : (Jvm.Cond.methodLink "ShapeFormsModel" (185 : Nat) ({ cls := "ShapeFormsModel", name := "copy", desc := "(IJ)I" } : Jvm.MethodName)) ∈ wG := mG 681 (by decide +kernel) (by decide +kernel)
theorem w_651 : (Jvm.Cond.instanceMethod ({ cls := "ShapeFormsModel", name := "copy", desc := "(IJ)I" } : Jvm.MethodName)) ∈ wG := mG 683 (by decide +kernel) (by decide +kernel)
theorem w_652 : (Jvm.Cond.code ({ cls := "ShapeFormsModel", name := "copy", desc := "(IJ)I" } : Jvm.MethodName) prog_6_method_41_code (6 : Nat) (Option.some Jvm.ClassFile.FieldType.int)) ∈ wG := mG 684 (by decide +kernel) (by decide +kernel)
theorem w_653 : (Jvm.Cond.methodLink "ShapeFormsLaw" (116 : Nat) ({ cls := "ShapeFormsModel", name := "turn", desc := "(IIZ)I" } : Jvm.MethodName)) ∈ wG := mG 685 (by decide +kernel) (by decide +kernel)
theorem w_654 : (Jvm.Cond.instanceMethod ({ cls := "ShapeFormsModel", name := "turn", desc := "(IIZ)I" } : Jvm.MethodName)) ∈ wG := mG 686 (by decide +kernel) (by decide +kernel)
theorem w_655 : (Jvm.Cond.selects "ShapeFormsModel" ({ cls := "ShapeFormsModel", name := "turn", desc := "(IIZ)I" } : Jvm.MethodName) ({ cls := "ShapeFormsModel", name := "turn", desc := "(IIZ)I" } : Jvm.MethodName)) ∈ wG := mG 687 (by decide +kernel) (by decide +kernel)
theorem w_656 : (Jvm.Cond.code ({ cls := "ShapeFormsModel", name := "turn", desc := "(IIZ)I" } : Jvm.MethodName) prog_6_method_43_code (10 : Nat) (Option.some Jvm.ClassFile.FieldType.int)) ∈ wG := mG 688 (by decide +kernel) (by decide +kernel)
theorem w_657 : (Jvm.Cond.methodLink "ShapeFormsModel" (188 : Nat) ({ cls := "ShapeFormsModel", name := "order", desc := "(I)V" } : Jvm.MethodName)) ∈ wG := mG 689 (by decide +kernel) (by decide +kernel)
theorem w_659 : (Jvm.Cond.instanceMethod ({ cls := "ShapeFormsModel", name := "order", desc := "(I)V" } : Jvm.MethodName)) ∈ wG := mG 691 (by decide +kernel) (by decide +kernel)
theorem w_660 : (Jvm.Cond.code ({ cls := "ShapeFormsModel", name := "order", desc := "(I)V" } : Jvm.MethodName) prog_6_method_44_code (10 : Nat) (Option.none : Option Jvm.ClassFile.FieldType)) ∈ wG := mG 692 (by decide +kernel) (by decide +kernel)
theorem w_661 : (Jvm.Cond.methodLink "ShapeFormsLaw" (112 : Nat) ({ cls := "ShapeFormsModel", name := "boxOf", desc := "(II)J" } : Jvm.MethodName)) ∈ wG := mG 693 (by decide +kernel) (by decide +kernel)
theorem w_662 : (Jvm.Cond.instanceMethod ({ cls := "ShapeFormsModel", name := "boxOf", desc := "(II)J" } : Jvm.MethodName)) ∈ wG := mG 694 (by decide +kernel) (by decide +kernel)
theorem w_663 : (Jvm.Cond.selects "ShapeFormsModel" ({ cls := "ShapeFormsModel", name := "boxOf", desc := "(II)J" } : Jvm.MethodName) ({ cls := "ShapeFormsModel", name := "boxOf", desc := "(II)J" } : Jvm.MethodName)) ∈ wG := mG 695 (by decide +kernel) (by decide +kernel)
theorem w_664 : (Jvm.Cond.code ({ cls := "ShapeFormsModel", name := "boxOf", desc := "(II)J" } : Jvm.MethodName) prog_6_method_45_code (10 : Nat) (Option.some Jvm.ClassFile.FieldType.long)) ∈ wG := mG 696 (by decide +kernel) (by decide +kernel)
theorem w_665 : (Jvm.Cond.methodLink "ShapeFormsLaw" (119 : Nat) ({ cls := "ShapeFormsModel", name := "kind", desc := "(I)I" } : Jvm.MethodName)) ∈ wG := mG 697 (by decide +kernel) (by decide +kernel)
theorem w_666 : (Jvm.Cond.instanceMethod ({ cls := "ShapeFormsModel", name := "kind", desc := "(I)I" } : Jvm.MethodName)) ∈ wG := mG 698 (by decide +kernel) (by decide +kernel)
theorem w_667 : (Jvm.Cond.selects "ShapeFormsModel" ({ cls := "ShapeFormsModel", name := "kind", desc := "(I)I" } : Jvm.MethodName) ({ cls := "ShapeFormsModel", name := "kind", desc := "(I)I" } : Jvm.MethodName)) ∈ wG := mG 699 (by decide +kernel) (by decide +kernel)
theorem w_668 : (Jvm.Cond.code ({ cls := "ShapeFormsModel", name := "kind", desc := "(I)I" } : Jvm.MethodName) prog_6_method_46_code (2 : Nat) (Option.some Jvm.ClassFile.FieldType.int)) ∈ wG := mG 700 (by decide +kernel) (by decide +kernel)
theorem w_669 : (Jvm.Cond.methodLink "ShapeFormsLaw" (122 : Nat) ({ cls := "ShapeFormsModel", name := "same", desc := "(II)Z" } : Jvm.MethodName)) ∈ wG := mG 701 (by decide +kernel) (by decide +kernel)
theorem w_670 : (Jvm.Cond.instanceMethod ({ cls := "ShapeFormsModel", name := "same", desc := "(II)Z" } : Jvm.MethodName)) ∈ wG := mG 702 (by decide +kernel) (by decide +kernel)
theorem w_671 : (Jvm.Cond.selects "ShapeFormsModel" ({ cls := "ShapeFormsModel", name := "same", desc := "(II)Z" } : Jvm.MethodName) ({ cls := "ShapeFormsModel", name := "same", desc := "(II)Z" } : Jvm.MethodName)) ∈ wG := mG 703 (by decide +kernel) (by decide +kernel)
theorem w_672 : (Jvm.Cond.code ({ cls := "ShapeFormsModel", name := "same", desc := "(II)Z" } : Jvm.MethodName) prog_6_method_51_code (3 : Nat) (Option.some Jvm.ClassFile.FieldType.boolean)) ∈ wG := mG 704 (by decide +kernel) (by decide +kernel)
theorem w_673 : (Jvm.Cond.methodLink "ShapeFormsModel" (203 : Nat) ({ cls := "ShapeFormsModel", name := "covers", desc := "(II)Z" } : Jvm.MethodName)) ∈ wG := mG 705 (by decide +kernel) (by decide +kernel)
theorem w_675 : (Jvm.Cond.instanceMethod ({ cls := "ShapeFormsModel", name := "covers", desc := "(II)Z" } : Jvm.MethodName)) ∈ wG := mG 707 (by decide +kernel) (by decide +kernel)
theorem w_676 : (Jvm.Cond.code ({ cls := "ShapeFormsModel", name := "covers", desc := "(II)Z" } : Jvm.MethodName) prog_6_method_50_code (5 : Nat) (Option.some Jvm.ClassFile.FieldType.boolean)) ∈ wG := mG 708 (by decide +kernel) (by decide +kernel)
theorem w_677 : (Jvm.Cond.methodLink "ShapeFormsModel" (200 : Nat) ({ cls := "ShapeFormsModel", name := "isCovered", desc := "(II)Z" } : Jvm.MethodName)) ∈ wG := mG 709 (by decide +kernel) (by decide +kernel)
theorem w_679 : (Jvm.Cond.instanceMethod ({ cls := "ShapeFormsModel", name := "isCovered", desc := "(II)Z" } : Jvm.MethodName)) ∈ wG := mG 711 (by decide +kernel) (by decide +kernel)
theorem w_680 : (Jvm.Cond.code ({ cls := "ShapeFormsModel", name := "isCovered", desc := "(II)Z" } : Jvm.MethodName) prog_6_method_49_code (14 : Nat) (Option.some Jvm.ClassFile.FieldType.boolean)) ∈ wG := mG 712 (by decide +kernel) (by decide +kernel)
theorem w_681 : (Jvm.Cond.methodLink "ShapeFormsModel" (192 : Nat) ({ cls := "ShapeFormsModel", name := "isAhead", desc := "(IJJJJ)Z" } : Jvm.MethodName)) ∈ wG := mG 713 (by decide +kernel) (by decide +kernel)
theorem w_683 : (Jvm.Cond.instanceMethod ({ cls := "ShapeFormsModel", name := "isAhead", desc := "(IJJJJ)Z" } : Jvm.MethodName)) ∈ wG := mG 715 (by decide +kernel) (by decide +kernel)
theorem w_684 : (Jvm.Cond.code ({ cls := "ShapeFormsModel", name := "isAhead", desc := "(IJJJJ)Z" } : Jvm.MethodName) prog_6_method_48_code (10 : Nat) (Option.some Jvm.ClassFile.FieldType.boolean)) ∈ wG := mG 716 (by decide +kernel) (by decide +kernel)
theorem w_685 : (Jvm.Cond.methodLink "ShapeFormsModel" (196 : Nat) ({ cls := "ShapeFormsModel", name := "isLine", desc := "(II[J[J[J[J)Z" } : Jvm.MethodName)) ∈ wG := mG 717 (by decide +kernel) (by decide +kernel)
theorem w_686 : (Jvm.Cond.static ({ cls := "ShapeFormsModel", name := "isLine", desc := "(II[J[J[J[J)Z" } : Jvm.MethodName)) ∈ wG := mG 718 (by decide +kernel) (by decide +kernel)
theorem w_687 : (Jvm.Cond.code ({ cls := "ShapeFormsModel", name := "isLine", desc := "(II[J[J[J[J)Z" } : Jvm.MethodName) prog_6_method_47_code (6 : Nat) (Option.some Jvm.ClassFile.FieldType.boolean)) ∈ wG := mG 719 (by decide +kernel) (by decide +kernel)
theorem w_688 : (Jvm.Cond.constantLong "ShapeFormsLaw" (66 : Nat) (4294967295 : Int64)) ∈ wG := mG 720 (by decide +kernel) (by decide +kernel)
theorem w_689 : (Jvm.Cond.sameMethod "java/lang/Throwable" "java/lang/Throwable" "fillInStackTrace" "(I)Ljava/lang/Throwable;") ∈ wG := mG 721 (by decide +kernel) (by decide +kernel)
theorem wp_0 : Cond.selects "ShapeForms" ⟨"ShapeForms", "keep", "(LShapeForms$Shape;)I"⟩ ⟨"ShapeForms", "keep", "(LShapeForms$Shape;)I"⟩ ∈ wG := mG 0 (by decide +kernel) (by decide +kernel)
theorem wp_1 : Cond.selects "java/lang/Throwable" ⟨"java/lang/Throwable", "fillInStackTrace", "(I)Ljava/lang/Throwable;"⟩ ⟨"java/lang/Throwable", "fillInStackTrace", "(I)Ljava/lang/Throwable;"⟩ ∈ wG := mG 1 (by decide +kernel) (by decide +kernel)
theorem wp_2 : Cond.selects "ShapeForms" ⟨"ShapeForms", "find", "(I)LShapeForms$Shape;"⟩ ⟨"ShapeForms", "find", "(I)LShapeForms$Shape;"⟩ ∈ wG := mG 2 (by decide +kernel) (by decide +kernel)
theorem wp_3 : Cond.selects "ShapeForms$Shape" ⟨"ShapeForms$Shape", "compareToSide", "(IJJJ)I"⟩ ⟨"ShapeForms$Shape", "compareToSide", "(IJJJ)I"⟩ ∈ wG := mG 3 (by decide +kernel) (by decide +kernel)
theorem wp_4 : Cond.selects "ShapeForms$Shape" ⟨"ShapeForms$Shape", "squareTo", "(IJJ)J"⟩ ⟨"ShapeForms$Shape", "squareTo", "(IJJ)J"⟩ ∈ wG := mG 4 (by decide +kernel) (by decide +kernel)
theorem wp_5 : Cond.selects "ShapeForms$Shape" ⟨"ShapeForms$Shape", "coveredFrom", "(JZLShapeForms$Shape;I)J"⟩ ⟨"ShapeForms$Shape", "coveredFrom", "(JZLShapeForms$Shape;I)J"⟩ ∈ wG := mG 5 (by decide +kernel) (by decide +kernel)
theorem wp_6 : Cond.selects "ShapeFormsModel" ⟨"ShapeFormsModel", "begin", "(IJ)I"⟩ ⟨"ShapeFormsModel", "begin", "(IJ)I"⟩ ∈ wG := mG 6 (by decide +kernel) (by decide +kernel)
theorem wp_7 : Cond.selects "ShapeFormsModel" ⟨"ShapeFormsModel", "add", "(IJJ)V"⟩ ⟨"ShapeFormsModel", "add", "(IJJ)V"⟩ ∈ wG := mG 7 (by decide +kernel) (by decide +kernel)
theorem wp_8 : Cond.selects "ShapeFormsModel" ⟨"ShapeFormsModel", "isShape", "(I)Z"⟩ ⟨"ShapeFormsModel", "isShape", "(I)Z"⟩ ∈ wG := mG 8 (by decide +kernel) (by decide +kernel)
theorem wp_9 : Cond.selects "ShapeFormsModel" ⟨"ShapeFormsModel", "closed", "(I)I"⟩ ⟨"ShapeFormsModel", "closed", "(I)I"⟩ ∈ wG := mG 9 (by decide +kernel) (by decide +kernel)
theorem wp_10 : Cond.selects "ShapeFormsModel" ⟨"ShapeFormsModel", "isEmpty", "(III)Z"⟩ ⟨"ShapeFormsModel", "isEmpty", "(III)Z"⟩ ∈ wG := mG 10 (by decide +kernel) (by decide +kernel)
theorem wp_11 : Cond.selects "ShapeFormsModel" ⟨"ShapeFormsModel", "x", "(II)J"⟩ ⟨"ShapeFormsModel", "x", "(II)J"⟩ ∈ wG := mG 11 (by decide +kernel) (by decide +kernel)
theorem wp_12 : Cond.selects "ShapeFormsModel" ⟨"ShapeFormsModel", "y", "(II)J"⟩ ⟨"ShapeFormsModel", "y", "(II)J"⟩ ∈ wG := mG 12 (by decide +kernel) (by decide +kernel)
theorem wp_13 : Cond.selects "ShapeFormsModel" ⟨"ShapeFormsModel", "isCrossing", "(III)Z"⟩ ⟨"ShapeFormsModel", "isCrossing", "(III)Z"⟩ ∈ wG := mG 13 (by decide +kernel) (by decide +kernel)
theorem wp_14 : Cond.selects "ShapeFormsModel" ⟨"ShapeFormsModel", "foldsBack", "(IIII)Z"⟩ ⟨"ShapeFormsModel", "foldsBack", "(IIII)Z"⟩ ∈ wG := mG 14 (by decide +kernel) (by decide +kernel)
theorem wp_15 : Cond.selects "ShapeFormsModel" ⟨"ShapeFormsModel", "sidesMeet", "(IIIIIII)Z"⟩ ⟨"ShapeFormsModel", "sidesMeet", "(IIIIIII)Z"⟩ ∈ wG := mG 15 (by decide +kernel) (by decide +kernel)
theorem wp_16 : Cond.selects "ShapeFormsModel" ⟨"ShapeFormsModel", "isWhole", "(I)Z"⟩ ⟨"ShapeFormsModel", "isWhole", "(I)Z"⟩ ∈ wG := mG 16 (by decide +kernel) (by decide +kernel)
theorem wp_17 : Cond.selects "ShapeFormsModel" ⟨"ShapeFormsModel", "coresApart", "(IIJ)I"⟩ ⟨"ShapeFormsModel", "coresApart", "(IIJ)I"⟩ ∈ wG := mG 17 (by decide +kernel) (by decide +kernel)
theorem wp_18 : Cond.selects "ShapeFormsModel" ⟨"ShapeFormsModel", "pieces", "(II)V"⟩ ⟨"ShapeFormsModel", "pieces", "(II)V"⟩ ∈ wG := mG 18 (by decide +kernel) (by decide +kernel)
theorem wp_19 : Cond.selects "ShapeFormsModel" ⟨"ShapeFormsModel", "piece", "(IJJJJ)V"⟩ ⟨"ShapeFormsModel", "piece", "(IJJJJ)V"⟩ ∈ wG := mG 19 (by decide +kernel) (by decide +kernel)
theorem wp_20 : Cond.selects "ShapeFormsModel" ⟨"ShapeFormsModel", "haveCommon", "(II)Z"⟩ ⟨"ShapeFormsModel", "haveCommon", "(II)Z"⟩ ∈ wG := mG 20 (by decide +kernel) (by decide +kernel)
theorem wp_21 : Cond.selects "ShapeFormsModel" ⟨"ShapeFormsModel", "isInCore", "(IIJJ)Z"⟩ ⟨"ShapeFormsModel", "isInCore", "(IIJJ)Z"⟩ ∈ wG := mG 21 (by decide +kernel) (by decide +kernel)
theorem wp_22 : Cond.selects "ShapeFormsModel" ⟨"ShapeFormsModel", "hasArea", "(I)Z"⟩ ⟨"ShapeFormsModel", "hasArea", "(I)Z"⟩ ∈ wG := mG 22 (by decide +kernel) (by decide +kernel)
theorem wp_23 : Cond.selects "ShapeFormsModel" ⟨"ShapeFormsModel", "apart", "(IIJ)I"⟩ ⟨"ShapeFormsModel", "apart", "(IIJ)I"⟩ ∈ wG := mG 23 (by decide +kernel) (by decide +kernel)
theorem wp_24 : Cond.selects "ShapeFormsModel" ⟨"ShapeFormsModel", "farther", "(JJJJJJJ)I"⟩ ⟨"ShapeFormsModel", "farther", "(JJJJJJJ)I"⟩ ∈ wG := mG 24 (by decide +kernel) (by decide +kernel)
theorem wp_25 : Cond.selects "ShapeFormsModel" ⟨"ShapeFormsModel", "compareProducts", "(JJJJ)I"⟩ ⟨"ShapeFormsModel", "compareProducts", "(JJJJ)I"⟩ ∈ wG := mG 25 (by decide +kernel) (by decide +kernel)
theorem wp_26 : Cond.selects "ShapeFormsModel" ⟨"ShapeFormsModel", "multiply", "(IJJ)V"⟩ ⟨"ShapeFormsModel", "multiply", "(IJJ)V"⟩ ∈ wG := mG 26 (by decide +kernel) (by decide +kernel)
theorem wp_27 : Cond.selects "ShapeFormsModel" ⟨"ShapeFormsModel", "copy", "(IJ)I"⟩ ⟨"ShapeFormsModel", "copy", "(IJ)I"⟩ ∈ wG := mG 27 (by decide +kernel) (by decide +kernel)
theorem wp_28 : Cond.selects "ShapeFormsModel" ⟨"ShapeFormsModel", "order", "(I)V"⟩ ⟨"ShapeFormsModel", "order", "(I)V"⟩ ∈ wG := mG 28 (by decide +kernel) (by decide +kernel)
theorem wp_29 : Cond.selects "ShapeFormsModel" ⟨"ShapeFormsModel", "covers", "(II)Z"⟩ ⟨"ShapeFormsModel", "covers", "(II)Z"⟩ ∈ wG := mG 29 (by decide +kernel) (by decide +kernel)
theorem wp_30 : Cond.selects "ShapeFormsModel" ⟨"ShapeFormsModel", "isCovered", "(II)Z"⟩ ⟨"ShapeFormsModel", "isCovered", "(II)Z"⟩ ∈ wG := mG 30 (by decide +kernel) (by decide +kernel)
theorem wp_31 : Cond.selects "ShapeFormsModel" ⟨"ShapeFormsModel", "isAhead", "(IJJJJ)Z"⟩ ⟨"ShapeFormsModel", "isAhead", "(IJJJJ)Z"⟩ ∈ wG := mG 31 (by decide +kernel) (by decide +kernel)
end
section
/-! Own base: pure functions in Option, and rows that read them -/
def ld {α : Type} (n : Nat) (f : Nat → α) (i : Int32) : Option α := if (i < 0 ∨ n ≤ i.toNatClampNeg) then none else some (f i.toNatClampNeg)
theorem ld_of {α : Type} {n : Nat} {f : Nat → α} {i : Int32} {x : α} (h : ld n f i = some x) : vp_in i n ∧ f i.toNatClampNeg = x := by
  unfold ld at h
  by_cases c : (i < 0 ∨ n ≤ i.toNatClampNeg)
  · rw [if_pos c] at h; cases h
  · rw [if_neg c] at h; exact ⟨c, Option.some.inj h⟩
theorem ob_some {α β : Type} {o : Option α} {f : α → Option β} {r : β} (h : o.bind f = some r) : ∃ x, o = some x ∧ f x = some r := by
  cases o with
  | none => cases h
  | some x => exact ⟨x, rfl, h⟩
theorem it_t {α : Type} {c : Prop} [Decidable c] {a b r : α} (hc : c) (h : (if c then a else b) = r) : a = r := by rw [if_pos hc] at h; exact h
theorem it_f {α : Type} {c : Prop} [Decidable c] {a b r : α} (hc : ¬ c) (h : (if c then a else b) = r) : b = r := by rw [if_neg hc] at h; exact h
/-- a boolean answer: 0 or 1 -/
def rb (x : Int32) : Option Int32 := if x = 0 ∨ x = 1 then some x else none
theorem rb_of {x r : Int32} (h : rb x = some r) : narrow .boolean (.int x) = .int x ∧ x = r := by
  unfold rb at h
  by_cases c : (x = 0 ∨ x = 1)
  · rw [if_pos c] at h
    refine ⟨?_, Option.some.inj h⟩
    rcases c with c | c <;> rw [c] <;> decide
  · rw [if_neg c] at h; cases h
theorem nil_locs {P : Addr → Prop} : ∀ q ∈ ([] : List Loc), P q.base := fun _ h => nomatch h
/-- what a reading method takes: its arguments, a picture of the heap, the classes -/
abbrev rd_Pc (av : List Value) (F : Heap → Prop) (D : va_G) (cl : List vw_C) (tys : List (ClassId × FieldType)) : Array Value → State → Prop := va_Pc av (fun U => F U.heap ∧ va_K D cl tys U)
theorem rd_blind {av : List Value} {F : Heap → Prop} {D : va_G} {cl : List vw_C} {tys : List (ClassId × FieldType)} : FrameBlind (rd_Pc av F D cl tys) := fun a U g mk q => by
  obtain ⟨q0, qP, qK⟩ := q
  exact ⟨q0, qP, va_K.moved (u := U) (U := U.calling g mk a) (Vm.Alike.refl U.vm) qK⟩
theorem rd_pre {av : List Value} {F : Heap → Prop} {D : va_G} {cl : List vw_C} {tys : List (ClassId × FieldType)} {s : State} {H : Heap} (hF : F H) (hK : va_K D cl tys s) : ∀ U : State, U.heap = H → s.WarmedH U.vm → rd_Pc av F D cl tys av.toArray U := fun U hU hW => ⟨rfl, by rw [hU]; exact hF, va_K.moved hW.alike hK⟩
theorem good_all {w : Cond} (h : w ∈ wG) : w ∈ wG ∧ ((w.onTables && w.keeps) = true ∨ ∃ ty, w = .arrayClass ty) := ⟨h, good_of_word (List.mem_filter.mp h).2⟩
theorem gV {own C : String} {i : Nat} {y : MethodName} {b : ByteArray} {n : Nat} {r : Option FieldType} (h1 : Cond.methodLink own i y ∈ wG) (h2 : Cond.instanceMethod y ∈ wG) (h3 : Cond.selects C y y ∈ wG) (h4 : Cond.initialized C ∈ wG) (h5 : Cond.code y b n r ∈ wG) : GoodIn wG (wsV own i C y (.code y b n r :: wG)) := by
  intro w hw
  unfold wsV at hw
  simp only [List.cons_append, List.nil_append, List.mem_cons] at hw
  rcases hw with e | e | e | e | e | h
  · rw [e]; exact good_all h1
  · rw [e]; exact good_all h2
  · rw [e]; exact good_all h3
  · rw [e]; exact good_all h4
  · rw [e]; exact good_all h5
  · exact good_all h
theorem gS {own : String} {i : Nat} {y : MethodName} {b : ByteArray} {n : Nat} {r : Option FieldType} (h1 : Cond.methodLink own i y ∈ wG) (h2 : Cond.static y ∈ wG) (h4 : Cond.initialized y.cls ∈ wG) (h5 : Cond.code y b n r ∈ wG) : GoodIn wG (va_wsS own i y (.code y b n r :: wG)) := by
  intro w hw
  unfold va_wsS at hw
  simp only [List.cons_append, List.nil_append, List.mem_cons] at hw
  rcases hw with e | e | e | e | h
  · rw [e]; exact good_all h1
  · rw [e]; exact good_all h2
  · rw [e]; exact good_all h4
  · rw [e]; exact good_all h5
  · exact good_all h
/-! A shape of the class, as a value: form, filled, radius, xs, ys, ends, count, open; and its four cells -/
abbrev SV : Type := Int32 × Int32 × Int64 × (Nat → Int64) × (Nat → Int64) × (Nat → Int32) × Int32 × Int32
def sF (v : SV) : Int32 := v.1
def sB (v : SV) : Int32 := v.2.1
def sR (v : SV) : Int64 := v.2.2.1
def sX (v : SV) : Nat → Int64 := v.2.2.2.1
def sY (v : SV) : Nat → Int64 := v.2.2.2.2.1
def sE (v : SV) : Nat → Int32 := v.2.2.2.2.2.1
def sN (v : SV) : Int32 := v.2.2.2.2.2.2.1
def sO (v : SV) : Int32 := v.2.2.2.2.2.2.2
def shW (cL cI : ClassId) (a ax ay ae : Nat) (v : SV) : va_W := [(a, .inr (0, [.int (sF v), .int (sB v), .long (sR v), .ref ax, .ref ay, .ref ae, .int (sN v), .int (sO v)])), (ax, .inl (cL, 48, .inr (.inl (sX v)))), (ay, .inl (cL, 48, .inr (.inl (sY v)))), (ae, .inl (cI, 48, .inl (sE v)))]
end
section
/-! Long.compare, Math, the class Wide: reading methods, laid by program -/
theorem wm_min_I : Cond.code Lib.Math.min.name Lib.Math.min.code 2 (some .int) ∈ wG := w_348
theorem wm_min_J : Cond.code Lib.MathLoose.min_long.x Lib.MathLoose.min_long.code 4 (some .long) ∈ wG := w_280
theorem wm_max_J : Cond.code Lib.MathLoose.max_long.x Lib.MathLoose.max_long.code 4 (some .long) ∈ wG := w_283
theorem wm_abs_J : Cond.code Lib.MathLoose.abs_long.x Lib.MathLoose.abs_long.code 2 (some .long) ∈ wG := w_336
theorem dJL_compare_JJ_0 : decode cJL_compare_JJ 0 = .ok (.lload_n 0, 1) := by decide +kernel
theorem dJL_compare_JJ_1 : decode cJL_compare_JJ 1 = .ok (.lload_n 2, 1) := by decide +kernel
theorem dJL_compare_JJ_2 : decode cJL_compare_JJ 2 = .ok (.lcmp, 1) := by decide +kernel
theorem dJL_compare_JJ_3 : decode cJL_compare_JJ 3 = .ok (.ifCond .ge 7, 3) := by decide +kernel
theorem dJL_compare_JJ_6 : decode cJL_compare_JJ 6 = .ok (.iconst (-1), 1) := by decide +kernel
theorem dJL_compare_JJ_7 : decode cJL_compare_JJ 7 = .ok (.goto 14, 3) := by decide +kernel
theorem dJL_compare_JJ_10 : decode cJL_compare_JJ 10 = .ok (.lload_n 0, 1) := by decide +kernel
theorem dJL_compare_JJ_11 : decode cJL_compare_JJ 11 = .ok (.lload_n 2, 1) := by decide +kernel
theorem dJL_compare_JJ_12 : decode cJL_compare_JJ 12 = .ok (.lcmp, 1) := by decide +kernel
theorem dJL_compare_JJ_13 : decode cJL_compare_JJ 13 = .ok (.ifCond .ne 7, 3) := by decide +kernel
theorem dJL_compare_JJ_16 : decode cJL_compare_JJ 16 = .ok (.iconst 0, 1) := by decide +kernel
theorem dJL_compare_JJ_17 : decode cJL_compare_JJ 17 = .ok (.goto 4, 3) := by decide +kernel
theorem dJL_compare_JJ_20 : decode cJL_compare_JJ 20 = .ok (.iconst 1, 1) := by decide +kernel
theorem dJL_compare_JJ_21 : decode cJL_compare_JJ 21 = .ok (.ireturn, 1) := by decide +kernel
def f_JL_compare_JJ_j21 (s0 : Int32) : Option Int32 := some s0
def f_JL_compare_JJ (x0 : Int64) (x2 : Int64) : Option Int32 := (if 0 ≤ (lg_cmp x0 x2) then (if (lg_cmp x0 x2) = 0 then (f_JL_compare_JJ_j21 (0 : Int32)) else (f_JL_compare_JJ_j21 (1 : Int32))) else (f_JL_compare_JJ_j21 (-1 : Int32)))
set_option maxHeartbeats 4000000 in
set_option maxRecDepth 100000 in
theorem k_JL_compare_JJ (l : Launch) (dC : Nat → ClassId) (dI : Nat → Nat → Nat) (cL cI : ClassId) (x0 : Int64) (x2 : Int64) (r : Int32) (h : f_JL_compare_JJ x0 x2 = some r) : Met l yJL_compare_JJ wsJL_compare_JJ ({ frames := 0, cells := 0, slots := 0, locals := 0 }) (rd_Pc [.long x0, .long x2] (fun _ => True) (dC, dI) cls3 [(cL, .long), (cI, .int)]) (vp_Si (fun z => z = r)) 0 0 (fun _ => False) := by
  refine Met.ofW (cc := cJL_compare_JJ) (maxL := 4) (ret := (some .int)) (by decide) rfl ?_
  intro p e s m args below meth c s₁ B hml hv
  obtain ⟨rfl, hF, hK⟩ := hv
  have hx := B.exec
  have hb := B.bytes
  have hr := B.returns
  have hw : ∀ w ∈ wG, w.before ([.long x0, .long x2] : List Value).toArray s = true := fun w hq => atoms_spec (ws := wsJL_compare_JJ) B.pre w (List.mem_cons_of_mem _ hq)
  have hown : s.vm.findClass R_JL = some m.cls := findClass_of_methodNamed B.named
  have hlocks := B.notSynchronized
  have hl := lv_entry ([.long x0, .long x2] : List Value) (n := 4) (Nat.le_of_ble_eq_true rfl)
  rw [lg_entry_eq]
  generalize (lg_sl ([.long x0, .long x2] : List Value) ++ List.replicate (4 - (lg_sl ([.long x0, .long x2] : List Value)).length) Slot.unset).toArray = ls at hl ⊢
  have hl : lv_has ls 4 [(0, .long x0), (2, .long x2)] := hl
  have k21 : ∀ (s0 : Int32), f_JL_compare_JJ_j21 s0 = some r →  ∀ (ls : Array Slot), lv_has ls 4 [] → W p l e (headSpec wsJL_compare_JJ ({ frames := 0, cells := 0, slots := 0, locals := 0 })).room s m ([.long x0, .long x2] : List Value).toArray below meth c s.heap [] 0 0 (MQ below (vp_Si (fun z => z = r)) ([.long x0, .long x2] : List Value).toArray s 0 0 (fun _ => False)) (F0 m 21 ls [.int s0]) := by
    intro s0 h  ls hl
    unfold f_JL_compare_JJ_j21 at h
    exact W.iret hx hb hr (fun t ht hW => ⟨_, rfl, Option.some.inj h, ht⟩) nil_locs dJL_compare_JJ_21
  unfold f_JL_compare_JJ at h
  refine lv_lload_n hx hb dJL_compare_JJ_0 rfl (lv_at hl 0 rfl) ?_
  refine lv_lload_n hx hb dJL_compare_JJ_1 rfl (lv_at hl 1 rfl) ?_
  refine W.lcmp hx hb dJL_compare_JJ_2 ?_
  refine lv_if_ge (tgt := 10) hx hb dJL_compare_JJ_3 (by decide) (fun c1 => ?_) (fun c1 => ?_)
  · have h := it_t c1 h
    refine lv_lload_n hx hb dJL_compare_JJ_10 rfl (lv_at hl 0 rfl) ?_
    refine lv_lload_n hx hb dJL_compare_JJ_11 rfl (lv_at hl 1 rfl) ?_
    refine W.lcmp hx hb dJL_compare_JJ_12 ?_
    refine lv_if_ne (tgt := 20) hx hb dJL_compare_JJ_13 (by decide) (fun c2 => ?_) (fun c2 => ?_)
    · have h := it_f c2 h
      refine lv_iconst (v := 1) hx hb dJL_compare_JJ_20 (by decide) ?_
      exact k21 (1 : Int32) h ls (lv_sub hl [] rfl)
    · have h := it_t c2 h
      refine lv_iconst (v := 0) hx hb dJL_compare_JJ_16 (by decide) ?_
      refine lv_goto (tgt := 21) hx hb dJL_compare_JJ_17 (by decide) ?_
      exact k21 (0 : Int32) h ls (lv_sub hl [] rfl)
  · have h := it_f c1 h
    refine lv_iconst (v := -1) hx hb dJL_compare_JJ_6 (by decide) ?_
    refine lv_goto (tgt := 21) hx hb dJL_compare_JJ_7 (by decide) ?_
    exact k21 (-1 : Int32) h ls (lv_sub hl [] rfl)
theorem dW_highPart_0 : decode cW_highPart 0 = .ok (.lload_n 0, 1) := by decide +kernel
theorem dW_highPart_1 : decode cW_highPart 1 = .ok (.ldc2_w 21, 3) := by decide +kernel
theorem dW_highPart_4 : decode cW_highPart 4 = .ok (.land, 1) := by decide +kernel
theorem dW_highPart_5 : decode cW_highPart 5 = .ok (.lstore 4, 2) := by decide +kernel
theorem dW_highPart_7 : decode cW_highPart 7 = .ok (.lload_n 0, 1) := by decide +kernel
theorem dW_highPart_8 : decode cW_highPart 8 = .ok (.bipush 32, 2) := by decide +kernel
theorem dW_highPart_10 : decode cW_highPart 10 = .ok (.lushr, 1) := by decide +kernel
theorem dW_highPart_11 : decode cW_highPart 11 = .ok (.lstore 6, 2) := by decide +kernel
theorem dW_highPart_13 : decode cW_highPart 13 = .ok (.lload_n 2, 1) := by decide +kernel
theorem dW_highPart_14 : decode cW_highPart 14 = .ok (.ldc2_w 21, 3) := by decide +kernel
theorem dW_highPart_17 : decode cW_highPart 17 = .ok (.land, 1) := by decide +kernel
theorem dW_highPart_18 : decode cW_highPart 18 = .ok (.lstore 8, 2) := by decide +kernel
theorem dW_highPart_20 : decode cW_highPart 20 = .ok (.lload_n 2, 1) := by decide +kernel
theorem dW_highPart_21 : decode cW_highPart 21 = .ok (.bipush 32, 2) := by decide +kernel
theorem dW_highPart_23 : decode cW_highPart 23 = .ok (.lushr, 1) := by decide +kernel
theorem dW_highPart_24 : decode cW_highPart 24 = .ok (.lstore 10, 2) := by decide +kernel
theorem dW_highPart_26 : decode cW_highPart 26 = .ok (.lload 6, 2) := by decide +kernel
theorem dW_highPart_28 : decode cW_highPart 28 = .ok (.lload 8, 2) := by decide +kernel
theorem dW_highPart_30 : decode cW_highPart 30 = .ok (.lmul, 1) := by decide +kernel
theorem dW_highPart_31 : decode cW_highPart 31 = .ok (.lload 4, 2) := by decide +kernel
theorem dW_highPart_33 : decode cW_highPart 33 = .ok (.lload 8, 2) := by decide +kernel
theorem dW_highPart_35 : decode cW_highPart 35 = .ok (.lmul, 1) := by decide +kernel
theorem dW_highPart_36 : decode cW_highPart 36 = .ok (.bipush 32, 2) := by decide +kernel
theorem dW_highPart_38 : decode cW_highPart 38 = .ok (.lushr, 1) := by decide +kernel
theorem dW_highPart_39 : decode cW_highPart 39 = .ok (.ladd, 1) := by decide +kernel
theorem dW_highPart_40 : decode cW_highPart 40 = .ok (.lstore 12, 2) := by decide +kernel
theorem dW_highPart_42 : decode cW_highPart 42 = .ok (.lload 4, 2) := by decide +kernel
theorem dW_highPart_44 : decode cW_highPart 44 = .ok (.lload 10, 2) := by decide +kernel
theorem dW_highPart_46 : decode cW_highPart 46 = .ok (.lmul, 1) := by decide +kernel
theorem dW_highPart_47 : decode cW_highPart 47 = .ok (.lload 12, 2) := by decide +kernel
theorem dW_highPart_49 : decode cW_highPart 49 = .ok (.ldc2_w 21, 3) := by decide +kernel
theorem dW_highPart_52 : decode cW_highPart 52 = .ok (.land, 1) := by decide +kernel
theorem dW_highPart_53 : decode cW_highPart 53 = .ok (.ladd, 1) := by decide +kernel
theorem dW_highPart_54 : decode cW_highPart 54 = .ok (.lstore 14, 2) := by decide +kernel
theorem dW_highPart_56 : decode cW_highPart 56 = .ok (.lload 6, 2) := by decide +kernel
theorem dW_highPart_58 : decode cW_highPart 58 = .ok (.lload 10, 2) := by decide +kernel
theorem dW_highPart_60 : decode cW_highPart 60 = .ok (.lmul, 1) := by decide +kernel
theorem dW_highPart_61 : decode cW_highPart 61 = .ok (.lload 12, 2) := by decide +kernel
theorem dW_highPart_63 : decode cW_highPart 63 = .ok (.bipush 32, 2) := by decide +kernel
theorem dW_highPart_65 : decode cW_highPart 65 = .ok (.lushr, 1) := by decide +kernel
theorem dW_highPart_66 : decode cW_highPart 66 = .ok (.ladd, 1) := by decide +kernel
theorem dW_highPart_67 : decode cW_highPart 67 = .ok (.lload 14, 2) := by decide +kernel
theorem dW_highPart_69 : decode cW_highPart 69 = .ok (.bipush 32, 2) := by decide +kernel
theorem dW_highPart_71 : decode cW_highPart 71 = .ok (.lushr, 1) := by decide +kernel
theorem dW_highPart_72 : decode cW_highPart 72 = .ok (.ladd, 1) := by decide +kernel
theorem dW_highPart_73 : decode cW_highPart 73 = .ok (.lreturn, 1) := by decide +kernel
def f_W_highPart (x0 : Int64) (x2 : Int64) : Option Int64 := (some (x0 &&& (4294967295 : Int64))).bind fun u1 => (some ((x0.toUInt64 >>> ((32 : Int32).toInt64.toUInt64 &&& Int64.toUInt64 63)).toInt64)).bind fun u2 => (some (x2 &&& (4294967295 : Int64))).bind fun u3 => (some ((x2.toUInt64 >>> ((32 : Int32).toInt64.toUInt64 &&& Int64.toUInt64 63)).toInt64)).bind fun u4 => (some ((u2 * u3) + (((u1 * u3).toUInt64 >>> ((32 : Int32).toInt64.toUInt64 &&& Int64.toUInt64 63)).toInt64))).bind fun u5 => (some ((u1 * u4) + (u5 &&& (4294967295 : Int64)))).bind fun u6 => some (((u2 * u4) + ((u5.toUInt64 >>> ((32 : Int32).toInt64.toUInt64 &&& Int64.toUInt64 63)).toInt64)) + ((u6.toUInt64 >>> ((32 : Int32).toInt64.toUInt64 &&& Int64.toUInt64 63)).toInt64))
set_option maxHeartbeats 4000000 in
set_option maxRecDepth 100000 in
theorem k_W_highPart (l : Launch) (dC : Nat → ClassId) (dI : Nat → Nat → Nat) (cL cI : ClassId) (x0 : Int64) (x2 : Int64) (r : Int64) (h : f_W_highPart x0 x2 = some r) : Met l yW_highPart wsW_highPart ({ frames := 0, cells := 0, slots := 0, locals := 0 }) (rd_Pc [.long x0, .long x2] (fun _ => True) (dC, dI) cls3 [(cL, .long), (cI, .int)]) (vp_Sl (fun z => z = r)) 0 0 (fun _ => False) := by
  refine Met.ofW (cc := cW_highPart) (maxL := 16) (ret := (some .long)) (by decide) rfl ?_
  intro p e s m args below meth c s₁ B hml hv
  obtain ⟨rfl, hF, hK⟩ := hv
  have hx := B.exec
  have hb := B.bytes
  have hr := B.returns
  have hw : ∀ w ∈ wG, w.before ([.long x0, .long x2] : List Value).toArray s = true := fun w hq => atoms_spec (ws := wsW_highPart) B.pre w (List.mem_cons_of_mem _ hq)
  have hown : s.vm.findClass R_W = some m.cls := findClass_of_methodNamed B.named
  have hlocks := B.notSynchronized
  have hl := lv_entry ([.long x0, .long x2] : List Value) (n := 16) (Nat.le_of_ble_eq_true rfl)
  rw [lg_entry_eq]
  generalize (lg_sl ([.long x0, .long x2] : List Value) ++ List.replicate (16 - (lg_sl ([.long x0, .long x2] : List Value)).length) Slot.unset).toArray = ls at hl ⊢
  have hl : lv_has ls 16 [(0, .long x0), (2, .long x2)] := hl
  unfold f_W_highPart at h
  refine lv_lload_n hx hb dW_highPart_0 rfl (lv_at hl 0 rfl) ?_
  refine lv_ldc2 (v := 4294967295) hx hb hown (hw _ w_343) dW_highPart_1 ?_
  refine lv_land hx hb dW_highPart_4 ?_
  obtain ⟨u1, hu1, h⟩ := ob_some h
  rw [Option.some.inj hu1]
  refine lv_lstore (lv' := [(4, .long u1), (0, .long x0), (2, .long x2)]) hx hb dW_highPart_5 hl (by decide) rfl (fun ls hl => ?_)
  refine lv_lload_n hx hb dW_highPart_7 rfl (lv_at hl 1 rfl) ?_
  refine lv_bipush (v := 32) hx hb dW_highPart_8 (by decide) ?_
  refine lv_lushr hx hb dW_highPart_10 rfl ?_
  obtain ⟨u2, hu2, h⟩ := ob_some h
  rw [Option.some.inj hu2]
  refine lv_lstore (lv' := [(6, .long u2), (4, .long u1), (0, .long x0), (2, .long x2)]) hx hb dW_highPart_11 hl (by decide) rfl (fun ls hl => ?_)
  refine lv_lload_n hx hb dW_highPart_13 rfl (lv_at hl 3 rfl) ?_
  refine lv_ldc2 (v := 4294967295) hx hb hown (hw _ w_343) dW_highPart_14 ?_
  refine lv_land hx hb dW_highPart_17 ?_
  obtain ⟨u3, hu3, h⟩ := ob_some h
  rw [Option.some.inj hu3]
  refine lv_lstore (lv' := [(8, .long u3), (6, .long u2), (4, .long u1), (0, .long x0), (2, .long x2)]) hx hb dW_highPart_18 hl (by decide) rfl (fun ls hl => ?_)
  refine lv_lload_n hx hb dW_highPart_20 rfl (lv_at hl 4 rfl) ?_
  refine lv_bipush (v := 32) hx hb dW_highPart_21 (by decide) ?_
  refine lv_lushr hx hb dW_highPart_23 rfl ?_
  obtain ⟨u4, hu4, h⟩ := ob_some h
  rw [Option.some.inj hu4]
  refine lv_lstore (lv' := [(10, .long u4), (8, .long u3), (6, .long u2), (4, .long u1), (0, .long x0), (2, .long x2)]) hx hb dW_highPart_24 hl (by decide) rfl (fun ls hl => ?_)
  refine lv_lload hx hb dW_highPart_26 (lv_at hl 2 rfl) ?_
  refine lv_lload hx hb dW_highPart_28 (lv_at hl 1 rfl) ?_
  refine lv_lmul hx hb dW_highPart_30 ?_
  refine lv_lload hx hb dW_highPart_31 (lv_at hl 3 rfl) ?_
  refine lv_lload hx hb dW_highPart_33 (lv_at hl 1 rfl) ?_
  refine lv_lmul hx hb dW_highPart_35 ?_
  refine lv_bipush (v := 32) hx hb dW_highPart_36 (by decide) ?_
  refine lv_lushr hx hb dW_highPart_38 rfl ?_
  refine lv_ladd hx hb dW_highPart_39 ?_
  obtain ⟨u5, hu5, h⟩ := ob_some h
  rw [Option.some.inj hu5]
  refine lv_lstore (lv' := [(12, .long u5), (10, .long u4), (8, .long u3), (6, .long u2), (4, .long u1), (0, .long x0), (2, .long x2)]) hx hb dW_highPart_40 hl (by decide) rfl (fun ls hl => ?_)
  refine lv_lload hx hb dW_highPart_42 (lv_at hl 4 rfl) ?_
  refine lv_lload hx hb dW_highPart_44 (lv_at hl 1 rfl) ?_
  refine lv_lmul hx hb dW_highPart_46 ?_
  refine lv_lload hx hb dW_highPart_47 (lv_at hl 0 rfl) ?_
  refine lv_ldc2 (v := 4294967295) hx hb hown (hw _ w_343) dW_highPart_49 ?_
  refine lv_land hx hb dW_highPart_52 ?_
  refine lv_ladd hx hb dW_highPart_53 ?_
  obtain ⟨u6, hu6, h⟩ := ob_some h
  rw [Option.some.inj hu6]
  refine lv_lstore (lv' := [(14, .long u6), (12, .long u5), (10, .long u4), (8, .long u3), (6, .long u2), (4, .long u1), (0, .long x0), (2, .long x2)]) hx hb dW_highPart_54 hl (by decide) rfl (fun ls hl => ?_)
  refine lv_lload hx hb dW_highPart_56 (lv_at hl 4 rfl) ?_
  refine lv_lload hx hb dW_highPart_58 (lv_at hl 2 rfl) ?_
  refine lv_lmul hx hb dW_highPart_60 ?_
  refine lv_lload hx hb dW_highPart_61 (lv_at hl 1 rfl) ?_
  refine lv_bipush (v := 32) hx hb dW_highPart_63 (by decide) ?_
  refine lv_lushr hx hb dW_highPart_65 rfl ?_
  refine lv_ladd hx hb dW_highPart_66 ?_
  refine lv_lload hx hb dW_highPart_67 (lv_at hl 0 rfl) ?_
  refine lv_bipush (v := 32) hx hb dW_highPart_69 (by decide) ?_
  refine lv_lushr hx hb dW_highPart_71 rfl ?_
  refine lv_ladd hx hb dW_highPart_72 ?_
  exact W.lret hx hb hr (fun t ht hW => ⟨_, rfl, Option.some.inj h, ht⟩) nil_locs dW_highPart_73
theorem dW_compareProducts_0 : decode cW_compareProducts 0 = .ok (.lload_n 0, 1) := by decide +kernel
theorem dW_compareProducts_1 : decode cW_compareProducts 1 = .ok (.lload_n 2, 1) := by decide +kernel
theorem dW_compareProducts_2 : decode cW_compareProducts 2 = .ok (.invokestatic 7, 3) := by decide +kernel
theorem dW_compareProducts_5 : decode cW_compareProducts 5 = .ok (.lload 4, 2) := by decide +kernel
theorem dW_compareProducts_7 : decode cW_compareProducts 7 = .ok (.lload 6, 2) := by decide +kernel
theorem dW_compareProducts_9 : decode cW_compareProducts 9 = .ok (.invokestatic 7, 3) := by decide +kernel
theorem dW_compareProducts_12 : decode cW_compareProducts 12 = .ok (.invokestatic 13, 3) := by decide +kernel
theorem dW_compareProducts_15 : decode cW_compareProducts 15 = .ok (.istore 8, 2) := by decide +kernel
theorem dW_compareProducts_17 : decode cW_compareProducts 17 = .ok (.iload 8, 2) := by decide +kernel
theorem dW_compareProducts_19 : decode cW_compareProducts 19 = .ok (.ifCond .eq 6, 3) := by decide +kernel
theorem dW_compareProducts_22 : decode cW_compareProducts 22 = .ok (.iload 8, 2) := by decide +kernel
theorem dW_compareProducts_24 : decode cW_compareProducts 24 = .ok (.ireturn, 1) := by decide +kernel
theorem dW_compareProducts_25 : decode cW_compareProducts 25 = .ok (.lload_n 0, 1) := by decide +kernel
theorem dW_compareProducts_26 : decode cW_compareProducts 26 = .ok (.lload_n 2, 1) := by decide +kernel
theorem dW_compareProducts_27 : decode cW_compareProducts 27 = .ok (.lmul, 1) := by decide +kernel
theorem dW_compareProducts_28 : decode cW_compareProducts 28 = .ok (.ldc2_w 19, 3) := by decide +kernel
theorem dW_compareProducts_31 : decode cW_compareProducts 31 = .ok (.ladd, 1) := by decide +kernel
theorem dW_compareProducts_32 : decode cW_compareProducts 32 = .ok (.lload 4, 2) := by decide +kernel
theorem dW_compareProducts_34 : decode cW_compareProducts 34 = .ok (.lload 6, 2) := by decide +kernel
theorem dW_compareProducts_36 : decode cW_compareProducts 36 = .ok (.lmul, 1) := by decide +kernel
theorem dW_compareProducts_37 : decode cW_compareProducts 37 = .ok (.ldc2_w 19, 3) := by decide +kernel
theorem dW_compareProducts_40 : decode cW_compareProducts 40 = .ok (.ladd, 1) := by decide +kernel
theorem dW_compareProducts_41 : decode cW_compareProducts 41 = .ok (.invokestatic 13, 3) := by decide +kernel
theorem dW_compareProducts_44 : decode cW_compareProducts 44 = .ok (.ireturn, 1) := by decide +kernel
def f_W_compareProducts (x0 : Int64) (x2 : Int64) (x4 : Int64) (x6 : Int64) : Option Int32 := (f_W_highPart x0 x2).bind fun u1 => (f_W_highPart x4 x6).bind fun u2 => (f_JL_compare_JJ u1 u2).bind fun u3 => (if u3 = 0 then (f_JL_compare_JJ ((x0 * x2) + (-9223372036854775808 : Int64)) ((x4 * x6) + (-9223372036854775808 : Int64))).bind fun u5 => some u5 else some u3)
set_option maxHeartbeats 4000000 in
set_option maxRecDepth 100000 in
theorem k_W_compareProducts (l : Launch) (dC : Nat → ClassId) (dI : Nat → Nat → Nat) (cL cI : ClassId) (x0 : Int64) (x2 : Int64) (x4 : Int64) (x6 : Int64) (r : Int32) (h : f_W_compareProducts x0 x2 x4 x6 = some r) : Met l yW_compareProducts wsW_compareProducts ({ frames := 1, cells := 0, slots := 0, locals := 35 }) (rd_Pc [.long x0, .long x2, .long x4, .long x6] (fun _ => True) (dC, dI) cls3 [(cL, .long), (cI, .int)]) (vp_Si (fun z => z = r)) 0 0 (fun _ => False) := by
  refine Met.ofW (cc := cW_compareProducts) (maxL := 9) (ret := (some .int)) (by decide) rfl ?_
  intro p e s m args below meth c s₁ B hml hv
  obtain ⟨rfl, hF, hK⟩ := hv
  have hx := B.exec
  have hb := B.bytes
  have hr := B.returns
  have hw : ∀ w ∈ wG, w.before ([.long x0, .long x2, .long x4, .long x6] : List Value).toArray s = true := fun w hq => atoms_spec (ws := wsW_compareProducts) B.pre w (List.mem_cons_of_mem _ hq)
  have hown : s.vm.findClass R_W = some m.cls := findClass_of_methodNamed B.named
  have hlocks := B.notSynchronized
  have hl := lv_entry ([.long x0, .long x2, .long x4, .long x6] : List Value) (n := 9) (Nat.le_of_ble_eq_true rfl)
  rw [lg_entry_eq]
  generalize (lg_sl ([.long x0, .long x2, .long x4, .long x6] : List Value) ++ List.replicate (9 - (lg_sl ([.long x0, .long x2, .long x4, .long x6] : List Value)).length) Slot.unset).toArray = ls at hl ⊢
  have hl : lv_has ls 9 [(0, .long x0), (2, .long x2), (4, .long x4), (6, .long x6)] := hl
  unfold f_W_compareProducts at h
  refine lv_lload_n hx hb dW_compareProducts_0 rfl (lv_at hl 0 rfl) ?_
  refine lv_lload_n hx hb dW_compareProducts_1 rfl (lv_at hl 1 rfl) ?_
  obtain ⟨u1, hu1, h⟩ := ob_some h
  refine vp_callSl (va_Run.run (va_runS (As := [.long x0, .long x2]) (rest := []) ⟨hx, hb, hml, hown, hw⟩ (k_W_highPart l dC dI cL cI x0 x2 u1 hu1) (va_cwS 2 hw (gS w_340 w_341 w_13 w_342) rfl rfl rfl (by decide +kernel) ⟨Nat.le_of_ble_eq_true rfl, Nat.le_of_ble_eq_true rfl⟩) ⟨rd_blind, rd_pre trivial hK⟩ rfl rfl hl.1 rfl (lv_room (Nat.le_of_ble_eq_true rfl)) dW_compareProducts_2 ⟨Nat.le_of_ble_eq_true rfl, Nat.le_of_ble_eq_true rfl⟩)) (fun z hz => ?_)
  rw [hz]; clear hz
  refine lv_lload hx hb dW_compareProducts_5 (lv_at hl 2 rfl) ?_
  refine lv_lload hx hb dW_compareProducts_7 (lv_at hl 3 rfl) ?_
  obtain ⟨u2, hu2, h⟩ := ob_some h
  refine vp_callSl (va_Run.run (va_runS (As := [.long x4, .long x6]) (rest := [.long u1]) ⟨hx, hb, hml, hown, hw⟩ (k_W_highPart l dC dI cL cI x4 x6 u2 hu2) (va_cwS 2 hw (gS w_340 w_341 w_13 w_342) rfl rfl rfl (by decide +kernel) ⟨Nat.le_of_ble_eq_true rfl, Nat.le_of_ble_eq_true rfl⟩) ⟨rd_blind, rd_pre trivial hK⟩ rfl rfl hl.1 rfl (lv_room (Nat.le_of_ble_eq_true rfl)) dW_compareProducts_9 ⟨Nat.le_of_ble_eq_true rfl, Nat.le_of_ble_eq_true rfl⟩)) (fun z hz => ?_)
  rw [hz]; clear hz
  obtain ⟨u3, hu3, h⟩ := ob_some h
  refine vp_callSi (va_Run.run (va_runS (As := [.long u1, .long u2]) (rest := []) ⟨hx, hb, hml, hown, hw⟩ (k_JL_compare_JJ l dC dI cL cI u1 u2 u3 hu3) (va_cwS 2 hw (gS w_344 w_332 w_12 w_333) rfl rfl rfl (by decide +kernel) ⟨Nat.le_of_ble_eq_true rfl, Nat.le_of_ble_eq_true rfl⟩) ⟨rd_blind, rd_pre trivial hK⟩ rfl rfl hl.1 rfl (lv_room (Nat.le_of_ble_eq_true rfl)) dW_compareProducts_12 ⟨Nat.le_of_ble_eq_true rfl, Nat.le_of_ble_eq_true rfl⟩)) (fun z hz => ?_)
  rw [hz]; clear hz
  refine lv_istore (lv' := [(8, .int u3), (0, .long x0), (2, .long x2), (4, .long x4), (6, .long x6)]) hx hb dW_compareProducts_15 hl (by decide) rfl (fun ls hl => ?_)
  refine lv_iload hx hb dW_compareProducts_17 (lv_at hl 0 rfl) ?_
  refine lv_if_eq (tgt := 25) hx hb dW_compareProducts_19 (by decide) (fun c4 => ?_) (fun c4 => ?_)
  · have h := it_t c4 h
    refine lv_lload_n hx hb dW_compareProducts_25 rfl (lv_at hl 1 rfl) ?_
    refine lv_lload_n hx hb dW_compareProducts_26 rfl (lv_at hl 2 rfl) ?_
    refine lv_lmul hx hb dW_compareProducts_27 ?_
    refine lv_ldc2 (v := (-9223372036854775808)) hx hb hown (hw _ w_345) dW_compareProducts_28 ?_
    refine lv_ladd hx hb dW_compareProducts_31 ?_
    refine lv_lload hx hb dW_compareProducts_32 (lv_at hl 3 rfl) ?_
    refine lv_lload hx hb dW_compareProducts_34 (lv_at hl 4 rfl) ?_
    refine lv_lmul hx hb dW_compareProducts_36 ?_
    refine lv_ldc2 (v := (-9223372036854775808)) hx hb hown (hw _ w_345) dW_compareProducts_37 ?_
    refine lv_ladd hx hb dW_compareProducts_40 ?_
    obtain ⟨u5, hu5, h⟩ := ob_some h
    refine vp_callSi (va_Run.run (va_runS (As := [.long ((x0 * x2) + (-9223372036854775808 : Int64)), .long ((x4 * x6) + (-9223372036854775808 : Int64))]) (rest := []) ⟨hx, hb, hml, hown, hw⟩ (k_JL_compare_JJ l dC dI cL cI ((x0 * x2) + (-9223372036854775808 : Int64)) ((x4 * x6) + (-9223372036854775808 : Int64)) u5 hu5) (va_cwS 2 hw (gS w_344 w_332 w_12 w_333) rfl rfl rfl (by decide +kernel) ⟨Nat.le_of_ble_eq_true rfl, Nat.le_of_ble_eq_true rfl⟩) ⟨rd_blind, rd_pre trivial hK⟩ rfl rfl hl.1 rfl (lv_room (Nat.le_of_ble_eq_true rfl)) dW_compareProducts_41 ⟨Nat.le_of_ble_eq_true rfl, Nat.le_of_ble_eq_true rfl⟩)) (fun z hz => ?_)
    rw [hz]; clear hz
    exact W.iret hx hb hr (fun t ht hW => ⟨_, rfl, Option.some.inj h, ht⟩) nil_locs dW_compareProducts_44
  · have h := it_f c4 h
    refine lv_iload hx hb dW_compareProducts_22 (lv_at hl 0 rfl) ?_
    exact W.iret hx hb hr (fun t ht hW => ⟨_, rfl, Option.some.inj h, ht⟩) nil_locs dW_compareProducts_24
end
section
/-! Shape: reading methods, laid by program -/
theorem dS_cross_0 : decode cS_cross 0 = .ok (.aload_n 0, 1) := by decide +kernel
theorem dS_cross_1 : decode cS_cross 1 = .ok (.getfield 30, 3) := by decide +kernel
theorem dS_cross_4 : decode cS_cross 4 = .ok (.iload_n 1, 1) := by decide +kernel
theorem dS_cross_5 : decode cS_cross 5 = .ok (.iaload, 1) := by decide +kernel
theorem dS_cross_6 : decode cS_cross 6 = .ok (.istore 6, 2) := by decide +kernel
theorem dS_cross_8 : decode cS_cross 8 = .ok (.aload_n 0, 1) := by decide +kernel
theorem dS_cross_9 : decode cS_cross 9 = .ok (.getfield 23, 3) := by decide +kernel
theorem dS_cross_12 : decode cS_cross 12 = .ok (.iload 6, 2) := by decide +kernel
theorem dS_cross_14 : decode cS_cross 14 = .ok (.laload, 1) := by decide +kernel
theorem dS_cross_15 : decode cS_cross 15 = .ok (.aload_n 0, 1) := by decide +kernel
theorem dS_cross_16 : decode cS_cross 16 = .ok (.getfield 23, 3) := by decide +kernel
theorem dS_cross_19 : decode cS_cross 19 = .ok (.iload_n 1, 1) := by decide +kernel
theorem dS_cross_20 : decode cS_cross 20 = .ok (.laload, 1) := by decide +kernel
theorem dS_cross_21 : decode cS_cross 21 = .ok (.lsub, 1) := by decide +kernel
theorem dS_cross_22 : decode cS_cross 22 = .ok (.lload 4, 2) := by decide +kernel
theorem dS_cross_24 : decode cS_cross 24 = .ok (.aload_n 0, 1) := by decide +kernel
theorem dS_cross_25 : decode cS_cross 25 = .ok (.getfield 27, 3) := by decide +kernel
theorem dS_cross_28 : decode cS_cross 28 = .ok (.iload_n 1, 1) := by decide +kernel
theorem dS_cross_29 : decode cS_cross 29 = .ok (.laload, 1) := by decide +kernel
theorem dS_cross_30 : decode cS_cross 30 = .ok (.lsub, 1) := by decide +kernel
theorem dS_cross_31 : decode cS_cross 31 = .ok (.lmul, 1) := by decide +kernel
theorem dS_cross_32 : decode cS_cross 32 = .ok (.aload_n 0, 1) := by decide +kernel
theorem dS_cross_33 : decode cS_cross 33 = .ok (.getfield 27, 3) := by decide +kernel
theorem dS_cross_36 : decode cS_cross 36 = .ok (.iload 6, 2) := by decide +kernel
theorem dS_cross_38 : decode cS_cross 38 = .ok (.laload, 1) := by decide +kernel
theorem dS_cross_39 : decode cS_cross 39 = .ok (.aload_n 0, 1) := by decide +kernel
theorem dS_cross_40 : decode cS_cross 40 = .ok (.getfield 27, 3) := by decide +kernel
theorem dS_cross_43 : decode cS_cross 43 = .ok (.iload_n 1, 1) := by decide +kernel
theorem dS_cross_44 : decode cS_cross 44 = .ok (.laload, 1) := by decide +kernel
theorem dS_cross_45 : decode cS_cross 45 = .ok (.lsub, 1) := by decide +kernel
theorem dS_cross_46 : decode cS_cross 46 = .ok (.lload_n 2, 1) := by decide +kernel
theorem dS_cross_47 : decode cS_cross 47 = .ok (.aload_n 0, 1) := by decide +kernel
theorem dS_cross_48 : decode cS_cross 48 = .ok (.getfield 23, 3) := by decide +kernel
theorem dS_cross_51 : decode cS_cross 51 = .ok (.iload_n 1, 1) := by decide +kernel
theorem dS_cross_52 : decode cS_cross 52 = .ok (.laload, 1) := by decide +kernel
theorem dS_cross_53 : decode cS_cross 53 = .ok (.lsub, 1) := by decide +kernel
theorem dS_cross_54 : decode cS_cross 54 = .ok (.lmul, 1) := by decide +kernel
theorem dS_cross_55 : decode cS_cross 55 = .ok (.lsub, 1) := by decide +kernel
theorem dS_cross_56 : decode cS_cross 56 = .ok (.lreturn, 1) := by decide +kernel
def f_S_cross (v : SV) (x1 : Int32) (x2 : Int64) (x4 : Int64) : Option Int64 := (ld 48 (sE v) x1).bind fun u1 => (ld 48 (sX v) u1).bind fun u2 => (ld 48 (sX v) x1).bind fun u3 => (ld 48 (sY v) x1).bind fun u4 => (ld 48 (sY v) u1).bind fun u5 => (ld 48 (sY v) x1).bind fun u6 => (ld 48 (sX v) x1).bind fun u7 => some (((u2 - u3) * (x4 - u4)) - ((u5 - u6) * (x2 - u7)))
set_option maxHeartbeats 4000000 in
set_option maxRecDepth 100000 in
theorem k_S_cross (l : Launch) (dC : Nat → ClassId) (dI : Nat → Nat → Nat) (cL cI : ClassId) (a ax ay ae : Nat) (v : SV) (x1 : Int32) (x2 : Int64) (x4 : Int64) (r : Int64) (h : f_S_cross v x1 x2 x4 = some r) : Met l yS_cross wsS_cross ({ frames := 0, cells := 0, slots := 0, locals := 0 }) (rd_Pc [.ref a, .int x1, .long x2, .long x4] (fun H => va_P (dC, dI) cls3 (shW cL cI a ax ay ae v) H) (dC, dI) cls3 [(cL, .long), (cI, .int)]) (vp_Sl (fun z => z = r)) 0 0 (fun _ => False) := by
  refine Met.ofW (cc := cS_cross) (maxL := 7) (ret := (some .long)) (by decide) rfl ?_
  intro p e s m args below meth c s₁ B hml hv
  obtain ⟨rfl, hPa, hK⟩ := hv
  have hx := B.exec
  have hb := B.bytes
  have hr := B.returns
  have hw : ∀ w ∈ wG, w.before ([.ref a, .int x1, .long x2, .long x4] : List Value).toArray s = true := fun w hq => atoms_spec (ws := wsS_cross) B.pre w (List.mem_cons_of_mem _ hq)
  have hown : s.vm.findClass R_S = some m.cls := findClass_of_methodNamed B.named
  have hlocks := B.notSynchronized
  have hl := lv_entry ([.ref a, .int x1, .long x2, .long x4] : List Value) (n := 7) (Nat.le_of_ble_eq_true rfl)
  rw [lg_entry_eq]
  generalize (lg_sl ([.ref a, .int x1, .long x2, .long x4] : List Value) ++ List.replicate (7 - (lg_sl ([.ref a, .int x1, .long x2, .long x4] : List Value)).length) Slot.unset).toArray = ls at hl ⊢
  have hl : lv_has ls 7 [(0, .ref a), (1, .int x1), (2, .long x2), (4, .long x4)] := hl
  unfold f_S_cross at h
  refine lv_aload_n hx hb dS_cross_0 rfl (lv_at hl 0 rfl) ?_
  refine va_get (D := (dC, dI)) (ci := 0) (v := .ref ae) (C := R_S) (T := T_S) (N := 8) hx hb hw in_S hown hK hPa 0 rfl rfl 5 (by decide) (hw _ w_50) (fun _ h9 => h9) rfl dS_cross_1 ?_
  refine lv_iload_n hx hb dS_cross_4 rfl (lv_at hl 1 rfl) ?_
  obtain ⟨u1, hu1, h⟩ := ob_some h
  obtain ⟨hiu1, eu1⟩ := ld_of hu1
  refine va_iald hx hb hK hPa 3 1 rfl rfl hiu1 dS_cross_5 ?_
  rw [eu1]
  refine lv_istore (lv' := [(6, .int u1), (0, .ref a), (1, .int x1), (2, .long x2), (4, .long x4)]) hx hb dS_cross_6 hl (by decide) rfl (fun ls hl => ?_)
  refine lv_aload_n hx hb dS_cross_8 rfl (lv_at hl 1 rfl) ?_
  refine va_get (D := (dC, dI)) (ci := 0) (v := .ref ax) (C := R_S) (T := T_S) (N := 8) hx hb hw in_S hown hK hPa 0 rfl rfl 3 (by decide) (hw _ w_46) (fun _ h9 => h9) rfl dS_cross_9 ?_
  refine lv_iload hx hb dS_cross_12 (lv_at hl 0 rfl) ?_
  obtain ⟨u2, hu2, h⟩ := ob_some h
  obtain ⟨hiu2, eu2⟩ := ld_of hu2
  refine va_lald hx hb hK hPa 1 0 rfl rfl hiu2 dS_cross_14 ?_
  rw [eu2]
  refine lv_aload_n hx hb dS_cross_15 rfl (lv_at hl 1 rfl) ?_
  refine va_get (D := (dC, dI)) (ci := 0) (v := .ref ax) (C := R_S) (T := T_S) (N := 8) hx hb hw in_S hown hK hPa 0 rfl rfl 3 (by decide) (hw _ w_46) (fun _ h9 => h9) rfl dS_cross_16 ?_
  refine lv_iload_n hx hb dS_cross_19 rfl (lv_at hl 2 rfl) ?_
  obtain ⟨u3, hu3, h⟩ := ob_some h
  obtain ⟨hiu3, eu3⟩ := ld_of hu3
  refine va_lald hx hb hK hPa 1 0 rfl rfl hiu3 dS_cross_20 ?_
  rw [eu3]
  refine lv_lsub hx hb dS_cross_21 ?_
  refine lv_lload hx hb dS_cross_22 (lv_at hl 4 rfl) ?_
  refine lv_aload_n hx hb dS_cross_24 rfl (lv_at hl 1 rfl) ?_
  refine va_get (D := (dC, dI)) (ci := 0) (v := .ref ay) (C := R_S) (T := T_S) (N := 8) hx hb hw in_S hown hK hPa 0 rfl rfl 4 (by decide) (hw _ w_48) (fun _ h9 => h9) rfl dS_cross_25 ?_
  refine lv_iload_n hx hb dS_cross_28 rfl (lv_at hl 2 rfl) ?_
  obtain ⟨u4, hu4, h⟩ := ob_some h
  obtain ⟨hiu4, eu4⟩ := ld_of hu4
  refine va_lald hx hb hK hPa 2 0 rfl rfl hiu4 dS_cross_29 ?_
  rw [eu4]
  refine lv_lsub hx hb dS_cross_30 ?_
  refine lv_lmul hx hb dS_cross_31 ?_
  refine lv_aload_n hx hb dS_cross_32 rfl (lv_at hl 1 rfl) ?_
  refine va_get (D := (dC, dI)) (ci := 0) (v := .ref ay) (C := R_S) (T := T_S) (N := 8) hx hb hw in_S hown hK hPa 0 rfl rfl 4 (by decide) (hw _ w_48) (fun _ h9 => h9) rfl dS_cross_33 ?_
  refine lv_iload hx hb dS_cross_36 (lv_at hl 0 rfl) ?_
  obtain ⟨u5, hu5, h⟩ := ob_some h
  obtain ⟨hiu5, eu5⟩ := ld_of hu5
  refine va_lald hx hb hK hPa 2 0 rfl rfl hiu5 dS_cross_38 ?_
  rw [eu5]
  refine lv_aload_n hx hb dS_cross_39 rfl (lv_at hl 1 rfl) ?_
  refine va_get (D := (dC, dI)) (ci := 0) (v := .ref ay) (C := R_S) (T := T_S) (N := 8) hx hb hw in_S hown hK hPa 0 rfl rfl 4 (by decide) (hw _ w_48) (fun _ h9 => h9) rfl dS_cross_40 ?_
  refine lv_iload_n hx hb dS_cross_43 rfl (lv_at hl 2 rfl) ?_
  obtain ⟨u6, hu6, h⟩ := ob_some h
  obtain ⟨hiu6, eu6⟩ := ld_of hu6
  refine va_lald hx hb hK hPa 2 0 rfl rfl hiu6 dS_cross_44 ?_
  rw [eu6]
  refine lv_lsub hx hb dS_cross_45 ?_
  refine lv_lload_n hx hb dS_cross_46 rfl (lv_at hl 3 rfl) ?_
  refine lv_aload_n hx hb dS_cross_47 rfl (lv_at hl 1 rfl) ?_
  refine va_get (D := (dC, dI)) (ci := 0) (v := .ref ax) (C := R_S) (T := T_S) (N := 8) hx hb hw in_S hown hK hPa 0 rfl rfl 3 (by decide) (hw _ w_46) (fun _ h9 => h9) rfl dS_cross_48 ?_
  refine lv_iload_n hx hb dS_cross_51 rfl (lv_at hl 2 rfl) ?_
  obtain ⟨u7, hu7, h⟩ := ob_some h
  obtain ⟨hiu7, eu7⟩ := ld_of hu7
  refine va_lald hx hb hK hPa 1 0 rfl rfl hiu7 dS_cross_52 ?_
  rw [eu7]
  refine lv_lsub hx hb dS_cross_53 ?_
  refine lv_lmul hx hb dS_cross_54 ?_
  refine lv_lsub hx hb dS_cross_55 ?_
  exact W.lret hx hb hr (fun t ht hW => ⟨_, rfl, Option.some.inj h, ht⟩) nil_locs dS_cross_56
theorem dS_squareTo_0 : decode cS_squareTo 0 = .ok (.lload_n 2, 1) := by decide +kernel
theorem dS_squareTo_1 : decode cS_squareTo 1 = .ok (.aload_n 0, 1) := by decide +kernel
theorem dS_squareTo_2 : decode cS_squareTo 2 = .ok (.getfield 23, 3) := by decide +kernel
theorem dS_squareTo_5 : decode cS_squareTo 5 = .ok (.iload_n 1, 1) := by decide +kernel
theorem dS_squareTo_6 : decode cS_squareTo 6 = .ok (.laload, 1) := by decide +kernel
theorem dS_squareTo_7 : decode cS_squareTo 7 = .ok (.lsub, 1) := by decide +kernel
theorem dS_squareTo_8 : decode cS_squareTo 8 = .ok (.lload_n 2, 1) := by decide +kernel
theorem dS_squareTo_9 : decode cS_squareTo 9 = .ok (.aload_n 0, 1) := by decide +kernel
theorem dS_squareTo_10 : decode cS_squareTo 10 = .ok (.getfield 23, 3) := by decide +kernel
theorem dS_squareTo_13 : decode cS_squareTo 13 = .ok (.iload_n 1, 1) := by decide +kernel
theorem dS_squareTo_14 : decode cS_squareTo 14 = .ok (.laload, 1) := by decide +kernel
theorem dS_squareTo_15 : decode cS_squareTo 15 = .ok (.lsub, 1) := by decide +kernel
theorem dS_squareTo_16 : decode cS_squareTo 16 = .ok (.lmul, 1) := by decide +kernel
theorem dS_squareTo_17 : decode cS_squareTo 17 = .ok (.lload 4, 2) := by decide +kernel
theorem dS_squareTo_19 : decode cS_squareTo 19 = .ok (.aload_n 0, 1) := by decide +kernel
theorem dS_squareTo_20 : decode cS_squareTo 20 = .ok (.getfield 27, 3) := by decide +kernel
theorem dS_squareTo_23 : decode cS_squareTo 23 = .ok (.iload_n 1, 1) := by decide +kernel
theorem dS_squareTo_24 : decode cS_squareTo 24 = .ok (.laload, 1) := by decide +kernel
theorem dS_squareTo_25 : decode cS_squareTo 25 = .ok (.lsub, 1) := by decide +kernel
theorem dS_squareTo_26 : decode cS_squareTo 26 = .ok (.lload 4, 2) := by decide +kernel
theorem dS_squareTo_28 : decode cS_squareTo 28 = .ok (.aload_n 0, 1) := by decide +kernel
theorem dS_squareTo_29 : decode cS_squareTo 29 = .ok (.getfield 27, 3) := by decide +kernel
theorem dS_squareTo_32 : decode cS_squareTo 32 = .ok (.iload_n 1, 1) := by decide +kernel
theorem dS_squareTo_33 : decode cS_squareTo 33 = .ok (.laload, 1) := by decide +kernel
theorem dS_squareTo_34 : decode cS_squareTo 34 = .ok (.lsub, 1) := by decide +kernel
theorem dS_squareTo_35 : decode cS_squareTo 35 = .ok (.lmul, 1) := by decide +kernel
theorem dS_squareTo_36 : decode cS_squareTo 36 = .ok (.ladd, 1) := by decide +kernel
theorem dS_squareTo_37 : decode cS_squareTo 37 = .ok (.lreturn, 1) := by decide +kernel
def f_S_squareTo (v : SV) (x1 : Int32) (x2 : Int64) (x4 : Int64) : Option Int64 := (ld 48 (sX v) x1).bind fun u1 => (ld 48 (sX v) x1).bind fun u2 => (ld 48 (sY v) x1).bind fun u3 => (ld 48 (sY v) x1).bind fun u4 => some (((x2 - u1) * (x2 - u2)) + ((x4 - u3) * (x4 - u4)))
set_option maxHeartbeats 4000000 in
set_option maxRecDepth 100000 in
theorem k_S_squareTo (l : Launch) (dC : Nat → ClassId) (dI : Nat → Nat → Nat) (cL cI : ClassId) (a ax ay ae : Nat) (v : SV) (x1 : Int32) (x2 : Int64) (x4 : Int64) (r : Int64) (h : f_S_squareTo v x1 x2 x4 = some r) : Met l yS_squareTo wsS_squareTo ({ frames := 0, cells := 0, slots := 0, locals := 0 }) (rd_Pc [.ref a, .int x1, .long x2, .long x4] (fun H => va_P (dC, dI) cls3 (shW cL cI a ax ay ae v) H) (dC, dI) cls3 [(cL, .long), (cI, .int)]) (vp_Sl (fun z => z = r)) 0 0 (fun _ => False) := by
  refine Met.ofW (cc := cS_squareTo) (maxL := 6) (ret := (some .long)) (by decide) rfl ?_
  intro p e s m args below meth c s₁ B hml hv
  obtain ⟨rfl, hPa, hK⟩ := hv
  have hx := B.exec
  have hb := B.bytes
  have hr := B.returns
  have hw : ∀ w ∈ wG, w.before ([.ref a, .int x1, .long x2, .long x4] : List Value).toArray s = true := fun w hq => atoms_spec (ws := wsS_squareTo) B.pre w (List.mem_cons_of_mem _ hq)
  have hown : s.vm.findClass R_S = some m.cls := findClass_of_methodNamed B.named
  have hlocks := B.notSynchronized
  have hl := lv_entry ([.ref a, .int x1, .long x2, .long x4] : List Value) (n := 6) (Nat.le_of_ble_eq_true rfl)
  rw [lg_entry_eq]
  generalize (lg_sl ([.ref a, .int x1, .long x2, .long x4] : List Value) ++ List.replicate (6 - (lg_sl ([.ref a, .int x1, .long x2, .long x4] : List Value)).length) Slot.unset).toArray = ls at hl ⊢
  have hl : lv_has ls 6 [(0, .ref a), (1, .int x1), (2, .long x2), (4, .long x4)] := hl
  unfold f_S_squareTo at h
  refine lv_lload_n hx hb dS_squareTo_0 rfl (lv_at hl 2 rfl) ?_
  refine lv_aload_n hx hb dS_squareTo_1 rfl (lv_at hl 0 rfl) ?_
  refine va_get (D := (dC, dI)) (ci := 0) (v := .ref ax) (C := R_S) (T := T_S) (N := 8) hx hb hw in_S hown hK hPa 0 rfl rfl 3 (by decide) (hw _ w_46) (fun _ h9 => h9) rfl dS_squareTo_2 ?_
  refine lv_iload_n hx hb dS_squareTo_5 rfl (lv_at hl 1 rfl) ?_
  obtain ⟨u1, hu1, h⟩ := ob_some h
  obtain ⟨hiu1, eu1⟩ := ld_of hu1
  refine va_lald hx hb hK hPa 1 0 rfl rfl hiu1 dS_squareTo_6 ?_
  rw [eu1]
  refine lv_lsub hx hb dS_squareTo_7 ?_
  refine lv_lload_n hx hb dS_squareTo_8 rfl (lv_at hl 2 rfl) ?_
  refine lv_aload_n hx hb dS_squareTo_9 rfl (lv_at hl 0 rfl) ?_
  refine va_get (D := (dC, dI)) (ci := 0) (v := .ref ax) (C := R_S) (T := T_S) (N := 8) hx hb hw in_S hown hK hPa 0 rfl rfl 3 (by decide) (hw _ w_46) (fun _ h9 => h9) rfl dS_squareTo_10 ?_
  refine lv_iload_n hx hb dS_squareTo_13 rfl (lv_at hl 1 rfl) ?_
  obtain ⟨u2, hu2, h⟩ := ob_some h
  obtain ⟨hiu2, eu2⟩ := ld_of hu2
  refine va_lald hx hb hK hPa 1 0 rfl rfl hiu2 dS_squareTo_14 ?_
  rw [eu2]
  refine lv_lsub hx hb dS_squareTo_15 ?_
  refine lv_lmul hx hb dS_squareTo_16 ?_
  refine lv_lload hx hb dS_squareTo_17 (lv_at hl 3 rfl) ?_
  refine lv_aload_n hx hb dS_squareTo_19 rfl (lv_at hl 0 rfl) ?_
  refine va_get (D := (dC, dI)) (ci := 0) (v := .ref ay) (C := R_S) (T := T_S) (N := 8) hx hb hw in_S hown hK hPa 0 rfl rfl 4 (by decide) (hw _ w_48) (fun _ h9 => h9) rfl dS_squareTo_20 ?_
  refine lv_iload_n hx hb dS_squareTo_23 rfl (lv_at hl 1 rfl) ?_
  obtain ⟨u3, hu3, h⟩ := ob_some h
  obtain ⟨hiu3, eu3⟩ := ld_of hu3
  refine va_lald hx hb hK hPa 2 0 rfl rfl hiu3 dS_squareTo_24 ?_
  rw [eu3]
  refine lv_lsub hx hb dS_squareTo_25 ?_
  refine lv_lload hx hb dS_squareTo_26 (lv_at hl 3 rfl) ?_
  refine lv_aload_n hx hb dS_squareTo_28 rfl (lv_at hl 0 rfl) ?_
  refine va_get (D := (dC, dI)) (ci := 0) (v := .ref ay) (C := R_S) (T := T_S) (N := 8) hx hb hw in_S hown hK hPa 0 rfl rfl 4 (by decide) (hw _ w_48) (fun _ h9 => h9) rfl dS_squareTo_29 ?_
  refine lv_iload_n hx hb dS_squareTo_32 rfl (lv_at hl 1 rfl) ?_
  obtain ⟨u4, hu4, h⟩ := ob_some h
  obtain ⟨hiu4, eu4⟩ := ld_of hu4
  refine va_lald hx hb hK hPa 2 0 rfl rfl hiu4 dS_squareTo_33 ?_
  rw [eu4]
  refine lv_lsub hx hb dS_squareTo_34 ?_
  refine lv_lmul hx hb dS_squareTo_35 ?_
  refine lv_ladd hx hb dS_squareTo_36 ?_
  exact W.lret hx hb hr (fun t ht hW => ⟨_, rfl, Option.some.inj h, ht⟩) nil_locs dS_squareTo_37
theorem dS_compareToSide_0 : decode cS_compareToSide 0 = .ok (.aload_n 0, 1) := by decide +kernel
theorem dS_compareToSide_1 : decode cS_compareToSide 1 = .ok (.getfield 30, 3) := by decide +kernel
theorem dS_compareToSide_4 : decode cS_compareToSide 4 = .ok (.iload_n 1, 1) := by decide +kernel
theorem dS_compareToSide_5 : decode cS_compareToSide 5 = .ok (.iaload, 1) := by decide +kernel
theorem dS_compareToSide_6 : decode cS_compareToSide 6 = .ok (.istore 8, 2) := by decide +kernel
theorem dS_compareToSide_8 : decode cS_compareToSide 8 = .ok (.aload_n 0, 1) := by decide +kernel
theorem dS_compareToSide_9 : decode cS_compareToSide 9 = .ok (.getfield 23, 3) := by decide +kernel
theorem dS_compareToSide_12 : decode cS_compareToSide 12 = .ok (.iload 8, 2) := by decide +kernel
theorem dS_compareToSide_14 : decode cS_compareToSide 14 = .ok (.laload, 1) := by decide +kernel
theorem dS_compareToSide_15 : decode cS_compareToSide 15 = .ok (.aload_n 0, 1) := by decide +kernel
theorem dS_compareToSide_16 : decode cS_compareToSide 16 = .ok (.getfield 23, 3) := by decide +kernel
theorem dS_compareToSide_19 : decode cS_compareToSide 19 = .ok (.iload_n 1, 1) := by decide +kernel
theorem dS_compareToSide_20 : decode cS_compareToSide 20 = .ok (.laload, 1) := by decide +kernel
theorem dS_compareToSide_21 : decode cS_compareToSide 21 = .ok (.lsub, 1) := by decide +kernel
theorem dS_compareToSide_22 : decode cS_compareToSide 22 = .ok (.lstore 9, 2) := by decide +kernel
theorem dS_compareToSide_24 : decode cS_compareToSide 24 = .ok (.aload_n 0, 1) := by decide +kernel
theorem dS_compareToSide_25 : decode cS_compareToSide 25 = .ok (.getfield 27, 3) := by decide +kernel
theorem dS_compareToSide_28 : decode cS_compareToSide 28 = .ok (.iload 8, 2) := by decide +kernel
theorem dS_compareToSide_30 : decode cS_compareToSide 30 = .ok (.laload, 1) := by decide +kernel
theorem dS_compareToSide_31 : decode cS_compareToSide 31 = .ok (.aload_n 0, 1) := by decide +kernel
theorem dS_compareToSide_32 : decode cS_compareToSide 32 = .ok (.getfield 27, 3) := by decide +kernel
theorem dS_compareToSide_35 : decode cS_compareToSide 35 = .ok (.iload_n 1, 1) := by decide +kernel
theorem dS_compareToSide_36 : decode cS_compareToSide 36 = .ok (.laload, 1) := by decide +kernel
theorem dS_compareToSide_37 : decode cS_compareToSide 37 = .ok (.lsub, 1) := by decide +kernel
theorem dS_compareToSide_38 : decode cS_compareToSide 38 = .ok (.lstore 11, 2) := by decide +kernel
theorem dS_compareToSide_40 : decode cS_compareToSide 40 = .ok (.lload 9, 2) := by decide +kernel
theorem dS_compareToSide_42 : decode cS_compareToSide 42 = .ok (.lload 9, 2) := by decide +kernel
theorem dS_compareToSide_44 : decode cS_compareToSide 44 = .ok (.lmul, 1) := by decide +kernel
theorem dS_compareToSide_45 : decode cS_compareToSide 45 = .ok (.lload 11, 2) := by decide +kernel
theorem dS_compareToSide_47 : decode cS_compareToSide 47 = .ok (.lload 11, 2) := by decide +kernel
theorem dS_compareToSide_49 : decode cS_compareToSide 49 = .ok (.lmul, 1) := by decide +kernel
theorem dS_compareToSide_50 : decode cS_compareToSide 50 = .ok (.ladd, 1) := by decide +kernel
theorem dS_compareToSide_51 : decode cS_compareToSide 51 = .ok (.lstore 13, 2) := by decide +kernel
theorem dS_compareToSide_53 : decode cS_compareToSide 53 = .ok (.lload 9, 2) := by decide +kernel
theorem dS_compareToSide_55 : decode cS_compareToSide 55 = .ok (.lload_n 2, 1) := by decide +kernel
theorem dS_compareToSide_56 : decode cS_compareToSide 56 = .ok (.aload_n 0, 1) := by decide +kernel
theorem dS_compareToSide_57 : decode cS_compareToSide 57 = .ok (.getfield 23, 3) := by decide +kernel
theorem dS_compareToSide_60 : decode cS_compareToSide 60 = .ok (.iload_n 1, 1) := by decide +kernel
theorem dS_compareToSide_61 : decode cS_compareToSide 61 = .ok (.laload, 1) := by decide +kernel
theorem dS_compareToSide_62 : decode cS_compareToSide 62 = .ok (.lsub, 1) := by decide +kernel
theorem dS_compareToSide_63 : decode cS_compareToSide 63 = .ok (.lmul, 1) := by decide +kernel
theorem dS_compareToSide_64 : decode cS_compareToSide 64 = .ok (.lload 11, 2) := by decide +kernel
theorem dS_compareToSide_66 : decode cS_compareToSide 66 = .ok (.lload 4, 2) := by decide +kernel
theorem dS_compareToSide_68 : decode cS_compareToSide 68 = .ok (.aload_n 0, 1) := by decide +kernel
theorem dS_compareToSide_69 : decode cS_compareToSide 69 = .ok (.getfield 27, 3) := by decide +kernel
theorem dS_compareToSide_72 : decode cS_compareToSide 72 = .ok (.iload_n 1, 1) := by decide +kernel
theorem dS_compareToSide_73 : decode cS_compareToSide 73 = .ok (.laload, 1) := by decide +kernel
theorem dS_compareToSide_74 : decode cS_compareToSide 74 = .ok (.lsub, 1) := by decide +kernel
theorem dS_compareToSide_75 : decode cS_compareToSide 75 = .ok (.lmul, 1) := by decide +kernel
theorem dS_compareToSide_76 : decode cS_compareToSide 76 = .ok (.ladd, 1) := by decide +kernel
theorem dS_compareToSide_77 : decode cS_compareToSide 77 = .ok (.lstore 15, 2) := by decide +kernel
theorem dS_compareToSide_79 : decode cS_compareToSide 79 = .ok (.lload 15, 2) := by decide +kernel
theorem dS_compareToSide_81 : decode cS_compareToSide 81 = .ok (.lconst 0, 1) := by decide +kernel
theorem dS_compareToSide_82 : decode cS_compareToSide 82 = .ok (.lcmp, 1) := by decide +kernel
theorem dS_compareToSide_83 : decode cS_compareToSide 83 = .ok (.ifCond .gt 20, 3) := by decide +kernel
theorem dS_compareToSide_86 : decode cS_compareToSide 86 = .ok (.aload_n 0, 1) := by decide +kernel
theorem dS_compareToSide_87 : decode cS_compareToSide 87 = .ok (.iload_n 1, 1) := by decide +kernel
theorem dS_compareToSide_88 : decode cS_compareToSide 88 = .ok (.lload_n 2, 1) := by decide +kernel
theorem dS_compareToSide_89 : decode cS_compareToSide 89 = .ok (.lload 4, 2) := by decide +kernel
theorem dS_compareToSide_91 : decode cS_compareToSide 91 = .ok (.invokevirtual 83, 3) := by decide +kernel
theorem dS_compareToSide_94 : decode cS_compareToSide 94 = .ok (.lload 6, 2) := by decide +kernel
theorem dS_compareToSide_96 : decode cS_compareToSide 96 = .ok (.lload 6, 2) := by decide +kernel
theorem dS_compareToSide_98 : decode cS_compareToSide 98 = .ok (.lmul, 1) := by decide +kernel
theorem dS_compareToSide_99 : decode cS_compareToSide 99 = .ok (.invokestatic 86, 3) := by decide +kernel
theorem dS_compareToSide_102 : decode cS_compareToSide 102 = .ok (.ireturn, 1) := by decide +kernel
theorem dS_compareToSide_103 : decode cS_compareToSide 103 = .ok (.lload 15, 2) := by decide +kernel
theorem dS_compareToSide_105 : decode cS_compareToSide 105 = .ok (.lload 13, 2) := by decide +kernel
theorem dS_compareToSide_107 : decode cS_compareToSide 107 = .ok (.lcmp, 1) := by decide +kernel
theorem dS_compareToSide_108 : decode cS_compareToSide 108 = .ok (.ifCond .lt 21, 3) := by decide +kernel
theorem dS_compareToSide_111 : decode cS_compareToSide 111 = .ok (.aload_n 0, 1) := by decide +kernel
theorem dS_compareToSide_112 : decode cS_compareToSide 112 = .ok (.iload 8, 2) := by decide +kernel
theorem dS_compareToSide_114 : decode cS_compareToSide 114 = .ok (.lload_n 2, 1) := by decide +kernel
theorem dS_compareToSide_115 : decode cS_compareToSide 115 = .ok (.lload 4, 2) := by decide +kernel
theorem dS_compareToSide_117 : decode cS_compareToSide 117 = .ok (.invokevirtual 83, 3) := by decide +kernel
theorem dS_compareToSide_120 : decode cS_compareToSide 120 = .ok (.lload 6, 2) := by decide +kernel
theorem dS_compareToSide_122 : decode cS_compareToSide 122 = .ok (.lload 6, 2) := by decide +kernel
theorem dS_compareToSide_124 : decode cS_compareToSide 124 = .ok (.lmul, 1) := by decide +kernel
theorem dS_compareToSide_125 : decode cS_compareToSide 125 = .ok (.invokestatic 86, 3) := by decide +kernel
theorem dS_compareToSide_128 : decode cS_compareToSide 128 = .ok (.ireturn, 1) := by decide +kernel
theorem dS_compareToSide_129 : decode cS_compareToSide 129 = .ok (.aload_n 0, 1) := by decide +kernel
theorem dS_compareToSide_130 : decode cS_compareToSide 130 = .ok (.iload_n 1, 1) := by decide +kernel
theorem dS_compareToSide_131 : decode cS_compareToSide 131 = .ok (.lload_n 2, 1) := by decide +kernel
theorem dS_compareToSide_132 : decode cS_compareToSide 132 = .ok (.lload 4, 2) := by decide +kernel
theorem dS_compareToSide_134 : decode cS_compareToSide 134 = .ok (.invokevirtual 50, 3) := by decide +kernel
theorem dS_compareToSide_137 : decode cS_compareToSide 137 = .ok (.invokestatic 92, 3) := by decide +kernel
theorem dS_compareToSide_140 : decode cS_compareToSide 140 = .ok (.lstore 17, 2) := by decide +kernel
theorem dS_compareToSide_142 : decode cS_compareToSide 142 = .ok (.lload 17, 2) := by decide +kernel
theorem dS_compareToSide_144 : decode cS_compareToSide 144 = .ok (.lload 17, 2) := by decide +kernel
theorem dS_compareToSide_146 : decode cS_compareToSide 146 = .ok (.lload 6, 2) := by decide +kernel
theorem dS_compareToSide_148 : decode cS_compareToSide 148 = .ok (.lload 6, 2) := by decide +kernel
theorem dS_compareToSide_150 : decode cS_compareToSide 150 = .ok (.lmul, 1) := by decide +kernel
theorem dS_compareToSide_151 : decode cS_compareToSide 151 = .ok (.lload 13, 2) := by decide +kernel
theorem dS_compareToSide_153 : decode cS_compareToSide 153 = .ok (.invokestatic 96, 3) := by decide +kernel
theorem dS_compareToSide_156 : decode cS_compareToSide 156 = .ok (.ireturn, 1) := by decide +kernel
def f_S_compareToSide (v : SV) (x1 : Int32) (x2 : Int64) (x4 : Int64) (x6 : Int64) : Option Int32 := (ld 48 (sE v) x1).bind fun u1 => (ld 48 (sX v) u1).bind fun u2 => (ld 48 (sX v) x1).bind fun u3 => (ld 48 (sY v) u1).bind fun u4 => (ld 48 (sY v) x1).bind fun u5 => (some (((u2 - u3) * (u2 - u3)) + ((u4 - u5) * (u4 - u5)))).bind fun u6 => (ld 48 (sX v) x1).bind fun u7 => (ld 48 (sY v) x1).bind fun u8 => (some (((u2 - u3) * (x2 - u7)) + ((u4 - u5) * (x4 - u8)))).bind fun u9 => (if 0 < (lg_cmp u9 (0 : Int64)) then (if (lg_cmp u9 u6) < 0 then (f_S_cross v x1 x2 x4).bind fun u12 => (some (if 0 < u12 then u12 else -u12)).bind fun u13 => (f_W_compareProducts u13 u13 (x6 * x6) u6).bind fun u14 => some u14 else (f_S_squareTo v u1 x2 x4).bind fun u15 => (f_JL_compare_JJ u15 (x6 * x6)).bind fun u16 => some u16) else (f_S_squareTo v x1 x2 x4).bind fun u17 => (f_JL_compare_JJ u17 (x6 * x6)).bind fun u18 => some u18)
set_option maxHeartbeats 4000000 in
set_option maxRecDepth 100000 in
theorem k_S_compareToSide (l : Launch) (dC : Nat → ClassId) (dI : Nat → Nat → Nat) (cL cI : ClassId) (a ax ay ae : Nat) (v : SV) (x1 : Int32) (x2 : Int64) (x4 : Int64) (x6 : Int64) (r : Int32) (h : f_S_compareToSide v x1 x2 x4 x6 = some r) : Met l yS_compareToSide wsS_compareToSide ({ frames := 2, cells := 0, slots := 0, locals := 63 }) (rd_Pc [.ref a, .int x1, .long x2, .long x4, .long x6] (fun H => va_P (dC, dI) cls3 (shW cL cI a ax ay ae v) H) (dC, dI) cls3 [(cL, .long), (cI, .int)]) (vp_Si (fun z => z = r)) 0 0 (fun _ => False) := by
  refine Met.ofW (cc := cS_compareToSide) (maxL := 19) (ret := (some .int)) (by decide) rfl ?_
  intro p e s m args below meth c s₁ B hml hv
  obtain ⟨rfl, hPa, hK⟩ := hv
  have hx := B.exec
  have hb := B.bytes
  have hr := B.returns
  have hw : ∀ w ∈ wG, w.before ([.ref a, .int x1, .long x2, .long x4, .long x6] : List Value).toArray s = true := fun w hq => atoms_spec (ws := wsS_compareToSide) B.pre w (List.mem_cons_of_mem _ hq)
  have hown : s.vm.findClass R_S = some m.cls := findClass_of_methodNamed B.named
  have hlocks := B.notSynchronized
  have hl := lv_entry ([.ref a, .int x1, .long x2, .long x4, .long x6] : List Value) (n := 19) (Nat.le_of_ble_eq_true rfl)
  rw [lg_entry_eq]
  generalize (lg_sl ([.ref a, .int x1, .long x2, .long x4, .long x6] : List Value) ++ List.replicate (19 - (lg_sl ([.ref a, .int x1, .long x2, .long x4, .long x6] : List Value)).length) Slot.unset).toArray = ls at hl ⊢
  have hl : lv_has ls 19 [(0, .ref a), (1, .int x1), (2, .long x2), (4, .long x4), (6, .long x6)] := hl
  unfold f_S_compareToSide at h
  refine lv_aload_n hx hb dS_compareToSide_0 rfl (lv_at hl 0 rfl) ?_
  refine va_get (D := (dC, dI)) (ci := 0) (v := .ref ae) (C := R_S) (T := T_S) (N := 8) hx hb hw in_S hown hK hPa 0 rfl rfl 5 (by decide) (hw _ w_50) (fun _ h9 => h9) rfl dS_compareToSide_1 ?_
  refine lv_iload_n hx hb dS_compareToSide_4 rfl (lv_at hl 1 rfl) ?_
  obtain ⟨u1, hu1, h⟩ := ob_some h
  obtain ⟨hiu1, eu1⟩ := ld_of hu1
  refine va_iald hx hb hK hPa 3 1 rfl rfl hiu1 dS_compareToSide_5 ?_
  rw [eu1]
  refine lv_istore (lv' := [(8, .int u1), (0, .ref a), (1, .int x1), (2, .long x2), (4, .long x4), (6, .long x6)]) hx hb dS_compareToSide_6 hl (by decide) rfl (fun ls hl => ?_)
  refine lv_aload_n hx hb dS_compareToSide_8 rfl (lv_at hl 1 rfl) ?_
  refine va_get (D := (dC, dI)) (ci := 0) (v := .ref ax) (C := R_S) (T := T_S) (N := 8) hx hb hw in_S hown hK hPa 0 rfl rfl 3 (by decide) (hw _ w_46) (fun _ h9 => h9) rfl dS_compareToSide_9 ?_
  refine lv_iload hx hb dS_compareToSide_12 (lv_at hl 0 rfl) ?_
  obtain ⟨u2, hu2, h⟩ := ob_some h
  obtain ⟨hiu2, eu2⟩ := ld_of hu2
  refine va_lald hx hb hK hPa 1 0 rfl rfl hiu2 dS_compareToSide_14 ?_
  rw [eu2]
  refine lv_aload_n hx hb dS_compareToSide_15 rfl (lv_at hl 1 rfl) ?_
  refine va_get (D := (dC, dI)) (ci := 0) (v := .ref ax) (C := R_S) (T := T_S) (N := 8) hx hb hw in_S hown hK hPa 0 rfl rfl 3 (by decide) (hw _ w_46) (fun _ h9 => h9) rfl dS_compareToSide_16 ?_
  refine lv_iload_n hx hb dS_compareToSide_19 rfl (lv_at hl 2 rfl) ?_
  obtain ⟨u3, hu3, h⟩ := ob_some h
  obtain ⟨hiu3, eu3⟩ := ld_of hu3
  refine va_lald hx hb hK hPa 1 0 rfl rfl hiu3 dS_compareToSide_20 ?_
  rw [eu3]
  refine lv_lsub hx hb dS_compareToSide_21 ?_
  refine lv_lstore (lv' := [(9, .long (u2 - u3)), (8, .int u1), (0, .ref a), (1, .int x1), (2, .long x2), (4, .long x4), (6, .long x6)]) hx hb dS_compareToSide_22 hl (by decide) rfl (fun ls hl => ?_)
  refine lv_aload_n hx hb dS_compareToSide_24 rfl (lv_at hl 2 rfl) ?_
  refine va_get (D := (dC, dI)) (ci := 0) (v := .ref ay) (C := R_S) (T := T_S) (N := 8) hx hb hw in_S hown hK hPa 0 rfl rfl 4 (by decide) (hw _ w_48) (fun _ h9 => h9) rfl dS_compareToSide_25 ?_
  refine lv_iload hx hb dS_compareToSide_28 (lv_at hl 1 rfl) ?_
  obtain ⟨u4, hu4, h⟩ := ob_some h
  obtain ⟨hiu4, eu4⟩ := ld_of hu4
  refine va_lald hx hb hK hPa 2 0 rfl rfl hiu4 dS_compareToSide_30 ?_
  rw [eu4]
  refine lv_aload_n hx hb dS_compareToSide_31 rfl (lv_at hl 2 rfl) ?_
  refine va_get (D := (dC, dI)) (ci := 0) (v := .ref ay) (C := R_S) (T := T_S) (N := 8) hx hb hw in_S hown hK hPa 0 rfl rfl 4 (by decide) (hw _ w_48) (fun _ h9 => h9) rfl dS_compareToSide_32 ?_
  refine lv_iload_n hx hb dS_compareToSide_35 rfl (lv_at hl 3 rfl) ?_
  obtain ⟨u5, hu5, h⟩ := ob_some h
  obtain ⟨hiu5, eu5⟩ := ld_of hu5
  refine va_lald hx hb hK hPa 2 0 rfl rfl hiu5 dS_compareToSide_36 ?_
  rw [eu5]
  refine lv_lsub hx hb dS_compareToSide_37 ?_
  refine lv_lstore (lv' := [(11, .long (u4 - u5)), (9, .long (u2 - u3)), (8, .int u1), (0, .ref a), (1, .int x1), (2, .long x2), (4, .long x4), (6, .long x6)]) hx hb dS_compareToSide_38 hl (by decide) rfl (fun ls hl => ?_)
  refine lv_lload hx hb dS_compareToSide_40 (lv_at hl 1 rfl) ?_
  refine lv_lload hx hb dS_compareToSide_42 (lv_at hl 1 rfl) ?_
  refine lv_lmul hx hb dS_compareToSide_44 ?_
  refine lv_lload hx hb dS_compareToSide_45 (lv_at hl 0 rfl) ?_
  refine lv_lload hx hb dS_compareToSide_47 (lv_at hl 0 rfl) ?_
  refine lv_lmul hx hb dS_compareToSide_49 ?_
  refine lv_ladd hx hb dS_compareToSide_50 ?_
  obtain ⟨u6, hu6, h⟩ := ob_some h
  rw [Option.some.inj hu6]
  refine lv_lstore (lv' := [(13, .long u6), (11, .long (u4 - u5)), (9, .long (u2 - u3)), (8, .int u1), (0, .ref a), (1, .int x1), (2, .long x2), (4, .long x4), (6, .long x6)]) hx hb dS_compareToSide_51 hl (by decide) rfl (fun ls hl => ?_)
  refine lv_lload hx hb dS_compareToSide_53 (lv_at hl 2 rfl) ?_
  refine lv_lload_n hx hb dS_compareToSide_55 rfl (lv_at hl 6 rfl) ?_
  refine lv_aload_n hx hb dS_compareToSide_56 rfl (lv_at hl 4 rfl) ?_
  refine va_get (D := (dC, dI)) (ci := 0) (v := .ref ax) (C := R_S) (T := T_S) (N := 8) hx hb hw in_S hown hK hPa 0 rfl rfl 3 (by decide) (hw _ w_46) (fun _ h9 => h9) rfl dS_compareToSide_57 ?_
  refine lv_iload_n hx hb dS_compareToSide_60 rfl (lv_at hl 5 rfl) ?_
  obtain ⟨u7, hu7, h⟩ := ob_some h
  obtain ⟨hiu7, eu7⟩ := ld_of hu7
  refine va_lald hx hb hK hPa 1 0 rfl rfl hiu7 dS_compareToSide_61 ?_
  rw [eu7]
  refine lv_lsub hx hb dS_compareToSide_62 ?_
  refine lv_lmul hx hb dS_compareToSide_63 ?_
  refine lv_lload hx hb dS_compareToSide_64 (lv_at hl 1 rfl) ?_
  refine lv_lload hx hb dS_compareToSide_66 (lv_at hl 7 rfl) ?_
  refine lv_aload_n hx hb dS_compareToSide_68 rfl (lv_at hl 4 rfl) ?_
  refine va_get (D := (dC, dI)) (ci := 0) (v := .ref ay) (C := R_S) (T := T_S) (N := 8) hx hb hw in_S hown hK hPa 0 rfl rfl 4 (by decide) (hw _ w_48) (fun _ h9 => h9) rfl dS_compareToSide_69 ?_
  refine lv_iload_n hx hb dS_compareToSide_72 rfl (lv_at hl 5 rfl) ?_
  obtain ⟨u8, hu8, h⟩ := ob_some h
  obtain ⟨hiu8, eu8⟩ := ld_of hu8
  refine va_lald hx hb hK hPa 2 0 rfl rfl hiu8 dS_compareToSide_73 ?_
  rw [eu8]
  refine lv_lsub hx hb dS_compareToSide_74 ?_
  refine lv_lmul hx hb dS_compareToSide_75 ?_
  refine lv_ladd hx hb dS_compareToSide_76 ?_
  obtain ⟨u9, hu9, h⟩ := ob_some h
  rw [Option.some.inj hu9]
  refine lv_lstore (lv' := [(15, .long u9), (13, .long u6), (11, .long (u4 - u5)), (9, .long (u2 - u3)), (8, .int u1), (0, .ref a), (1, .int x1), (2, .long x2), (4, .long x4), (6, .long x6)]) hx hb dS_compareToSide_77 hl (by decide) rfl (fun ls hl => ?_)
  refine lv_lload hx hb dS_compareToSide_79 (lv_at hl 0 rfl) ?_
  refine lv_lconst (v := 0) hx hb dS_compareToSide_81 (by decide) ?_
  refine W.lcmp hx hb dS_compareToSide_82 ?_
  refine lv_if_gt (tgt := 103) hx hb dS_compareToSide_83 (by decide) (fun c10 => ?_) (fun c10 => ?_)
  · have h := it_t c10 h
    refine lv_lload hx hb dS_compareToSide_103 (lv_at hl 0 rfl) ?_
    refine lv_lload hx hb dS_compareToSide_105 (lv_at hl 1 rfl) ?_
    refine W.lcmp hx hb dS_compareToSide_107 ?_
    refine lv_if_lt (tgt := 129) hx hb dS_compareToSide_108 (by decide) (fun c11 => ?_) (fun c11 => ?_)
    · have h := it_t c11 h
      refine lv_aload_n hx hb dS_compareToSide_129 rfl (lv_at hl 5 rfl) ?_
      refine lv_iload_n hx hb dS_compareToSide_130 rfl (lv_at hl 6 rfl) ?_
      refine lv_lload_n hx hb dS_compareToSide_131 rfl (lv_at hl 7 rfl) ?_
      refine lv_lload hx hb dS_compareToSide_132 (lv_at hl 8 rfl) ?_
      obtain ⟨u12, hu12, h⟩ := ob_some h
      refine vp_callSl (va_Run.run (va_runV (As := [.int x1, .long x2, .long x4]) (rest := []) ⟨hx, hb, hml, hown, hw⟩ (k_S_cross l dC dI cL cI a ax ay ae v x1 x2 x4 u12 hu12) (cwV 3 hw (gV w_264 w_265 w_266 w_7 w_267) rfl rfl rfl (by decide +kernel) ⟨Nat.le_of_ble_eq_true rfl, Nat.le_of_ble_eq_true rfl⟩) ⟨rd_blind, va_recv hK hPa (ci := 0) (q0 := 0) rfl rfl, rd_pre hPa hK⟩ rfl rfl hl.1 rfl (lv_room (Nat.le_of_ble_eq_true rfl)) dS_compareToSide_134 ⟨Nat.le_of_ble_eq_true rfl, Nat.le_of_ble_eq_true rfl⟩)) (fun z hz => ?_)
      rw [hz]; clear hz
      obtain ⟨u13, hu13, h⟩ := ob_some h
      refine va_mabs_long hx hb (hml.trans hl.1.symm) hown (hw _ w_334) (hw _ w_335) (hw _ w_11) (hw _ wm_abs_J) (Nat.le_of_ble_eq_true rfl) (Nat.le_of_ble_eq_true rfl) (Nat.le_of_ble_eq_true rfl) (Nat.le_of_ble_eq_true rfl) dS_compareToSide_137 ?_
      rw [Option.some.inj hu13]
      refine lv_lstore (lv' := [(17, .long u13), (15, .long u9), (13, .long u6), (11, .long (u4 - u5)), (9, .long (u2 - u3)), (8, .int u1), (0, .ref a), (1, .int x1), (2, .long x2), (4, .long x4), (6, .long x6)]) hx hb dS_compareToSide_140 hl (by decide) rfl (fun ls hl => ?_)
      refine lv_lload hx hb dS_compareToSide_142 (lv_at hl 0 rfl) ?_
      refine lv_lload hx hb dS_compareToSide_144 (lv_at hl 0 rfl) ?_
      refine lv_lload hx hb dS_compareToSide_146 (lv_at hl 10 rfl) ?_
      refine lv_lload hx hb dS_compareToSide_148 (lv_at hl 10 rfl) ?_
      refine lv_lmul hx hb dS_compareToSide_150 ?_
      refine lv_lload hx hb dS_compareToSide_151 (lv_at hl 2 rfl) ?_
      obtain ⟨u14, hu14, h⟩ := ob_some h
      refine vp_callSi (va_Run.run (va_runS (As := [.long u13, .long u13, .long (x6 * x6), .long u6]) (rest := []) ⟨hx, hb, hml, hown, hw⟩ (k_W_compareProducts l dC dI cL cI u13 u13 (x6 * x6) u6 u14 hu14) (va_cwS 4 hw (gS w_337 w_338 w_13 w_339) rfl rfl rfl (by decide +kernel) ⟨Nat.le_of_ble_eq_true rfl, Nat.le_of_ble_eq_true rfl⟩) ⟨rd_blind, rd_pre trivial hK⟩ rfl rfl hl.1 rfl (lv_room (Nat.le_of_ble_eq_true rfl)) dS_compareToSide_153 ⟨Nat.le_of_ble_eq_true rfl, Nat.le_of_ble_eq_true rfl⟩)) (fun z hz => ?_)
      rw [hz]; clear hz
      exact W.iret hx hb hr (fun t ht hW => ⟨_, rfl, Option.some.inj h, ht⟩) nil_locs dS_compareToSide_156
    · have h := it_f c11 h
      refine lv_aload_n hx hb dS_compareToSide_111 rfl (lv_at hl 5 rfl) ?_
      refine lv_iload hx hb dS_compareToSide_112 (lv_at hl 4 rfl) ?_
      refine lv_lload_n hx hb dS_compareToSide_114 rfl (lv_at hl 7 rfl) ?_
      refine lv_lload hx hb dS_compareToSide_115 (lv_at hl 8 rfl) ?_
      obtain ⟨u15, hu15, h⟩ := ob_some h
      refine vp_callSl (va_Run.run (va_runV (As := [.int u1, .long x2, .long x4]) (rest := []) ⟨hx, hb, hml, hown, hw⟩ (k_S_squareTo l dC dI cL cI a ax ay ae v u1 x2 x4 u15 hu15) (cwV 3 hw (gV w_327 w_329 wp_4 w_7 w_330) rfl rfl rfl (by decide +kernel) ⟨Nat.le_of_ble_eq_true rfl, Nat.le_of_ble_eq_true rfl⟩) ⟨rd_blind, va_recv hK hPa (ci := 0) (q0 := 0) rfl rfl, rd_pre hPa hK⟩ rfl rfl hl.1 rfl (lv_room (Nat.le_of_ble_eq_true rfl)) dS_compareToSide_117 ⟨Nat.le_of_ble_eq_true rfl, Nat.le_of_ble_eq_true rfl⟩)) (fun z hz => ?_)
      rw [hz]; clear hz
      refine lv_lload hx hb dS_compareToSide_120 (lv_at hl 9 rfl) ?_
      refine lv_lload hx hb dS_compareToSide_122 (lv_at hl 9 rfl) ?_
      refine lv_lmul hx hb dS_compareToSide_124 ?_
      obtain ⟨u16, hu16, h⟩ := ob_some h
      refine vp_callSi (va_Run.run (va_runS (As := [.long u15, .long (x6 * x6)]) (rest := []) ⟨hx, hb, hml, hown, hw⟩ (k_JL_compare_JJ l dC dI cL cI u15 (x6 * x6) u16 hu16) (va_cwS 2 hw (gS w_331 w_332 w_12 w_333) rfl rfl rfl (by decide +kernel) ⟨Nat.le_of_ble_eq_true rfl, Nat.le_of_ble_eq_true rfl⟩) ⟨rd_blind, rd_pre trivial hK⟩ rfl rfl hl.1 rfl (lv_room (Nat.le_of_ble_eq_true rfl)) dS_compareToSide_125 ⟨Nat.le_of_ble_eq_true rfl, Nat.le_of_ble_eq_true rfl⟩)) (fun z hz => ?_)
      rw [hz]; clear hz
      exact W.iret hx hb hr (fun t ht hW => ⟨_, rfl, Option.some.inj h, ht⟩) nil_locs dS_compareToSide_128
  · have h := it_f c10 h
    refine lv_aload_n hx hb dS_compareToSide_86 rfl (lv_at hl 5 rfl) ?_
    refine lv_iload_n hx hb dS_compareToSide_87 rfl (lv_at hl 6 rfl) ?_
    refine lv_lload_n hx hb dS_compareToSide_88 rfl (lv_at hl 7 rfl) ?_
    refine lv_lload hx hb dS_compareToSide_89 (lv_at hl 8 rfl) ?_
    obtain ⟨u17, hu17, h⟩ := ob_some h
    refine vp_callSl (va_Run.run (va_runV (As := [.int x1, .long x2, .long x4]) (rest := []) ⟨hx, hb, hml, hown, hw⟩ (k_S_squareTo l dC dI cL cI a ax ay ae v x1 x2 x4 u17 hu17) (cwV 3 hw (gV w_327 w_329 wp_4 w_7 w_330) rfl rfl rfl (by decide +kernel) ⟨Nat.le_of_ble_eq_true rfl, Nat.le_of_ble_eq_true rfl⟩) ⟨rd_blind, va_recv hK hPa (ci := 0) (q0 := 0) rfl rfl, rd_pre hPa hK⟩ rfl rfl hl.1 rfl (lv_room (Nat.le_of_ble_eq_true rfl)) dS_compareToSide_91 ⟨Nat.le_of_ble_eq_true rfl, Nat.le_of_ble_eq_true rfl⟩)) (fun z hz => ?_)
    rw [hz]; clear hz
    refine lv_lload hx hb dS_compareToSide_94 (lv_at hl 9 rfl) ?_
    refine lv_lload hx hb dS_compareToSide_96 (lv_at hl 9 rfl) ?_
    refine lv_lmul hx hb dS_compareToSide_98 ?_
    obtain ⟨u18, hu18, h⟩ := ob_some h
    refine vp_callSi (va_Run.run (va_runS (As := [.long u17, .long (x6 * x6)]) (rest := []) ⟨hx, hb, hml, hown, hw⟩ (k_JL_compare_JJ l dC dI cL cI u17 (x6 * x6) u18 hu18) (va_cwS 2 hw (gS w_331 w_332 w_12 w_333) rfl rfl rfl (by decide +kernel) ⟨Nat.le_of_ble_eq_true rfl, Nat.le_of_ble_eq_true rfl⟩) ⟨rd_blind, rd_pre trivial hK⟩ rfl rfl hl.1 rfl (lv_room (Nat.le_of_ble_eq_true rfl)) dS_compareToSide_99 ⟨Nat.le_of_ble_eq_true rfl, Nat.le_of_ble_eq_true rfl⟩)) (fun z hz => ?_)
    rw [hz]; clear hz
    exact W.iret hx hb hr (fun t ht hW => ⟨_, rfl, Option.some.inj h, ht⟩) nil_locs dS_compareToSide_102
theorem dS_compareToSides_0 : decode cS_compareToSides 0 = .ok (.iconst 1, 1) := by decide +kernel
theorem dS_compareToSides_1 : decode cS_compareToSides 1 = .ok (.istore 7, 2) := by decide +kernel
theorem dS_compareToSides_3 : decode cS_compareToSides 3 = .ok (.iconst 0, 1) := by decide +kernel
theorem dS_compareToSides_4 : decode cS_compareToSides 4 = .ok (.istore 8, 2) := by decide +kernel
theorem dS_compareToSides_6 : decode cS_compareToSides 6 = .ok (.iload 8, 2) := by decide +kernel
theorem dS_compareToSides_8 : decode cS_compareToSides 8 = .ok (.aload_n 0, 1) := by decide +kernel
theorem dS_compareToSides_9 : decode cS_compareToSides 9 = .ok (.getfield 34, 3) := by decide +kernel
theorem dS_compareToSides_12 : decode cS_compareToSides 12 = .ok (.if_icmp .ge 31, 3) := by decide +kernel
theorem dS_compareToSides_15 : decode cS_compareToSides 15 = .ok (.iload 7, 2) := by decide +kernel
theorem dS_compareToSides_17 : decode cS_compareToSides 17 = .ok (.ifCond .lt 26, 3) := by decide +kernel
theorem dS_compareToSides_20 : decode cS_compareToSides 20 = .ok (.iload 7, 2) := by decide +kernel
theorem dS_compareToSides_22 : decode cS_compareToSides 22 = .ok (.aload_n 0, 1) := by decide +kernel
theorem dS_compareToSides_23 : decode cS_compareToSides 23 = .ok (.iload 8, 2) := by decide +kernel
theorem dS_compareToSides_25 : decode cS_compareToSides 25 = .ok (.lload_n 1, 1) := by decide +kernel
theorem dS_compareToSides_26 : decode cS_compareToSides 26 = .ok (.lload_n 3, 1) := by decide +kernel
theorem dS_compareToSides_27 : decode cS_compareToSides 27 = .ok (.lload 5, 2) := by decide +kernel
theorem dS_compareToSides_29 : decode cS_compareToSides 29 = .ok (.invokevirtual 76, 3) := by decide +kernel
theorem dS_compareToSides_32 : decode cS_compareToSides 32 = .ok (.invokestatic 80, 3) := by decide +kernel
theorem dS_compareToSides_35 : decode cS_compareToSides 35 = .ok (.istore 7, 2) := by decide +kernel
theorem dS_compareToSides_37 : decode cS_compareToSides 37 = .ok (.iinc 8 1, 3) := by decide +kernel
theorem dS_compareToSides_40 : decode cS_compareToSides 40 = .ok (.goto (-34), 3) := by decide +kernel
theorem dS_compareToSides_43 : decode cS_compareToSides 43 = .ok (.iload 7, 2) := by decide +kernel
theorem dS_compareToSides_45 : decode cS_compareToSides 45 = .ok (.ireturn, 1) := by decide +kernel
def f_S_compareToSides_j43 (v : SV) (p7 : Int32) : Option Int32 := some p7
def f_S_compareToSides_l6 (v : SV) : Nat → Int64 → Int64 → Int64 → Int32 → Int32 → Option Int32
 | 0, _, _, _, _, _ => none
 | n + 1, p1, p3, p5, p7, p8 => (if (sN v) ≤ p8 then (f_S_compareToSides_j43 v p7) else (if p7 < 0 then (f_S_compareToSides_j43 v p7) else (f_S_compareToSide v p8 p1 p3 p5).bind fun u3 => (some (if u3 < p7 then u3 else p7)).bind fun u4 => ((f_S_compareToSides_l6 v n) p1 p3 p5 u4 (p8 + 1))))
def f_S_compareToSides (v : SV) (x1 : Int64) (x3 : Int64) (x5 : Int64) : Option Int32 := (f_S_compareToSides_l6 v 64 x1 x3 x5 (1 : Int32) (0 : Int32))
set_option maxHeartbeats 4000000 in
set_option maxRecDepth 100000 in
theorem k_S_compareToSides (l : Launch) (dC : Nat → ClassId) (dI : Nat → Nat → Nat) (cL cI : ClassId) (a ax ay ae : Nat) (v : SV) (x1 : Int64) (x3 : Int64) (x5 : Int64) (r : Int32) (h : f_S_compareToSides v x1 x3 x5 = some r) : Met l yS_compareToSides wsS_compareToSides ({ frames := 3, cells := 0, slots := 0, locals := 101 }) (rd_Pc [.ref a, .long x1, .long x3, .long x5] (fun H => va_P (dC, dI) cls3 (shW cL cI a ax ay ae v) H) (dC, dI) cls3 [(cL, .long), (cI, .int)]) (vp_Si (fun z => z = r)) 0 0 (fun _ => False) := by
  refine Met.ofW (cc := cS_compareToSides) (maxL := 9) (ret := (some .int)) (by decide) rfl ?_
  intro p e s m args below meth c s₁ B hml hv
  obtain ⟨rfl, hPa, hK⟩ := hv
  have hx := B.exec
  have hb := B.bytes
  have hr := B.returns
  have hw : ∀ w ∈ wG, w.before ([.ref a, .long x1, .long x3, .long x5] : List Value).toArray s = true := fun w hq => atoms_spec (ws := wsS_compareToSides) B.pre w (List.mem_cons_of_mem _ hq)
  have hown : s.vm.findClass R_S = some m.cls := findClass_of_methodNamed B.named
  have hlocks := B.notSynchronized
  have hl := lv_entry ([.ref a, .long x1, .long x3, .long x5] : List Value) (n := 9) (Nat.le_of_ble_eq_true rfl)
  rw [lg_entry_eq]
  generalize (lg_sl ([.ref a, .long x1, .long x3, .long x5] : List Value) ++ List.replicate (9 - (lg_sl ([.ref a, .long x1, .long x3, .long x5] : List Value)).length) Slot.unset).toArray = ls at hl ⊢
  have hl : lv_has ls 9 [(0, .ref a), (1, .long x1), (3, .long x3), (5, .long x5)] := hl
  have k43 : ∀ (p7 : Int32), f_S_compareToSides_j43 v p7 = some r →  ∀ (ls : Array Slot), lv_has ls 9 [(7, .int p7)] → W p l e (headSpec wsS_compareToSides ({ frames := 3, cells := 0, slots := 0, locals := 101 })).room s m ([.ref a, .long x1, .long x3, .long x5] : List Value).toArray below meth c s.heap [] 0 0 (MQ below (vp_Si (fun z => z = r)) ([.ref a, .long x1, .long x3, .long x5] : List Value).toArray s 0 0 (fun _ => False)) (F0 m 43 ls []) := by
    intro p7 h  ls hl
    unfold f_S_compareToSides_j43 at h
    refine lv_iload hx hb dS_compareToSides_43 (lv_at hl 0 rfl) ?_
    exact W.iret hx hb hr (fun t ht hW => ⟨_, rfl, Option.some.inj h, ht⟩) nil_locs dS_compareToSides_45
  have k6 : ∀ (n6 : Nat), ∀ (p1 : Int64) (p3 : Int64) (p5 : Int64) (p7 : Int32) (p8 : Int32), f_S_compareToSides_l6 v n6 p1 p3 p5 p7 p8 = some r →  ∀ (ls : Array Slot), lv_has ls 9 [(0, .ref a), (1, .long p1), (3, .long p3), (5, .long p5), (7, .int p7), (8, .int p8)] → W p l e (headSpec wsS_compareToSides ({ frames := 3, cells := 0, slots := 0, locals := 101 })).room s m ([.ref a, .long x1, .long x3, .long x5] : List Value).toArray below meth c s.heap [] 0 0 (MQ below (vp_Si (fun z => z = r)) ([.ref a, .long x1, .long x3, .long x5] : List Value).toArray s 0 0 (fun _ => False)) (F0 m 6 ls []) := by
    intro n6
    induction n6 with
    | zero => intro p1 p3 p5 p7 p8 h; exact absurd h (by simp [f_S_compareToSides_l6])
    | succ n6 ih6 =>
      intro p1 p3 p5 p7 p8 h  ls hl
      rw [f_S_compareToSides_l6] at h
      refine lv_iload hx hb dS_compareToSides_6 (lv_at hl 5 rfl) ?_
      refine lv_aload_n hx hb dS_compareToSides_8 rfl (lv_at hl 0 rfl) ?_
      refine va_get (D := (dC, dI)) (ci := 0) (v := .int (sN v)) (C := R_S) (T := T_S) (N := 8) hx hb hw in_S hown hK hPa 0 rfl rfl 6 (by decide) (hw _ w_52) (fun _ h9 => h9) rfl dS_compareToSides_9 ?_
      refine lv_icmp_ge (tgt := 43) hx hb dS_compareToSides_12 (by decide) (fun c1 => ?_) (fun c1 => ?_)
      · have h := it_t c1 h
        exact k43 p7 h ls (lv_sub hl [4] rfl)
      · have h := it_f c1 h
        refine lv_iload hx hb dS_compareToSides_15 (lv_at hl 4 rfl) ?_
        refine lv_if_lt (tgt := 43) hx hb dS_compareToSides_17 (by decide) (fun c2 => ?_) (fun c2 => ?_)
        · have h := it_t c2 h
          exact k43 p7 h ls (lv_sub hl [4] rfl)
        · have h := it_f c2 h
          refine lv_iload hx hb dS_compareToSides_20 (lv_at hl 4 rfl) ?_
          refine lv_aload_n hx hb dS_compareToSides_22 rfl (lv_at hl 0 rfl) ?_
          refine lv_iload hx hb dS_compareToSides_23 (lv_at hl 5 rfl) ?_
          refine lv_lload_n hx hb dS_compareToSides_25 rfl (lv_at hl 1 rfl) ?_
          refine lv_lload_n hx hb dS_compareToSides_26 rfl (lv_at hl 2 rfl) ?_
          refine lv_lload hx hb dS_compareToSides_27 (lv_at hl 3 rfl) ?_
          obtain ⟨u3, hu3, h⟩ := ob_some h
          refine vp_callSi (va_Run.run (va_runV (As := [.int p8, .long p1, .long p3, .long p5]) (rest := [.int p7]) ⟨hx, hb, hml, hown, hw⟩ (k_S_compareToSide l dC dI cL cI a ax ay ae v p8 p1 p3 p5 u3 hu3) (cwV 4 hw (gV w_323 w_325 wp_3 w_7 w_326) rfl rfl rfl (by decide +kernel) ⟨Nat.le_of_ble_eq_true rfl, Nat.le_of_ble_eq_true rfl⟩) ⟨rd_blind, va_recv hK hPa (ci := 0) (q0 := 0) rfl rfl, rd_pre hPa hK⟩ rfl rfl hl.1 rfl (lv_room (Nat.le_of_ble_eq_true rfl)) dS_compareToSides_29 ⟨Nat.le_of_ble_eq_true rfl, Nat.le_of_ble_eq_true rfl⟩)) (fun z hz => ?_)
          rw [hz]; clear hz
          obtain ⟨u4, hu4, h⟩ := ob_some h
          refine va_mmin hx hb (hml.trans hl.1.symm) hown (hw _ w_346) (hw _ w_347) (hw _ w_11) (hw _ wm_min_I) (Nat.le_of_ble_eq_true rfl) (Nat.le_of_ble_eq_true rfl) (Nat.le_of_ble_eq_true rfl) (Nat.le_of_ble_eq_true rfl) dS_compareToSides_32 ?_
          rw [Option.some.inj hu4]
          refine lv_istore (lv' := [(7, .int u4), (0, .ref a), (1, .long p1), (3, .long p3), (5, .long p5), (8, .int p8)]) hx hb dS_compareToSides_35 hl (by decide) rfl (fun ls hl => ?_)
          refine lv_iinc (v := p8 + 1) (lv' := [(8, .int (p8 + 1)), (7, .int u4), (0, .ref a), (1, .long p1), (3, .long p3), (5, .long p5)]) hx hb dS_compareToSides_37 hl (k := 5) rfl rfl (by decide) rfl (fun ls hl => ?_)
          refine lv_goto (tgt := 6) hx hb dS_compareToSides_40 (by decide) ?_
          exact ih6 p1 p3 p5 u4 (p8 + 1) h ls (lv_sub hl [2, 3, 4, 5, 1, 0] rfl)
  unfold f_S_compareToSides at h
  refine lv_iconst (v := 1) hx hb dS_compareToSides_0 (by decide) ?_
  refine lv_istore (lv' := [(7, .int (1 : Int32)), (0, .ref a), (1, .long x1), (3, .long x3), (5, .long x5)]) hx hb dS_compareToSides_1 hl (by decide) rfl (fun ls hl => ?_)
  refine lv_iconst (v := 0) hx hb dS_compareToSides_3 (by decide) ?_
  refine lv_istore (lv' := [(8, .int (0 : Int32)), (7, .int (1 : Int32)), (0, .ref a), (1, .long x1), (3, .long x3), (5, .long x5)]) hx hb dS_compareToSides_4 hl (by decide) rfl (fun ls hl => ?_)
  exact k6 64 x1 x3 x5 (1 : Int32) (0 : Int32) h ls (lv_sub hl [2, 3, 4, 5, 1, 0] rfl)
end
section
/-! Shape: reading methods, laid by program -/
theorem dS_encloses_0 : decode cS_encloses 0 = .ok (.iconst 0, 1) := by decide +kernel
theorem dS_encloses_1 : decode cS_encloses 1 = .ok (.istore 5, 2) := by decide +kernel
theorem dS_encloses_3 : decode cS_encloses 3 = .ok (.iconst 0, 1) := by decide +kernel
theorem dS_encloses_4 : decode cS_encloses 4 = .ok (.istore 6, 2) := by decide +kernel
theorem dS_encloses_6 : decode cS_encloses 6 = .ok (.aload_n 0, 1) := by decide +kernel
theorem dS_encloses_7 : decode cS_encloses 7 = .ok (.getfield 15, 3) := by decide +kernel
theorem dS_encloses_10 : decode cS_encloses 10 = .ok (.ifCond .eq 103, 3) := by decide +kernel
theorem dS_encloses_13 : decode cS_encloses 13 = .ok (.iload 6, 2) := by decide +kernel
theorem dS_encloses_15 : decode cS_encloses 15 = .ok (.aload_n 0, 1) := by decide +kernel
theorem dS_encloses_16 : decode cS_encloses 16 = .ok (.getfield 34, 3) := by decide +kernel
theorem dS_encloses_19 : decode cS_encloses 19 = .ok (.if_icmp .ge 94, 3) := by decide +kernel
theorem dS_encloses_22 : decode cS_encloses 22 = .ok (.aload_n 0, 1) := by decide +kernel
theorem dS_encloses_23 : decode cS_encloses 23 = .ok (.getfield 27, 3) := by decide +kernel
theorem dS_encloses_26 : decode cS_encloses 26 = .ok (.iload 6, 2) := by decide +kernel
theorem dS_encloses_28 : decode cS_encloses 28 = .ok (.laload, 1) := by decide +kernel
theorem dS_encloses_29 : decode cS_encloses 29 = .ok (.lload_n 3, 1) := by decide +kernel
theorem dS_encloses_30 : decode cS_encloses 30 = .ok (.lcmp, 1) := by decide +kernel
theorem dS_encloses_31 : decode cS_encloses 31 = .ok (.ifCond .le 7, 3) := by decide +kernel
theorem dS_encloses_34 : decode cS_encloses 34 = .ok (.iconst 1, 1) := by decide +kernel
theorem dS_encloses_35 : decode cS_encloses 35 = .ok (.goto 4, 3) := by decide +kernel
theorem dS_encloses_38 : decode cS_encloses 38 = .ok (.iconst 0, 1) := by decide +kernel
theorem dS_encloses_39 : decode cS_encloses 39 = .ok (.istore 7, 2) := by decide +kernel
theorem dS_encloses_41 : decode cS_encloses 41 = .ok (.aload_n 0, 1) := by decide +kernel
theorem dS_encloses_42 : decode cS_encloses 42 = .ok (.getfield 27, 3) := by decide +kernel
theorem dS_encloses_45 : decode cS_encloses 45 = .ok (.aload_n 0, 1) := by decide +kernel
theorem dS_encloses_46 : decode cS_encloses 46 = .ok (.getfield 30, 3) := by decide +kernel
theorem dS_encloses_49 : decode cS_encloses 49 = .ok (.iload 6, 2) := by decide +kernel
theorem dS_encloses_51 : decode cS_encloses 51 = .ok (.iaload, 1) := by decide +kernel
theorem dS_encloses_52 : decode cS_encloses 52 = .ok (.laload, 1) := by decide +kernel
theorem dS_encloses_53 : decode cS_encloses 53 = .ok (.lload_n 3, 1) := by decide +kernel
theorem dS_encloses_54 : decode cS_encloses 54 = .ok (.lcmp, 1) := by decide +kernel
theorem dS_encloses_55 : decode cS_encloses 55 = .ok (.ifCond .le 7, 3) := by decide +kernel
theorem dS_encloses_58 : decode cS_encloses 58 = .ok (.iconst 1, 1) := by decide +kernel
theorem dS_encloses_59 : decode cS_encloses 59 = .ok (.goto 4, 3) := by decide +kernel
theorem dS_encloses_62 : decode cS_encloses 62 = .ok (.iconst 0, 1) := by decide +kernel
theorem dS_encloses_63 : decode cS_encloses 63 = .ok (.istore 8, 2) := by decide +kernel
theorem dS_encloses_65 : decode cS_encloses 65 = .ok (.iload 7, 2) := by decide +kernel
theorem dS_encloses_67 : decode cS_encloses 67 = .ok (.iload 8, 2) := by decide +kernel
theorem dS_encloses_69 : decode cS_encloses 69 = .ok (.if_icmp .eq 38, 3) := by decide +kernel
theorem dS_encloses_72 : decode cS_encloses 72 = .ok (.aload_n 0, 1) := by decide +kernel
theorem dS_encloses_73 : decode cS_encloses 73 = .ok (.iload 6, 2) := by decide +kernel
theorem dS_encloses_75 : decode cS_encloses 75 = .ok (.lload_n 1, 1) := by decide +kernel
theorem dS_encloses_76 : decode cS_encloses 76 = .ok (.lload_n 3, 1) := by decide +kernel
theorem dS_encloses_77 : decode cS_encloses 77 = .ok (.invokevirtual 50, 3) := by decide +kernel
theorem dS_encloses_80 : decode cS_encloses 80 = .ok (.lconst 0, 1) := by decide +kernel
theorem dS_encloses_81 : decode cS_encloses 81 = .ok (.lcmp, 1) := by decide +kernel
theorem dS_encloses_82 : decode cS_encloses 82 = .ok (.ifCond .le 7, 3) := by decide +kernel
theorem dS_encloses_85 : decode cS_encloses 85 = .ok (.iconst 1, 1) := by decide +kernel
theorem dS_encloses_86 : decode cS_encloses 86 = .ok (.goto 4, 3) := by decide +kernel
theorem dS_encloses_89 : decode cS_encloses 89 = .ok (.iconst 0, 1) := by decide +kernel
theorem dS_encloses_90 : decode cS_encloses 90 = .ok (.iload 8, 2) := by decide +kernel
theorem dS_encloses_92 : decode cS_encloses 92 = .ok (.if_icmp .ne 15, 3) := by decide +kernel
theorem dS_encloses_95 : decode cS_encloses 95 = .ok (.iload 5, 2) := by decide +kernel
theorem dS_encloses_97 : decode cS_encloses 97 = .ok (.ifCond .ne 7, 3) := by decide +kernel
theorem dS_encloses_100 : decode cS_encloses 100 = .ok (.iconst 1, 1) := by decide +kernel
theorem dS_encloses_101 : decode cS_encloses 101 = .ok (.goto 4, 3) := by decide +kernel
theorem dS_encloses_104 : decode cS_encloses 104 = .ok (.iconst 0, 1) := by decide +kernel
theorem dS_encloses_105 : decode cS_encloses 105 = .ok (.istore 5, 2) := by decide +kernel
theorem dS_encloses_107 : decode cS_encloses 107 = .ok (.iinc 6 1, 3) := by decide +kernel
theorem dS_encloses_110 : decode cS_encloses 110 = .ok (.goto (-104), 3) := by decide +kernel
theorem dS_encloses_113 : decode cS_encloses 113 = .ok (.iload 5, 2) := by decide +kernel
theorem dS_encloses_115 : decode cS_encloses 115 = .ok (.ireturn, 1) := by decide +kernel
def f_S_encloses_j113 (v : SV) (p5 : Int32) : Option Int32 := rb p5
def f_S_encloses_j107 (v : SV) (K6 : Int64 → Int64 → Int32 → Int32 → Option Int32) (p1 : Int64) (p3 : Int64) (p5 : Int32) (p6 : Int32) : Option Int32 := (K6 p1 p3 p5 (p6 + 1))
def f_S_encloses_j105 (v : SV) (K6 : Int64 → Int64 → Int32 → Int32 → Option Int32) (p1 : Int64) (p3 : Int64) (p6 : Int32) (s0 : Int32) : Option Int32 := (f_S_encloses_j107 v K6 p1 p3 s0 p6)
def f_S_encloses_j90 (v : SV) (K6 : Int64 → Int64 → Int32 → Int32 → Option Int32) (p1 : Int64) (p3 : Int64) (p5 : Int32) (p6 : Int32) (p8 : Int32) (s0 : Int32) : Option Int32 := (if s0 = p8 then (if p5 = 0 then (f_S_encloses_j105 v K6 p1 p3 p6 (1 : Int32)) else (f_S_encloses_j105 v K6 p1 p3 p6 (0 : Int32))) else (f_S_encloses_j107 v K6 p1 p3 p5 p6))
def f_S_encloses_j63 (v : SV) (K6 : Int64 → Int64 → Int32 → Int32 → Option Int32) (p1 : Int64) (p3 : Int64) (p5 : Int32) (p6 : Int32) (p7 : Int32) (s0 : Int32) : Option Int32 := (if p7 = s0 then (f_S_encloses_j107 v K6 p1 p3 p5 p6) else (f_S_cross v p6 p1 p3).bind fun u9 => (if (lg_cmp u9 (0 : Int64)) ≤ 0 then (f_S_encloses_j90 v K6 p1 p3 p5 p6 s0 (0 : Int32)) else (f_S_encloses_j90 v K6 p1 p3 p5 p6 s0 (1 : Int32))))
def f_S_encloses_j39 (v : SV) (K6 : Int64 → Int64 → Int32 → Int32 → Option Int32) (p1 : Int64) (p3 : Int64) (p5 : Int32) (p6 : Int32) (s0 : Int32) : Option Int32 := (ld 48 (sE v) p6).bind fun u5 => (ld 48 (sY v) u5).bind fun u6 => (if (lg_cmp u6 p3) ≤ 0 then (f_S_encloses_j63 v K6 p1 p3 p5 p6 s0 (0 : Int32)) else (f_S_encloses_j63 v K6 p1 p3 p5 p6 s0 (1 : Int32)))
def f_S_encloses_l6 (v : SV) : Nat → Int64 → Int64 → Int32 → Int32 → Option Int32
 | 0, _, _, _, _ => none
 | n + 1, p1, p3, p5, p6 => (if (sB v) = 0 then (f_S_encloses_j113 v p5) else (if (sN v) ≤ p6 then (f_S_encloses_j113 v p5) else (ld 48 (sY v) p6).bind fun u3 => (if (lg_cmp u3 p3) ≤ 0 then (f_S_encloses_j39 v (f_S_encloses_l6 v n) p1 p3 p5 p6 (0 : Int32)) else (f_S_encloses_j39 v (f_S_encloses_l6 v n) p1 p3 p5 p6 (1 : Int32)))))
def f_S_encloses (v : SV) (x1 : Int64) (x3 : Int64) : Option Int32 := (f_S_encloses_l6 v 64 x1 x3 (0 : Int32) (0 : Int32))
set_option maxHeartbeats 4000000 in
set_option maxRecDepth 100000 in
theorem k_S_encloses (l : Launch) (dC : Nat → ClassId) (dI : Nat → Nat → Nat) (cL cI : ClassId) (a ax ay ae : Nat) (v : SV) (x1 : Int64) (x3 : Int64) (r : Int32) (h : f_S_encloses v x1 x3 = some r) : Met l yS_encloses wsS_encloses ({ frames := 1, cells := 0, slots := 0, locals := 26 }) (rd_Pc [.ref a, .long x1, .long x3] (fun H => va_P (dC, dI) cls3 (shW cL cI a ax ay ae v) H) (dC, dI) cls3 [(cL, .long), (cI, .int)]) (vp_Si (fun z => z = r)) 0 0 (fun _ => False) := by
  refine Met.ofW (cc := cS_encloses) (maxL := 9) (ret := (some .boolean)) (by decide) rfl ?_
  intro p e s m args below meth c s₁ B hml hv
  obtain ⟨rfl, hPa, hK⟩ := hv
  have hx := B.exec
  have hb := B.bytes
  have hr := B.returns
  have hw : ∀ w ∈ wG, w.before ([.ref a, .long x1, .long x3] : List Value).toArray s = true := fun w hq => atoms_spec (ws := wsS_encloses) B.pre w (List.mem_cons_of_mem _ hq)
  have hown : s.vm.findClass R_S = some m.cls := findClass_of_methodNamed B.named
  have hlocks := B.notSynchronized
  have hl := lv_entry ([.ref a, .long x1, .long x3] : List Value) (n := 9) (Nat.le_of_ble_eq_true rfl)
  rw [lg_entry_eq]
  generalize (lg_sl ([.ref a, .long x1, .long x3] : List Value) ++ List.replicate (9 - (lg_sl ([.ref a, .long x1, .long x3] : List Value)).length) Slot.unset).toArray = ls at hl ⊢
  have hl : lv_has ls 9 [(0, .ref a), (1, .long x1), (3, .long x3)] := hl
  have k113 : ∀ (p5 : Int32), f_S_encloses_j113 v p5 = some r →  ∀ (ls : Array Slot), lv_has ls 9 [(5, .int p5)] → W p l e (headSpec wsS_encloses ({ frames := 1, cells := 0, slots := 0, locals := 26 })).room s m ([.ref a, .long x1, .long x3] : List Value).toArray below meth c s.heap [] 0 0 (MQ below (vp_Si (fun z => z = r)) ([.ref a, .long x1, .long x3] : List Value).toArray s 0 0 (fun _ => False)) (F0 m 113 ls []) := by
    intro p5 h  ls hl
    unfold f_S_encloses_j113 at h
    refine lv_iload hx hb dS_encloses_113 (lv_at hl 0 rfl) ?_
    obtain ⟨hz, hr9⟩ := rb_of h
    exact W.zret hx hb hr hz (fun t ht hW => ⟨_, rfl, hr9, ht⟩) nil_locs dS_encloses_115
  have k6 : ∀ (n6 : Nat), ∀ (p1 : Int64) (p3 : Int64) (p5 : Int32) (p6 : Int32), f_S_encloses_l6 v n6 p1 p3 p5 p6 = some r →  ∀ (ls : Array Slot), lv_has ls 9 [(0, .ref a), (1, .long p1), (3, .long p3), (5, .int p5), (6, .int p6)] → W p l e (headSpec wsS_encloses ({ frames := 1, cells := 0, slots := 0, locals := 26 })).room s m ([.ref a, .long x1, .long x3] : List Value).toArray below meth c s.heap [] 0 0 (MQ below (vp_Si (fun z => z = r)) ([.ref a, .long x1, .long x3] : List Value).toArray s 0 0 (fun _ => False)) (F0 m 6 ls []) := by
    intro n6
    induction n6 with
    | zero => intro p1 p3 p5 p6 h; exact absurd h (by simp [f_S_encloses_l6])
    | succ n6 ih6 =>
      have k107 : ∀ (p1 : Int64) (p3 : Int64) (p5 : Int32) (p6 : Int32), f_S_encloses_j107 v (f_S_encloses_l6 v n6) p1 p3 p5 p6 = some r →  ∀ (ls : Array Slot), lv_has ls 9 [(0, .ref a), (1, .long p1), (3, .long p3), (5, .int p5), (6, .int p6)] → W p l e (headSpec wsS_encloses ({ frames := 1, cells := 0, slots := 0, locals := 26 })).room s m ([.ref a, .long x1, .long x3] : List Value).toArray below meth c s.heap [] 0 0 (MQ below (vp_Si (fun z => z = r)) ([.ref a, .long x1, .long x3] : List Value).toArray s 0 0 (fun _ => False)) (F0 m 107 ls []) := by
        intro p1 p3 p5 p6 h  ls hl
        unfold f_S_encloses_j107 at h
        refine lv_iinc (v := p6 + 1) (lv' := [(6, .int (p6 + 1)), (0, .ref a), (1, .long p1), (3, .long p3), (5, .int p5)]) hx hb dS_encloses_107 hl (k := 4) rfl rfl (by decide) rfl (fun ls hl => ?_)
        refine lv_goto (tgt := 6) hx hb dS_encloses_110 (by decide) ?_
        exact ih6 p1 p3 p5 (p6 + 1) h ls (lv_sub hl [1, 2, 3, 4, 0] rfl)
      have k105 : ∀ (p1 : Int64) (p3 : Int64) (p6 : Int32) (s0 : Int32), f_S_encloses_j105 v (f_S_encloses_l6 v n6) p1 p3 p6 s0 = some r →  ∀ (ls : Array Slot), lv_has ls 9 [(0, .ref a), (1, .long p1), (3, .long p3), (6, .int p6)] → W p l e (headSpec wsS_encloses ({ frames := 1, cells := 0, slots := 0, locals := 26 })).room s m ([.ref a, .long x1, .long x3] : List Value).toArray below meth c s.heap [] 0 0 (MQ below (vp_Si (fun z => z = r)) ([.ref a, .long x1, .long x3] : List Value).toArray s 0 0 (fun _ => False)) (F0 m 105 ls [.int s0]) := by
        intro p1 p3 p6 s0 h  ls hl
        unfold f_S_encloses_j105 at h
        refine lv_istore (lv' := [(5, .int s0), (0, .ref a), (1, .long p1), (3, .long p3), (6, .int p6)]) hx hb dS_encloses_105 hl (by decide) rfl (fun ls hl => ?_)
        exact k107 p1 p3 s0 p6 h ls (lv_sub hl [1, 2, 3, 0, 4] rfl)
      have k90 : ∀ (p1 : Int64) (p3 : Int64) (p5 : Int32) (p6 : Int32) (p8 : Int32) (s0 : Int32), f_S_encloses_j90 v (f_S_encloses_l6 v n6) p1 p3 p5 p6 p8 s0 = some r →  ∀ (ls : Array Slot), lv_has ls 9 [(0, .ref a), (1, .long p1), (3, .long p3), (5, .int p5), (6, .int p6), (8, .int p8)] → W p l e (headSpec wsS_encloses ({ frames := 1, cells := 0, slots := 0, locals := 26 })).room s m ([.ref a, .long x1, .long x3] : List Value).toArray below meth c s.heap [] 0 0 (MQ below (vp_Si (fun z => z = r)) ([.ref a, .long x1, .long x3] : List Value).toArray s 0 0 (fun _ => False)) (F0 m 90 ls [.int s0]) := by
        intro p1 p3 p5 p6 p8 s0 h  ls hl
        unfold f_S_encloses_j90 at h
        refine lv_iload hx hb dS_encloses_90 (lv_at hl 5 rfl) ?_
        refine lv_icmp_ne (tgt := 107) hx hb dS_encloses_92 (by decide) (fun c11 => ?_) (fun c11 => ?_)
        · have h := it_f c11 h
          exact k107 p1 p3 p5 p6 h ls (lv_sub hl [0, 1, 2, 3, 4] rfl)
        · have h := it_t c11 h
          refine lv_iload hx hb dS_encloses_95 (lv_at hl 3 rfl) ?_
          refine lv_if_ne (tgt := 104) hx hb dS_encloses_97 (by decide) (fun c12 => ?_) (fun c12 => ?_)
          · have h := it_f c12 h
            refine lv_iconst (v := 0) hx hb dS_encloses_104 (by decide) ?_
            exact k105 p1 p3 p6 (0 : Int32) h ls (lv_sub hl [0, 1, 2, 4] rfl)
          · have h := it_t c12 h
            refine lv_iconst (v := 1) hx hb dS_encloses_100 (by decide) ?_
            refine lv_goto (tgt := 105) hx hb dS_encloses_101 (by decide) ?_
            exact k105 p1 p3 p6 (1 : Int32) h ls (lv_sub hl [0, 1, 2, 4] rfl)
      have k63 : ∀ (p1 : Int64) (p3 : Int64) (p5 : Int32) (p6 : Int32) (p7 : Int32) (s0 : Int32), f_S_encloses_j63 v (f_S_encloses_l6 v n6) p1 p3 p5 p6 p7 s0 = some r →  ∀ (ls : Array Slot), lv_has ls 9 [(0, .ref a), (1, .long p1), (3, .long p3), (5, .int p5), (6, .int p6), (7, .int p7)] → W p l e (headSpec wsS_encloses ({ frames := 1, cells := 0, slots := 0, locals := 26 })).room s m ([.ref a, .long x1, .long x3] : List Value).toArray below meth c s.heap [] 0 0 (MQ below (vp_Si (fun z => z = r)) ([.ref a, .long x1, .long x3] : List Value).toArray s 0 0 (fun _ => False)) (F0 m 63 ls [.int s0]) := by
        intro p1 p3 p5 p6 p7 s0 h  ls hl
        unfold f_S_encloses_j63 at h
        refine lv_istore (lv' := [(8, .int s0), (0, .ref a), (1, .long p1), (3, .long p3), (5, .int p5), (6, .int p6), (7, .int p7)]) hx hb dS_encloses_63 hl (by decide) rfl (fun ls hl => ?_)
        refine lv_iload hx hb dS_encloses_65 (lv_at hl 6 rfl) ?_
        refine lv_iload hx hb dS_encloses_67 (lv_at hl 0 rfl) ?_
        refine lv_icmp_eq (tgt := 107) hx hb dS_encloses_69 (by decide) (fun c8 => ?_) (fun c8 => ?_)
        · have h := it_t c8 h
          exact k107 p1 p3 p5 p6 h ls (lv_sub hl [1, 2, 3, 4, 5] rfl)
        · have h := it_f c8 h
          refine lv_aload_n hx hb dS_encloses_72 rfl (lv_at hl 1 rfl) ?_
          refine lv_iload hx hb dS_encloses_73 (lv_at hl 5 rfl) ?_
          refine lv_lload_n hx hb dS_encloses_75 rfl (lv_at hl 2 rfl) ?_
          refine lv_lload_n hx hb dS_encloses_76 rfl (lv_at hl 3 rfl) ?_
          obtain ⟨u9, hu9, h⟩ := ob_some h
          refine vp_callSl (va_Run.run (va_runV (As := [.int p6, .long p1, .long p3]) (rest := []) ⟨hx, hb, hml, hown, hw⟩ (k_S_cross l dC dI cL cI a ax ay ae v p6 p1 p3 u9 hu9) (cwV 3 hw (gV w_264 w_265 w_266 w_7 w_267) rfl rfl rfl (by decide +kernel) ⟨Nat.le_of_ble_eq_true rfl, Nat.le_of_ble_eq_true rfl⟩) ⟨rd_blind, va_recv hK hPa (ci := 0) (q0 := 0) rfl rfl, rd_pre hPa hK⟩ rfl rfl hl.1 rfl (lv_room (Nat.le_of_ble_eq_true rfl)) dS_encloses_77 ⟨Nat.le_of_ble_eq_true rfl, Nat.le_of_ble_eq_true rfl⟩)) (fun z hz => ?_)
          rw [hz]; clear hz
          refine lv_lconst (v := 0) hx hb dS_encloses_80 (by decide) ?_
          refine W.lcmp hx hb dS_encloses_81 ?_
          refine lv_if_le (tgt := 89) hx hb dS_encloses_82 (by decide) (fun c10 => ?_) (fun c10 => ?_)
          · have h := it_t c10 h
            refine lv_iconst (v := 0) hx hb dS_encloses_89 (by decide) ?_
            exact k90 p1 p3 p5 p6 s0 (0 : Int32) h ls (lv_sub hl [1, 2, 3, 4, 5, 0] rfl)
          · have h := it_f c10 h
            refine lv_iconst (v := 1) hx hb dS_encloses_85 (by decide) ?_
            refine lv_goto (tgt := 90) hx hb dS_encloses_86 (by decide) ?_
            exact k90 p1 p3 p5 p6 s0 (1 : Int32) h ls (lv_sub hl [1, 2, 3, 4, 5, 0] rfl)
      have k39 : ∀ (p1 : Int64) (p3 : Int64) (p5 : Int32) (p6 : Int32) (s0 : Int32), f_S_encloses_j39 v (f_S_encloses_l6 v n6) p1 p3 p5 p6 s0 = some r →  ∀ (ls : Array Slot), lv_has ls 9 [(0, .ref a), (1, .long p1), (3, .long p3), (5, .int p5), (6, .int p6)] → W p l e (headSpec wsS_encloses ({ frames := 1, cells := 0, slots := 0, locals := 26 })).room s m ([.ref a, .long x1, .long x3] : List Value).toArray below meth c s.heap [] 0 0 (MQ below (vp_Si (fun z => z = r)) ([.ref a, .long x1, .long x3] : List Value).toArray s 0 0 (fun _ => False)) (F0 m 39 ls [.int s0]) := by
        intro p1 p3 p5 p6 s0 h  ls hl
        unfold f_S_encloses_j39 at h
        refine lv_istore (lv' := [(7, .int s0), (0, .ref a), (1, .long p1), (3, .long p3), (5, .int p5), (6, .int p6)]) hx hb dS_encloses_39 hl (by decide) rfl (fun ls hl => ?_)
        refine lv_aload_n hx hb dS_encloses_41 rfl (lv_at hl 1 rfl) ?_
        refine va_get (D := (dC, dI)) (ci := 0) (v := .ref ay) (C := R_S) (T := T_S) (N := 8) hx hb hw in_S hown hK hPa 0 rfl rfl 4 (by decide) (hw _ w_48) (fun _ h9 => h9) rfl dS_encloses_42 ?_
        refine lv_aload_n hx hb dS_encloses_45 rfl (lv_at hl 1 rfl) ?_
        refine va_get (D := (dC, dI)) (ci := 0) (v := .ref ae) (C := R_S) (T := T_S) (N := 8) hx hb hw in_S hown hK hPa 0 rfl rfl 5 (by decide) (hw _ w_50) (fun _ h9 => h9) rfl dS_encloses_46 ?_
        refine lv_iload hx hb dS_encloses_49 (lv_at hl 5 rfl) ?_
        obtain ⟨u5, hu5, h⟩ := ob_some h
        obtain ⟨hiu5, eu5⟩ := ld_of hu5
        refine va_iald hx hb hK hPa 3 1 rfl rfl hiu5 dS_encloses_51 ?_
        rw [eu5]
        obtain ⟨u6, hu6, h⟩ := ob_some h
        obtain ⟨hiu6, eu6⟩ := ld_of hu6
        refine va_lald hx hb hK hPa 2 0 rfl rfl hiu6 dS_encloses_52 ?_
        rw [eu6]
        refine lv_lload_n hx hb dS_encloses_53 rfl (lv_at hl 3 rfl) ?_
        refine W.lcmp hx hb dS_encloses_54 ?_
        refine lv_if_le (tgt := 62) hx hb dS_encloses_55 (by decide) (fun c7 => ?_) (fun c7 => ?_)
        · have h := it_t c7 h
          refine lv_iconst (v := 0) hx hb dS_encloses_62 (by decide) ?_
          exact k63 p1 p3 p5 p6 s0 (0 : Int32) h ls (lv_sub hl [1, 2, 3, 4, 5, 0] rfl)
        · have h := it_f c7 h
          refine lv_iconst (v := 1) hx hb dS_encloses_58 (by decide) ?_
          refine lv_goto (tgt := 63) hx hb dS_encloses_59 (by decide) ?_
          exact k63 p1 p3 p5 p6 s0 (1 : Int32) h ls (lv_sub hl [1, 2, 3, 4, 5, 0] rfl)
      intro p1 p3 p5 p6 h  ls hl
      rw [f_S_encloses_l6] at h
      refine lv_aload_n hx hb dS_encloses_6 rfl (lv_at hl 0 rfl) ?_
      refine va_get (D := (dC, dI)) (ci := 0) (v := .int (sB v)) (C := R_S) (T := T_S) (N := 8) hx hb hw in_S hown hK hPa 0 rfl rfl 1 (by decide) (hw _ w_42) (fun _ h9 => h9) rfl dS_encloses_7 ?_
      refine lv_if_eq (tgt := 113) hx hb dS_encloses_10 (by decide) (fun c1 => ?_) (fun c1 => ?_)
      · have h := it_t c1 h
        exact k113 p5 h ls (lv_sub hl [3] rfl)
      · have h := it_f c1 h
        refine lv_iload hx hb dS_encloses_13 (lv_at hl 4 rfl) ?_
        refine lv_aload_n hx hb dS_encloses_15 rfl (lv_at hl 0 rfl) ?_
        refine va_get (D := (dC, dI)) (ci := 0) (v := .int (sN v)) (C := R_S) (T := T_S) (N := 8) hx hb hw in_S hown hK hPa 0 rfl rfl 6 (by decide) (hw _ w_52) (fun _ h9 => h9) rfl dS_encloses_16 ?_
        refine lv_icmp_ge (tgt := 113) hx hb dS_encloses_19 (by decide) (fun c2 => ?_) (fun c2 => ?_)
        · have h := it_t c2 h
          exact k113 p5 h ls (lv_sub hl [3] rfl)
        · have h := it_f c2 h
          refine lv_aload_n hx hb dS_encloses_22 rfl (lv_at hl 0 rfl) ?_
          refine va_get (D := (dC, dI)) (ci := 0) (v := .ref ay) (C := R_S) (T := T_S) (N := 8) hx hb hw in_S hown hK hPa 0 rfl rfl 4 (by decide) (hw _ w_48) (fun _ h9 => h9) rfl dS_encloses_23 ?_
          refine lv_iload hx hb dS_encloses_26 (lv_at hl 4 rfl) ?_
          obtain ⟨u3, hu3, h⟩ := ob_some h
          obtain ⟨hiu3, eu3⟩ := ld_of hu3
          refine va_lald hx hb hK hPa 2 0 rfl rfl hiu3 dS_encloses_28 ?_
          rw [eu3]
          refine lv_lload_n hx hb dS_encloses_29 rfl (lv_at hl 2 rfl) ?_
          refine W.lcmp hx hb dS_encloses_30 ?_
          refine lv_if_le (tgt := 38) hx hb dS_encloses_31 (by decide) (fun c4 => ?_) (fun c4 => ?_)
          · have h := it_t c4 h
            refine lv_iconst (v := 0) hx hb dS_encloses_38 (by decide) ?_
            exact k39 p1 p3 p5 p6 (0 : Int32) h ls (lv_sub hl [0, 1, 2, 3, 4] rfl)
          · have h := it_f c4 h
            refine lv_iconst (v := 1) hx hb dS_encloses_34 (by decide) ?_
            refine lv_goto (tgt := 39) hx hb dS_encloses_35 (by decide) ?_
            exact k39 p1 p3 p5 p6 (1 : Int32) h ls (lv_sub hl [0, 1, 2, 3, 4] rfl)
  unfold f_S_encloses at h
  refine lv_iconst (v := 0) hx hb dS_encloses_0 (by decide) ?_
  refine lv_istore (lv' := [(5, .int (0 : Int32)), (0, .ref a), (1, .long x1), (3, .long x3)]) hx hb dS_encloses_1 hl (by decide) rfl (fun ls hl => ?_)
  refine lv_iconst (v := 0) hx hb dS_encloses_3 (by decide) ?_
  refine lv_istore (lv' := [(6, .int (0 : Int32)), (5, .int (0 : Int32)), (0, .ref a), (1, .long x1), (3, .long x3)]) hx hb dS_encloses_4 hl (by decide) rfl (fun ls hl => ?_)
  exact k6 64 x1 x3 (0 : Int32) (0 : Int32) h ls (lv_sub hl [2, 3, 4, 1, 0] rfl)
theorem dS_enclosesCornerOf_0 : decode cS_enclosesCornerOf 0 = .ok (.iconst 0, 1) := by decide +kernel
theorem dS_enclosesCornerOf_1 : decode cS_enclosesCornerOf 1 = .ok (.istore_n 2, 1) := by decide +kernel
theorem dS_enclosesCornerOf_2 : decode cS_enclosesCornerOf 2 = .ok (.iload_n 2, 1) := by decide +kernel
theorem dS_enclosesCornerOf_3 : decode cS_enclosesCornerOf 3 = .ok (.aload_n 1, 1) := by decide +kernel
theorem dS_enclosesCornerOf_4 : decode cS_enclosesCornerOf 4 = .ok (.getfield 34, 3) := by decide +kernel
theorem dS_enclosesCornerOf_7 : decode cS_enclosesCornerOf 7 = .ok (.if_icmp .ge 30, 3) := by decide +kernel
theorem dS_enclosesCornerOf_10 : decode cS_enclosesCornerOf 10 = .ok (.aload_n 0, 1) := by decide +kernel
theorem dS_enclosesCornerOf_11 : decode cS_enclosesCornerOf 11 = .ok (.aload_n 1, 1) := by decide +kernel
theorem dS_enclosesCornerOf_12 : decode cS_enclosesCornerOf 12 = .ok (.getfield 23, 3) := by decide +kernel
theorem dS_enclosesCornerOf_15 : decode cS_enclosesCornerOf 15 = .ok (.iload_n 2, 1) := by decide +kernel
theorem dS_enclosesCornerOf_16 : decode cS_enclosesCornerOf 16 = .ok (.laload, 1) := by decide +kernel
theorem dS_enclosesCornerOf_17 : decode cS_enclosesCornerOf 17 = .ok (.aload_n 1, 1) := by decide +kernel
theorem dS_enclosesCornerOf_18 : decode cS_enclosesCornerOf 18 = .ok (.getfield 27, 3) := by decide +kernel
theorem dS_enclosesCornerOf_21 : decode cS_enclosesCornerOf 21 = .ok (.iload_n 2, 1) := by decide +kernel
theorem dS_enclosesCornerOf_22 : decode cS_enclosesCornerOf 22 = .ok (.laload, 1) := by decide +kernel
theorem dS_enclosesCornerOf_23 : decode cS_enclosesCornerOf 23 = .ok (.invokevirtual 72, 3) := by decide +kernel
theorem dS_enclosesCornerOf_26 : decode cS_enclosesCornerOf 26 = .ok (.ifCond .eq 5, 3) := by decide +kernel
theorem dS_enclosesCornerOf_29 : decode cS_enclosesCornerOf 29 = .ok (.iconst 1, 1) := by decide +kernel
theorem dS_enclosesCornerOf_30 : decode cS_enclosesCornerOf 30 = .ok (.ireturn, 1) := by decide +kernel
theorem dS_enclosesCornerOf_31 : decode cS_enclosesCornerOf 31 = .ok (.iinc 2 1, 3) := by decide +kernel
theorem dS_enclosesCornerOf_34 : decode cS_enclosesCornerOf 34 = .ok (.goto (-32), 3) := by decide +kernel
theorem dS_enclosesCornerOf_37 : decode cS_enclosesCornerOf 37 = .ok (.iconst 0, 1) := by decide +kernel
theorem dS_enclosesCornerOf_38 : decode cS_enclosesCornerOf 38 = .ok (.ireturn, 1) := by decide +kernel
def f_S_enclosesCornerOf_l2 (v : SV) (w : SV) : Nat → Int32 → Option Int32
 | 0, _ => none
 | n + 1, p2 => (if (sN w) ≤ p2 then rb (0 : Int32) else (ld 48 (sX w) p2).bind fun u2 => (ld 48 (sY w) p2).bind fun u3 => (f_S_encloses v u2 u3).bind fun u4 => (if u4 = 0 then ((f_S_enclosesCornerOf_l2 v w n) (p2 + 1)) else rb (1 : Int32)))
def f_S_enclosesCornerOf (v : SV) (w : SV) : Option Int32 := (f_S_enclosesCornerOf_l2 v w 64 (0 : Int32))
set_option maxHeartbeats 4000000 in
set_option maxRecDepth 100000 in
theorem k_S_enclosesCornerOf (l : Launch) (dC : Nat → ClassId) (dI : Nat → Nat → Nat) (cL cI : ClassId) (a ax ay ae : Nat) (v : SV) (o ox oy oe : Nat) (w : SV) (r : Int32) (h : f_S_enclosesCornerOf v w = some r) : Met l yS_enclosesCornerOf wsS_enclosesCornerOf ({ frames := 2, cells := 0, slots := 0, locals := 54 }) (rd_Pc [.ref a, .ref o] (fun H => va_P (dC, dI) cls3 (shW cL cI a ax ay ae v) H ∧ va_P (dC, dI) cls3 (shW cL cI o ox oy oe w) H) (dC, dI) cls3 [(cL, .long), (cI, .int)]) (vp_Si (fun z => z = r)) 0 0 (fun _ => False) := by
  refine Met.ofW (cc := cS_enclosesCornerOf) (maxL := 3) (ret := (some .boolean)) (by decide) rfl ?_
  intro p e s m args below meth c s₁ B hml hv
  obtain ⟨rfl, ⟨hPa, hPo⟩, hK⟩ := hv
  have hx := B.exec
  have hb := B.bytes
  have hr := B.returns
  have hw : ∀ w ∈ wG, w.before ([.ref a, .ref o] : List Value).toArray s = true := fun w hq => atoms_spec (ws := wsS_enclosesCornerOf) B.pre w (List.mem_cons_of_mem _ hq)
  have hown : s.vm.findClass R_S = some m.cls := findClass_of_methodNamed B.named
  have hlocks := B.notSynchronized
  have hl := lv_entry ([.ref a, .ref o] : List Value) (n := 3) (Nat.le_of_ble_eq_true rfl)
  rw [lg_entry_eq]
  generalize (lg_sl ([.ref a, .ref o] : List Value) ++ List.replicate (3 - (lg_sl ([.ref a, .ref o] : List Value)).length) Slot.unset).toArray = ls at hl ⊢
  have hl : lv_has ls 3 [(0, .ref a), (1, .ref o)] := hl
  have k2 : ∀ (n2 : Nat), ∀ (p2 : Int32), f_S_enclosesCornerOf_l2 v w n2 p2 = some r →  ∀ (ls : Array Slot), lv_has ls 3 [(0, .ref a), (1, .ref o), (2, .int p2)] → W p l e (headSpec wsS_enclosesCornerOf ({ frames := 2, cells := 0, slots := 0, locals := 54 })).room s m ([.ref a, .ref o] : List Value).toArray below meth c s.heap [] 0 0 (MQ below (vp_Si (fun z => z = r)) ([.ref a, .ref o] : List Value).toArray s 0 0 (fun _ => False)) (F0 m 2 ls []) := by
    intro n2
    induction n2 with
    | zero => intro p2 h; exact absurd h (by simp [f_S_enclosesCornerOf_l2])
    | succ n2 ih2 =>
      intro p2 h  ls hl
      rw [f_S_enclosesCornerOf_l2] at h
      refine lv_iload_n hx hb dS_enclosesCornerOf_2 rfl (lv_at hl 2 rfl) ?_
      refine lv_aload_n hx hb dS_enclosesCornerOf_3 rfl (lv_at hl 1 rfl) ?_
      refine va_get (D := (dC, dI)) (ci := 0) (v := .int (sN w)) (C := R_S) (T := T_S) (N := 8) hx hb hw in_S hown hK hPo 0 rfl rfl 6 (by decide) (hw _ w_52) (fun _ h9 => h9) rfl dS_enclosesCornerOf_4 ?_
      refine lv_icmp_ge (tgt := 37) hx hb dS_enclosesCornerOf_7 (by decide) (fun c1 => ?_) (fun c1 => ?_)
      · have h := it_t c1 h
        refine lv_iconst (v := 0) hx hb dS_enclosesCornerOf_37 (by decide) ?_
        obtain ⟨hz, hr9⟩ := rb_of h
        exact W.zret hx hb hr hz (fun t ht hW => ⟨_, rfl, hr9, ht⟩) nil_locs dS_enclosesCornerOf_38
      · have h := it_f c1 h
        refine lv_aload_n hx hb dS_enclosesCornerOf_10 rfl (lv_at hl 0 rfl) ?_
        refine lv_aload_n hx hb dS_enclosesCornerOf_11 rfl (lv_at hl 1 rfl) ?_
        refine va_get (D := (dC, dI)) (ci := 0) (v := .ref ox) (C := R_S) (T := T_S) (N := 8) hx hb hw in_S hown hK hPo 0 rfl rfl 3 (by decide) (hw _ w_46) (fun _ h9 => h9) rfl dS_enclosesCornerOf_12 ?_
        refine lv_iload_n hx hb dS_enclosesCornerOf_15 rfl (lv_at hl 2 rfl) ?_
        obtain ⟨u2, hu2, h⟩ := ob_some h
        obtain ⟨hiu2, eu2⟩ := ld_of hu2
        refine va_lald hx hb hK hPo 1 0 rfl rfl hiu2 dS_enclosesCornerOf_16 ?_
        rw [eu2]
        refine lv_aload_n hx hb dS_enclosesCornerOf_17 rfl (lv_at hl 1 rfl) ?_
        refine va_get (D := (dC, dI)) (ci := 0) (v := .ref oy) (C := R_S) (T := T_S) (N := 8) hx hb hw in_S hown hK hPo 0 rfl rfl 4 (by decide) (hw _ w_48) (fun _ h9 => h9) rfl dS_enclosesCornerOf_18 ?_
        refine lv_iload_n hx hb dS_enclosesCornerOf_21 rfl (lv_at hl 2 rfl) ?_
        obtain ⟨u3, hu3, h⟩ := ob_some h
        obtain ⟨hiu3, eu3⟩ := ld_of hu3
        refine va_lald hx hb hK hPo 2 0 rfl rfl hiu3 dS_enclosesCornerOf_22 ?_
        rw [eu3]
        obtain ⟨u4, hu4, h⟩ := ob_some h
        refine vp_callSi (va_Run.run (va_runV (As := [.long u2, .long u3]) (rest := []) ⟨hx, hb, hml, hown, hw⟩ (k_S_encloses l dC dI cL cI a ax ay ae v u2 u3 u4 hu4) (cwV 2 hw (gV w_371 w_350 w_351 w_7 w_352) rfl rfl rfl (by decide +kernel) ⟨Nat.le_of_ble_eq_true rfl, Nat.le_of_ble_eq_true rfl⟩) ⟨rd_blind, va_recv hK hPa (ci := 0) (q0 := 0) rfl rfl, rd_pre hPa hK⟩ rfl rfl hl.1 rfl (lv_room (Nat.le_of_ble_eq_true rfl)) dS_enclosesCornerOf_23 ⟨Nat.le_of_ble_eq_true rfl, Nat.le_of_ble_eq_true rfl⟩)) (fun z hz => ?_)
        rw [hz]; clear hz
        refine lv_if_eq (tgt := 31) hx hb dS_enclosesCornerOf_26 (by decide) (fun c5 => ?_) (fun c5 => ?_)
        · have h := it_t c5 h
          refine lv_iinc (v := p2 + 1) (lv' := [(2, .int (p2 + 1)), (0, .ref a), (1, .ref o)]) hx hb dS_enclosesCornerOf_31 hl (k := 2) rfl rfl (by decide) rfl (fun ls hl => ?_)
          refine lv_goto (tgt := 2) hx hb dS_enclosesCornerOf_34 (by decide) ?_
          exact ih2 (p2 + 1) h ls (lv_sub hl [1, 2, 0] rfl)
        · have h := it_f c5 h
          refine lv_iconst (v := 1) hx hb dS_enclosesCornerOf_29 (by decide) ?_
          obtain ⟨hz, hr9⟩ := rb_of h
          exact W.zret hx hb hr hz (fun t ht hW => ⟨_, rfl, hr9, ht⟩) nil_locs dS_enclosesCornerOf_30
  unfold f_S_enclosesCornerOf at h
  refine lv_iconst (v := 0) hx hb dS_enclosesCornerOf_0 (by decide) ?_
  refine lv_istore_n (lv' := [(2, .int (0 : Int32)), (0, .ref a), (1, .ref o)]) hx hb dS_enclosesCornerOf_1 rfl hl (by decide) rfl (fun ls hl => ?_)
  exact k2 64 (0 : Int32) h ls (lv_sub hl [1, 2, 0] rfl)
theorem dS_outermost_0 : decode cS_outermost 0 = .ok (.iload_n 1, 1) := by decide +kernel
theorem dS_outermost_1 : decode cS_outermost 1 = .ok (.iconst 2, 1) := by decide +kernel
theorem dS_outermost_2 : decode cS_outermost 2 = .ok (.irem, 1) := by decide +kernel
theorem dS_outermost_3 : decode cS_outermost 3 = .ok (.ifCond .ne 10, 3) := by decide +kernel
theorem dS_outermost_6 : decode cS_outermost 6 = .ok (.aload_n 0, 1) := by decide +kernel
theorem dS_outermost_7 : decode cS_outermost 7 = .ok (.getfield 23, 3) := by decide +kernel
theorem dS_outermost_10 : decode cS_outermost 10 = .ok (.goto 7, 3) := by decide +kernel
theorem dS_outermost_13 : decode cS_outermost 13 = .ok (.aload_n 0, 1) := by decide +kernel
theorem dS_outermost_14 : decode cS_outermost 14 = .ok (.getfield 27, 3) := by decide +kernel
theorem dS_outermost_17 : decode cS_outermost 17 = .ok (.astore_n 2, 1) := by decide +kernel
theorem dS_outermost_18 : decode cS_outermost 18 = .ok (.aload_n 2, 1) := by decide +kernel
theorem dS_outermost_19 : decode cS_outermost 19 = .ok (.iconst 0, 1) := by decide +kernel
theorem dS_outermost_20 : decode cS_outermost 20 = .ok (.laload, 1) := by decide +kernel
theorem dS_outermost_21 : decode cS_outermost 21 = .ok (.lstore_n 3, 1) := by decide +kernel
theorem dS_outermost_22 : decode cS_outermost 22 = .ok (.aload_n 2, 1) := by decide +kernel
theorem dS_outermost_23 : decode cS_outermost 23 = .ok (.iconst 0, 1) := by decide +kernel
theorem dS_outermost_24 : decode cS_outermost 24 = .ok (.laload, 1) := by decide +kernel
theorem dS_outermost_25 : decode cS_outermost 25 = .ok (.lstore 5, 2) := by decide +kernel
theorem dS_outermost_27 : decode cS_outermost 27 = .ok (.iconst 1, 1) := by decide +kernel
theorem dS_outermost_28 : decode cS_outermost 28 = .ok (.istore 7, 2) := by decide +kernel
theorem dS_outermost_30 : decode cS_outermost 30 = .ok (.iload 7, 2) := by decide +kernel
theorem dS_outermost_32 : decode cS_outermost 32 = .ok (.aload_n 0, 1) := by decide +kernel
theorem dS_outermost_33 : decode cS_outermost 33 = .ok (.getfield 34, 3) := by decide +kernel
theorem dS_outermost_36 : decode cS_outermost 36 = .ok (.if_icmp .ge 29, 3) := by decide +kernel
theorem dS_outermost_39 : decode cS_outermost 39 = .ok (.lload_n 3, 1) := by decide +kernel
theorem dS_outermost_40 : decode cS_outermost 40 = .ok (.aload_n 2, 1) := by decide +kernel
theorem dS_outermost_41 : decode cS_outermost 41 = .ok (.iload 7, 2) := by decide +kernel
theorem dS_outermost_43 : decode cS_outermost 43 = .ok (.laload, 1) := by decide +kernel
theorem dS_outermost_44 : decode cS_outermost 44 = .ok (.invokestatic 63, 3) := by decide +kernel
theorem dS_outermost_47 : decode cS_outermost 47 = .ok (.lstore_n 3, 1) := by decide +kernel
theorem dS_outermost_48 : decode cS_outermost 48 = .ok (.lload 5, 2) := by decide +kernel
theorem dS_outermost_50 : decode cS_outermost 50 = .ok (.aload_n 2, 1) := by decide +kernel
theorem dS_outermost_51 : decode cS_outermost 51 = .ok (.iload 7, 2) := by decide +kernel
theorem dS_outermost_53 : decode cS_outermost 53 = .ok (.laload, 1) := by decide +kernel
theorem dS_outermost_54 : decode cS_outermost 54 = .ok (.invokestatic 69, 3) := by decide +kernel
theorem dS_outermost_57 : decode cS_outermost 57 = .ok (.lstore 5, 2) := by decide +kernel
theorem dS_outermost_59 : decode cS_outermost 59 = .ok (.iinc 7 1, 3) := by decide +kernel
theorem dS_outermost_62 : decode cS_outermost 62 = .ok (.goto (-32), 3) := by decide +kernel
theorem dS_outermost_65 : decode cS_outermost 65 = .ok (.iload_n 1, 1) := by decide +kernel
theorem dS_outermost_66 : decode cS_outermost 66 = .ok (.iconst 2, 1) := by decide +kernel
theorem dS_outermost_67 : decode cS_outermost 67 = .ok (.if_icmp .ge 12, 3) := by decide +kernel
theorem dS_outermost_70 : decode cS_outermost 70 = .ok (.lload_n 3, 1) := by decide +kernel
theorem dS_outermost_71 : decode cS_outermost 71 = .ok (.aload_n 0, 1) := by decide +kernel
theorem dS_outermost_72 : decode cS_outermost 72 = .ok (.getfield 19, 3) := by decide +kernel
theorem dS_outermost_75 : decode cS_outermost 75 = .ok (.lsub, 1) := by decide +kernel
theorem dS_outermost_76 : decode cS_outermost 76 = .ok (.goto 10, 3) := by decide +kernel
theorem dS_outermost_79 : decode cS_outermost 79 = .ok (.lload 5, 2) := by decide +kernel
theorem dS_outermost_81 : decode cS_outermost 81 = .ok (.aload_n 0, 1) := by decide +kernel
theorem dS_outermost_82 : decode cS_outermost 82 = .ok (.getfield 19, 3) := by decide +kernel
theorem dS_outermost_85 : decode cS_outermost 85 = .ok (.ladd, 1) := by decide +kernel
theorem dS_outermost_86 : decode cS_outermost 86 = .ok (.lreturn, 1) := by decide +kernel
def f_S_outermost_j86 (v : SV) (s0 : Int64) : Option Int64 := some s0
def f_S_outermost_l30 (v : SV) : Nat → Int32 → (Nat → Int64) → Int64 → Int64 → Int32 → Option Int64
 | 0, _, _, _, _, _ => none
 | n + 1, p1, f2, p3, p5, p7 => (if (sN v) ≤ p7 then (if (2 : Int32) ≤ p1 then (f_S_outermost_j86 v (p5 + (sR v))) else (f_S_outermost_j86 v (p3 - (sR v)))) else (ld 48 f2 p7).bind fun u6 => (some (if u6 < p3 then u6 else p3)).bind fun u7 => (ld 48 f2 p7).bind fun u8 => (some (if u8 < p5 then p5 else u8)).bind fun u9 => ((f_S_outermost_l30 v n) p1 f2 u7 u9 (p7 + 1)))
def f_S_outermost_j17 (v : SV) (p1 : Int32) (fs0 : Nat → Int64) : Option Int64 := (ld 48 fs0 (0 : Int32)).bind fun u2 => (ld 48 fs0 (0 : Int32)).bind fun u3 => (f_S_outermost_l30 v 64 p1 fs0 u2 u3 (1 : Int32))
def f_S_outermost (v : SV) (x1 : Int32) : Option Int64 := (if (x1 - x1 / (2 : Int32) * (2 : Int32)) = 0 then (f_S_outermost_j17 v x1 (sX v)) else (f_S_outermost_j17 v x1 (sY v)))
set_option maxHeartbeats 4000000 in
set_option maxRecDepth 100000 in
theorem k_S_outermost (l : Launch) (dC : Nat → ClassId) (dI : Nat → Nat → Nat) (cL cI : ClassId) (a ax ay ae : Nat) (v : SV) (x1 : Int32) (r : Int64) (h : f_S_outermost v x1 = some r) : Met l yS_outermost wsS_outermost ({ frames := 1, cells := 0, slots := 0, locals := 23 }) (rd_Pc [.ref a, .int x1] (fun H => va_P (dC, dI) cls3 (shW cL cI a ax ay ae v) H) (dC, dI) cls3 [(cL, .long), (cI, .int)]) (vp_Sl (fun z => z = r)) 0 0 (fun _ => False) := by
  refine Met.ofW (cc := cS_outermost) (maxL := 8) (ret := (some .long)) (by decide) rfl ?_
  intro p e s m args below meth c s₁ B hml hv
  obtain ⟨rfl, hPa, hK⟩ := hv
  have hx := B.exec
  have hb := B.bytes
  have hr := B.returns
  have hw : ∀ w ∈ wG, w.before ([.ref a, .int x1] : List Value).toArray s = true := fun w hq => atoms_spec (ws := wsS_outermost) B.pre w (List.mem_cons_of_mem _ hq)
  have hown : s.vm.findClass R_S = some m.cls := findClass_of_methodNamed B.named
  have hlocks := B.notSynchronized
  have hl := lv_entry ([.ref a, .int x1] : List Value) (n := 8) (Nat.le_of_ble_eq_true rfl)
  rw [lg_entry_eq]
  generalize (lg_sl ([.ref a, .int x1] : List Value) ++ List.replicate (8 - (lg_sl ([.ref a, .int x1] : List Value)).length) Slot.unset).toArray = ls at hl ⊢
  have hl : lv_has ls 8 [(0, .ref a), (1, .int x1)] := hl
  have k86 : ∀ (s0 : Int64), f_S_outermost_j86 v s0 = some r →  ∀ (ls : Array Slot), lv_has ls 8 [] → W p l e (headSpec wsS_outermost ({ frames := 1, cells := 0, slots := 0, locals := 23 })).room s m ([.ref a, .int x1] : List Value).toArray below meth c s.heap [] 0 0 (MQ below (vp_Sl (fun z => z = r)) ([.ref a, .int x1] : List Value).toArray s 0 0 (fun _ => False)) (F0 m 86 ls [.long s0]) := by
    intro s0 h  ls hl
    unfold f_S_outermost_j86 at h
    exact W.lret hx hb hr (fun t ht hW => ⟨_, rfl, Option.some.inj h, ht⟩) nil_locs dS_outermost_86
  have k30 : ∀ (n30 : Nat), ∀ (p1 : Int32) (f2 : Nat → Int64) (p3 : Int64) (p5 : Int64) (p7 : Int32), f_S_outermost_l30 v n30 p1 f2 p3 p5 p7 = some r → ∀ (q2 : Nat), va_P (dC, dI) cls3 [(q2, .inl (cL, 48, .inr (.inl f2)))] s.heap → ∀ (ls : Array Slot), lv_has ls 8 [(0, .ref a), (1, .int p1), (2, .ref q2), (3, .long p3), (5, .long p5), (7, .int p7)] → W p l e (headSpec wsS_outermost ({ frames := 1, cells := 0, slots := 0, locals := 23 })).room s m ([.ref a, .int x1] : List Value).toArray below meth c s.heap [] 0 0 (MQ below (vp_Sl (fun z => z = r)) ([.ref a, .int x1] : List Value).toArray s 0 0 (fun _ => False)) (F0 m 30 ls []) := by
    intro n30
    induction n30 with
    | zero => intro p1 f2 p3 p5 p7 h; exact absurd h (by simp [f_S_outermost_l30])
    | succ n30 ih30 =>
      intro p1 f2 p3 p5 p7 h q2 hq2 ls hl
      rw [f_S_outermost_l30] at h
      refine lv_iload hx hb dS_outermost_30 (lv_at hl 5 rfl) ?_
      refine lv_aload_n hx hb dS_outermost_32 rfl (lv_at hl 0 rfl) ?_
      refine va_get (D := (dC, dI)) (ci := 0) (v := .int (sN v)) (C := R_S) (T := T_S) (N := 8) hx hb hw in_S hown hK hPa 0 rfl rfl 6 (by decide) (hw _ w_52) (fun _ h9 => h9) rfl dS_outermost_33 ?_
      refine lv_icmp_ge (tgt := 65) hx hb dS_outermost_36 (by decide) (fun c4 => ?_) (fun c4 => ?_)
      · have h := it_t c4 h
        refine lv_iload_n hx hb dS_outermost_65 rfl (lv_at hl 1 rfl) ?_
        refine lv_iconst (v := 2) hx hb dS_outermost_66 (by decide) ?_
        refine lv_icmp_ge (tgt := 79) hx hb dS_outermost_67 (by decide) (fun c5 => ?_) (fun c5 => ?_)
        · have h := it_t c5 h
          refine lv_lload hx hb dS_outermost_79 (lv_at hl 4 rfl) ?_
          refine lv_aload_n hx hb dS_outermost_81 rfl (lv_at hl 0 rfl) ?_
          refine va_get (D := (dC, dI)) (ci := 0) (v := .long (sR v)) (C := R_S) (T := T_S) (N := 8) hx hb hw in_S hown hK hPa 0 rfl rfl 2 (by decide) (hw _ w_44) (fun _ h9 => h9) rfl dS_outermost_82 ?_
          refine lv_ladd hx hb dS_outermost_85 ?_
          exact k86 (p5 + (sR v)) h ls (lv_sub hl [] rfl)
        · have h := it_f c5 h
          refine lv_lload_n hx hb dS_outermost_70 rfl (lv_at hl 3 rfl) ?_
          refine lv_aload_n hx hb dS_outermost_71 rfl (lv_at hl 0 rfl) ?_
          refine va_get (D := (dC, dI)) (ci := 0) (v := .long (sR v)) (C := R_S) (T := T_S) (N := 8) hx hb hw in_S hown hK hPa 0 rfl rfl 2 (by decide) (hw _ w_44) (fun _ h9 => h9) rfl dS_outermost_72 ?_
          refine lv_lsub hx hb dS_outermost_75 ?_
          refine lv_goto (tgt := 86) hx hb dS_outermost_76 (by decide) ?_
          exact k86 (p3 - (sR v)) h ls (lv_sub hl [] rfl)
      · have h := it_f c4 h
        refine lv_lload_n hx hb dS_outermost_39 rfl (lv_at hl 3 rfl) ?_
        refine lv_aload_n hx hb dS_outermost_40 rfl (lv_at hl 2 rfl) ?_
        refine lv_iload hx hb dS_outermost_41 (lv_at hl 5 rfl) ?_
        obtain ⟨u6, hu6, h⟩ := ob_some h
        obtain ⟨hiu6, eu6⟩ := ld_of hu6
        refine va_lald hx hb hK hq2 0 0 rfl rfl hiu6 dS_outermost_43 ?_
        rw [eu6]
        obtain ⟨u7, hu7, h⟩ := ob_some h
        refine va_mmin_long hx hb (hml.trans hl.1.symm) hown (hw _ w_390) (hw _ w_279) (hw _ w_11) (hw _ wm_min_J) (Nat.le_of_ble_eq_true rfl) (Nat.le_of_ble_eq_true rfl) (Nat.le_of_ble_eq_true rfl) (Nat.le_of_ble_eq_true rfl) dS_outermost_44 ?_
        rw [Option.some.inj hu7]
        refine lv_lstore_n (lv' := [(3, .long u7), (0, .ref a), (1, .int p1), (2, .ref q2), (5, .long p5), (7, .int p7)]) hx hb dS_outermost_47 rfl hl (by decide) rfl (fun ls hl => ?_)
        refine lv_lload hx hb dS_outermost_48 (lv_at hl 4 rfl) ?_
        refine lv_aload_n hx hb dS_outermost_50 rfl (lv_at hl 3 rfl) ?_
        refine lv_iload hx hb dS_outermost_51 (lv_at hl 5 rfl) ?_
        obtain ⟨u8, hu8, h⟩ := ob_some h
        obtain ⟨hiu8, eu8⟩ := ld_of hu8
        refine va_lald hx hb hK hq2 0 0 rfl rfl hiu8 dS_outermost_53 ?_
        rw [eu8]
        obtain ⟨u9, hu9, h⟩ := ob_some h
        refine va_mmax_long hx hb (hml.trans hl.1.symm) hown (hw _ w_391) (hw _ w_282) (hw _ w_11) (hw _ wm_max_J) (Nat.le_of_ble_eq_true rfl) (Nat.le_of_ble_eq_true rfl) (Nat.le_of_ble_eq_true rfl) (Nat.le_of_ble_eq_true rfl) dS_outermost_54 ?_
        rw [Option.some.inj hu9]
        refine lv_lstore (lv' := [(5, .long u9), (3, .long u7), (0, .ref a), (1, .int p1), (2, .ref q2), (7, .int p7)]) hx hb dS_outermost_57 hl (by decide) rfl (fun ls hl => ?_)
        refine lv_iinc (v := p7 + 1) (lv' := [(7, .int (p7 + 1)), (5, .long u9), (3, .long u7), (0, .ref a), (1, .int p1), (2, .ref q2)]) hx hb dS_outermost_59 hl (k := 5) rfl rfl (by decide) rfl (fun ls hl => ?_)
        refine lv_goto (tgt := 30) hx hb dS_outermost_62 (by decide) ?_
        exact ih30 p1 f2 u7 u9 (p7 + 1) h q2 hq2 ls (lv_sub hl [3, 4, 5, 2, 1, 0] rfl)
  have k17 : ∀ (p1 : Int32) (fs0 : Nat → Int64), f_S_outermost_j17 v p1 fs0 = some r → ∀ (qs0 : Nat), va_P (dC, dI) cls3 [(qs0, .inl (cL, 48, .inr (.inl fs0)))] s.heap → ∀ (ls : Array Slot), lv_has ls 8 [(0, .ref a), (1, .int p1)] → W p l e (headSpec wsS_outermost ({ frames := 1, cells := 0, slots := 0, locals := 23 })).room s m ([.ref a, .int x1] : List Value).toArray below meth c s.heap [] 0 0 (MQ below (vp_Sl (fun z => z = r)) ([.ref a, .int x1] : List Value).toArray s 0 0 (fun _ => False)) (F0 m 17 ls [.ref qs0]) := by
    intro p1 fs0 h qs0 hqs0 ls hl
    unfold f_S_outermost_j17 at h
    refine lv_astore_n (lv' := [(2, .ref qs0), (0, .ref a), (1, .int p1)]) hx hb dS_outermost_17 rfl hl (by decide) rfl (fun ls hl => ?_)
    refine lv_aload_n hx hb dS_outermost_18 rfl (lv_at hl 0 rfl) ?_
    refine lv_iconst (v := 0) hx hb dS_outermost_19 (by decide) ?_
    obtain ⟨u2, hu2, h⟩ := ob_some h
    obtain ⟨hiu2, eu2⟩ := ld_of hu2
    refine va_lald hx hb hK hqs0 0 0 rfl rfl hiu2 dS_outermost_20 ?_
    rw [eu2]
    refine lv_lstore_n (lv' := [(3, .long u2), (2, .ref qs0), (0, .ref a), (1, .int p1)]) hx hb dS_outermost_21 rfl hl (by decide) rfl (fun ls hl => ?_)
    refine lv_aload_n hx hb dS_outermost_22 rfl (lv_at hl 1 rfl) ?_
    refine lv_iconst (v := 0) hx hb dS_outermost_23 (by decide) ?_
    obtain ⟨u3, hu3, h⟩ := ob_some h
    obtain ⟨hiu3, eu3⟩ := ld_of hu3
    refine va_lald hx hb hK hqs0 0 0 rfl rfl hiu3 dS_outermost_24 ?_
    rw [eu3]
    refine lv_lstore (lv' := [(5, .long u3), (3, .long u2), (2, .ref qs0), (0, .ref a), (1, .int p1)]) hx hb dS_outermost_25 hl (by decide) rfl (fun ls hl => ?_)
    refine lv_iconst (v := 1) hx hb dS_outermost_27 (by decide) ?_
    refine lv_istore (lv' := [(7, .int (1 : Int32)), (5, .long u3), (3, .long u2), (2, .ref qs0), (0, .ref a), (1, .int p1)]) hx hb dS_outermost_28 hl (by decide) rfl (fun ls hl => ?_)
    exact k30 64 p1 fs0 u2 u3 (1 : Int32) h qs0 hqs0 ls (lv_sub hl [4, 5, 3, 2, 1, 0] rfl)
  unfold f_S_outermost at h
  refine lv_iload_n hx hb dS_outermost_0 rfl (lv_at hl 1 rfl) ?_
  refine lv_iconst (v := 2) hx hb dS_outermost_1 (by decide) ?_
  refine lv_irem hx hb dS_outermost_2 (by decide) ?_
  refine lv_if_ne (tgt := 13) hx hb dS_outermost_3 (by decide) (fun c1 => ?_) (fun c1 => ?_)
  · have h := it_f c1 h
    refine lv_aload_n hx hb dS_outermost_13 rfl (lv_at hl 0 rfl) ?_
    refine va_get (D := (dC, dI)) (ci := 0) (v := .ref ay) (C := R_S) (T := T_S) (N := 8) hx hb hw in_S hown hK hPa 0 rfl rfl 4 (by decide) (hw _ w_48) (fun _ h9 => h9) rfl dS_outermost_14 ?_
    exact k17 x1 (sY v) h ay (hPa.sub [2] rfl) ls (lv_sub hl [0, 1] rfl)
  · have h := it_t c1 h
    refine lv_aload_n hx hb dS_outermost_6 rfl (lv_at hl 0 rfl) ?_
    refine va_get (D := (dC, dI)) (ci := 0) (v := .ref ax) (C := R_S) (T := T_S) (N := 8) hx hb hw in_S hown hK hPa 0 rfl rfl 3 (by decide) (hw _ w_46) (fun _ h9 => h9) rfl dS_outermost_7 ?_
    refine lv_goto (tgt := 17) hx hb dS_outermost_10 (by decide) ?_
    exact k17 x1 (sX v) h ax (hPa.sub [1] rfl) ls (lv_sub hl [0, 1] rfl)
theorem dS_hasOpenRing_0 : decode cS_hasOpenRing 0 = .ok (.aload_n 0, 1) := by decide +kernel
theorem dS_hasOpenRing_1 : decode cS_hasOpenRing 1 = .ok (.getfield 9, 3) := by decide +kernel
theorem dS_hasOpenRing_4 : decode cS_hasOpenRing 4 = .ok (.iconst 2, 1) := by decide +kernel
theorem dS_hasOpenRing_5 : decode cS_hasOpenRing 5 = .ok (.if_icmp .ne 18, 3) := by decide +kernel
theorem dS_hasOpenRing_8 : decode cS_hasOpenRing 8 = .ok (.aload_n 0, 1) := by decide +kernel
theorem dS_hasOpenRing_9 : decode cS_hasOpenRing 9 = .ok (.getfield 37, 3) := by decide +kernel
theorem dS_hasOpenRing_12 : decode cS_hasOpenRing 12 = .ok (.aload_n 0, 1) := by decide +kernel
theorem dS_hasOpenRing_13 : decode cS_hasOpenRing 13 = .ok (.getfield 34, 3) := by decide +kernel
theorem dS_hasOpenRing_16 : decode cS_hasOpenRing 16 = .ok (.if_icmp .ge 7, 3) := by decide +kernel
theorem dS_hasOpenRing_19 : decode cS_hasOpenRing 19 = .ok (.iconst 1, 1) := by decide +kernel
theorem dS_hasOpenRing_20 : decode cS_hasOpenRing 20 = .ok (.goto 4, 3) := by decide +kernel
theorem dS_hasOpenRing_23 : decode cS_hasOpenRing 23 = .ok (.iconst 0, 1) := by decide +kernel
theorem dS_hasOpenRing_24 : decode cS_hasOpenRing 24 = .ok (.ireturn, 1) := by decide +kernel
def f_S_hasOpenRing_j24 (v : SV) (s0 : Int32) : Option Int32 := rb s0
def f_S_hasOpenRing_j23 (v : SV) : Option Int32 := (f_S_hasOpenRing_j24 v (0 : Int32))
def f_S_hasOpenRing (v : SV) : Option Int32 := (if (sF v) = (2 : Int32) then (if (sN v) ≤ (sO v) then (f_S_hasOpenRing_j23 v) else (f_S_hasOpenRing_j24 v (1 : Int32))) else (f_S_hasOpenRing_j23 v))
set_option maxHeartbeats 4000000 in
set_option maxRecDepth 100000 in
theorem k_S_hasOpenRing (l : Launch) (dC : Nat → ClassId) (dI : Nat → Nat → Nat) (cL cI : ClassId) (a ax ay ae : Nat) (v : SV) (r : Int32) (h : f_S_hasOpenRing v = some r) : Met l yS_hasOpenRing wsS_hasOpenRing ({ frames := 0, cells := 0, slots := 0, locals := 0 }) (rd_Pc [.ref a] (fun H => va_P (dC, dI) cls3 (shW cL cI a ax ay ae v) H) (dC, dI) cls3 [(cL, .long), (cI, .int)]) (vp_Si (fun z => z = r)) 0 0 (fun _ => False) := by
  refine Met.ofW (cc := cS_hasOpenRing) (maxL := 1) (ret := (some .boolean)) (by decide) rfl ?_
  intro p e s m args below meth c s₁ B hml hv
  obtain ⟨rfl, hPa, hK⟩ := hv
  have hx := B.exec
  have hb := B.bytes
  have hr := B.returns
  have hw : ∀ w ∈ wG, w.before ([.ref a] : List Value).toArray s = true := fun w hq => atoms_spec (ws := wsS_hasOpenRing) B.pre w (List.mem_cons_of_mem _ hq)
  have hown : s.vm.findClass R_S = some m.cls := findClass_of_methodNamed B.named
  have hlocks := B.notSynchronized
  have hl := lv_entry ([.ref a] : List Value) (n := 1) (Nat.le_of_ble_eq_true rfl)
  rw [lg_entry_eq]
  generalize (lg_sl ([.ref a] : List Value) ++ List.replicate (1 - (lg_sl ([.ref a] : List Value)).length) Slot.unset).toArray = ls at hl ⊢
  have hl : lv_has ls 1 [(0, .ref a)] := hl
  have k24 : ∀ (s0 : Int32), f_S_hasOpenRing_j24 v s0 = some r →  ∀ (ls : Array Slot), lv_has ls 1 [] → W p l e (headSpec wsS_hasOpenRing ({ frames := 0, cells := 0, slots := 0, locals := 0 })).room s m ([.ref a] : List Value).toArray below meth c s.heap [] 0 0 (MQ below (vp_Si (fun z => z = r)) ([.ref a] : List Value).toArray s 0 0 (fun _ => False)) (F0 m 24 ls [.int s0]) := by
    intro s0 h  ls hl
    unfold f_S_hasOpenRing_j24 at h
    obtain ⟨hz, hr9⟩ := rb_of h
    exact W.zret hx hb hr hz (fun t ht hW => ⟨_, rfl, hr9, ht⟩) nil_locs dS_hasOpenRing_24
  have k23 : f_S_hasOpenRing_j23 v = some r →  ∀ (ls : Array Slot), lv_has ls 1 [] → W p l e (headSpec wsS_hasOpenRing ({ frames := 0, cells := 0, slots := 0, locals := 0 })).room s m ([.ref a] : List Value).toArray below meth c s.heap [] 0 0 (MQ below (vp_Si (fun z => z = r)) ([.ref a] : List Value).toArray s 0 0 (fun _ => False)) (F0 m 23 ls []) := by
    intro  h  ls hl
    unfold f_S_hasOpenRing_j23 at h
    refine lv_iconst (v := 0) hx hb dS_hasOpenRing_23 (by decide) ?_
    exact k24 (0 : Int32) h ls (lv_sub hl [] rfl)
  unfold f_S_hasOpenRing at h
  refine lv_aload_n hx hb dS_hasOpenRing_0 rfl (lv_at hl 0 rfl) ?_
  refine va_get (D := (dC, dI)) (ci := 0) (v := .int (sF v)) (C := R_S) (T := T_S) (N := 8) hx hb hw in_S hown hK hPa 0 rfl rfl 0 (by decide) (hw _ w_40) (fun _ h9 => h9) rfl dS_hasOpenRing_1 ?_
  refine lv_iconst (v := 2) hx hb dS_hasOpenRing_4 (by decide) ?_
  refine lv_icmp_ne (tgt := 23) hx hb dS_hasOpenRing_5 (by decide) (fun c1 => ?_) (fun c1 => ?_)
  · have h := it_f c1 h
    exact k23 h ls (lv_sub hl [] rfl)
  · have h := it_t c1 h
    refine lv_aload_n hx hb dS_hasOpenRing_8 rfl (lv_at hl 0 rfl) ?_
    refine va_get (D := (dC, dI)) (ci := 0) (v := .int (sO v)) (C := R_S) (T := T_S) (N := 8) hx hb hw in_S hown hK hPa 0 rfl rfl 7 (by decide) (hw _ w_54) (fun _ h9 => h9) rfl dS_hasOpenRing_9 ?_
    refine lv_aload_n hx hb dS_hasOpenRing_12 rfl (lv_at hl 0 rfl) ?_
    refine va_get (D := (dC, dI)) (ci := 0) (v := .int (sN v)) (C := R_S) (T := T_S) (N := 8) hx hb hw in_S hown hK hPa 0 rfl rfl 6 (by decide) (hw _ w_52) (fun _ h9 => h9) rfl dS_hasOpenRing_13 ?_
    refine lv_icmp_ge (tgt := 23) hx hb dS_hasOpenRing_16 (by decide) (fun c2 => ?_) (fun c2 => ?_)
    · have h := it_t c2 h
      exact k23 h ls (lv_sub hl [] rfl)
    · have h := it_f c2 h
      refine lv_iconst (v := 1) hx hb dS_hasOpenRing_19 (by decide) ?_
      refine lv_goto (tgt := 24) hx hb dS_hasOpenRing_20 (by decide) ?_
      exact k24 (1 : Int32) h ls (lv_sub hl [] rfl)
theorem dS_isWhole_0 : decode cS_isWhole 0 = .ok (.aload_n 0, 1) := by decide +kernel
theorem dS_isWhole_1 : decode cS_isWhole 1 = .ok (.getfield 34, 3) := by decide +kernel
theorem dS_isWhole_4 : decode cS_isWhole 4 = .ok (.ifCond .le 14, 3) := by decide +kernel
theorem dS_isWhole_7 : decode cS_isWhole 7 = .ok (.aload_n 0, 1) := by decide +kernel
theorem dS_isWhole_8 : decode cS_isWhole 8 = .ok (.invokevirtual 40, 3) := by decide +kernel
theorem dS_isWhole_11 : decode cS_isWhole 11 = .ok (.ifCond .ne 7, 3) := by decide +kernel
theorem dS_isWhole_14 : decode cS_isWhole 14 = .ok (.iconst 1, 1) := by decide +kernel
theorem dS_isWhole_15 : decode cS_isWhole 15 = .ok (.goto 4, 3) := by decide +kernel
theorem dS_isWhole_18 : decode cS_isWhole 18 = .ok (.iconst 0, 1) := by decide +kernel
theorem dS_isWhole_19 : decode cS_isWhole 19 = .ok (.ireturn, 1) := by decide +kernel
def f_S_isWhole_j19 (v : SV) (s0 : Int32) : Option Int32 := rb s0
def f_S_isWhole_j18 (v : SV) : Option Int32 := (f_S_isWhole_j19 v (0 : Int32))
def f_S_isWhole (v : SV) : Option Int32 := (if (sN v) ≤ 0 then (f_S_isWhole_j18 v) else (f_S_hasOpenRing v).bind fun u2 => (if u2 = 0 then (f_S_isWhole_j19 v (1 : Int32)) else (f_S_isWhole_j18 v)))
set_option maxHeartbeats 4000000 in
set_option maxRecDepth 100000 in
theorem k_S_isWhole (l : Launch) (dC : Nat → ClassId) (dI : Nat → Nat → Nat) (cL cI : ClassId) (a ax ay ae : Nat) (v : SV) (r : Int32) (h : f_S_isWhole v = some r) : Met l yS_isWhole wsS_isWhole ({ frames := 1, cells := 0, slots := 0, locals := 20 }) (rd_Pc [.ref a] (fun H => va_P (dC, dI) cls3 (shW cL cI a ax ay ae v) H) (dC, dI) cls3 [(cL, .long), (cI, .int)]) (vp_Si (fun z => z = r)) 0 0 (fun _ => False) := by
  refine Met.ofW (cc := cS_isWhole) (maxL := 1) (ret := (some .boolean)) (by decide) rfl ?_
  intro p e s m args below meth c s₁ B hml hv
  obtain ⟨rfl, hPa, hK⟩ := hv
  have hx := B.exec
  have hb := B.bytes
  have hr := B.returns
  have hw : ∀ w ∈ wG, w.before ([.ref a] : List Value).toArray s = true := fun w hq => atoms_spec (ws := wsS_isWhole) B.pre w (List.mem_cons_of_mem _ hq)
  have hown : s.vm.findClass R_S = some m.cls := findClass_of_methodNamed B.named
  have hlocks := B.notSynchronized
  have hl := lv_entry ([.ref a] : List Value) (n := 1) (Nat.le_of_ble_eq_true rfl)
  rw [lg_entry_eq]
  generalize (lg_sl ([.ref a] : List Value) ++ List.replicate (1 - (lg_sl ([.ref a] : List Value)).length) Slot.unset).toArray = ls at hl ⊢
  have hl : lv_has ls 1 [(0, .ref a)] := hl
  have k19 : ∀ (s0 : Int32), f_S_isWhole_j19 v s0 = some r →  ∀ (ls : Array Slot), lv_has ls 1 [] → W p l e (headSpec wsS_isWhole ({ frames := 1, cells := 0, slots := 0, locals := 20 })).room s m ([.ref a] : List Value).toArray below meth c s.heap [] 0 0 (MQ below (vp_Si (fun z => z = r)) ([.ref a] : List Value).toArray s 0 0 (fun _ => False)) (F0 m 19 ls [.int s0]) := by
    intro s0 h  ls hl
    unfold f_S_isWhole_j19 at h
    obtain ⟨hz, hr9⟩ := rb_of h
    exact W.zret hx hb hr hz (fun t ht hW => ⟨_, rfl, hr9, ht⟩) nil_locs dS_isWhole_19
  have k18 : f_S_isWhole_j18 v = some r →  ∀ (ls : Array Slot), lv_has ls 1 [] → W p l e (headSpec wsS_isWhole ({ frames := 1, cells := 0, slots := 0, locals := 20 })).room s m ([.ref a] : List Value).toArray below meth c s.heap [] 0 0 (MQ below (vp_Si (fun z => z = r)) ([.ref a] : List Value).toArray s 0 0 (fun _ => False)) (F0 m 18 ls []) := by
    intro  h  ls hl
    unfold f_S_isWhole_j18 at h
    refine lv_iconst (v := 0) hx hb dS_isWhole_18 (by decide) ?_
    exact k19 (0 : Int32) h ls (lv_sub hl [] rfl)
  unfold f_S_isWhole at h
  refine lv_aload_n hx hb dS_isWhole_0 rfl (lv_at hl 0 rfl) ?_
  refine va_get (D := (dC, dI)) (ci := 0) (v := .int (sN v)) (C := R_S) (T := T_S) (N := 8) hx hb hw in_S hown hK hPa 0 rfl rfl 6 (by decide) (hw _ w_52) (fun _ h9 => h9) rfl dS_isWhole_1 ?_
  refine lv_if_le (tgt := 18) hx hb dS_isWhole_4 (by decide) (fun c1 => ?_) (fun c1 => ?_)
  · have h := it_t c1 h
    exact k18 h ls (lv_sub hl [] rfl)
  · have h := it_f c1 h
    refine lv_aload_n hx hb dS_isWhole_7 rfl (lv_at hl 0 rfl) ?_
    obtain ⟨u2, hu2, h⟩ := ob_some h
    refine vp_callSi (va_Run.run (va_runV (As := []) (rest := []) ⟨hx, hb, hml, hown, hw⟩ (k_S_hasOpenRing l dC dI cL cI a ax ay ae v u2 hu2) (cwV 0 hw (gV w_302 w_252 w_253 w_7 w_254) rfl rfl rfl (by decide +kernel) ⟨Nat.le_of_ble_eq_true rfl, Nat.le_of_ble_eq_true rfl⟩) ⟨rd_blind, va_recv hK hPa (ci := 0) (q0 := 0) rfl rfl, rd_pre hPa hK⟩ rfl rfl hl.1 rfl (lv_room (Nat.le_of_ble_eq_true rfl)) dS_isWhole_8 ⟨Nat.le_of_ble_eq_true rfl, Nat.le_of_ble_eq_true rfl⟩)) (fun z hz => ?_)
    rw [hz]; clear hz
    refine lv_if_ne (tgt := 18) hx hb dS_isWhole_11 (by decide) (fun c3 => ?_) (fun c3 => ?_)
    · have h := it_f c3 h
      exact k18 h ls (lv_sub hl [] rfl)
    · have h := it_t c3 h
      refine lv_iconst (v := 1) hx hb dS_isWhole_14 (by decide) ?_
      refine lv_goto (tgt := 19) hx hb dS_isWhole_15 (by decide) ?_
      exact k19 (1 : Int32) h ls (lv_sub hl [] rfl)
theorem dS_takesCorners_0 : decode cS_takesCorners 0 = .ok (.aload_n 0, 1) := by decide +kernel
theorem dS_takesCorners_1 : decode cS_takesCorners 1 = .ok (.getfield 9, 3) := by decide +kernel
theorem dS_takesCorners_4 : decode cS_takesCorners 4 = .ok (.iconst 3, 1) := by decide +kernel
theorem dS_takesCorners_5 : decode cS_takesCorners 5 = .ok (.if_icmp .eq 20, 3) := by decide +kernel
theorem dS_takesCorners_8 : decode cS_takesCorners 8 = .ok (.aload_n 0, 1) := by decide +kernel
theorem dS_takesCorners_9 : decode cS_takesCorners 9 = .ok (.getfield 9, 3) := by decide +kernel
theorem dS_takesCorners_12 : decode cS_takesCorners 12 = .ok (.iconst 2, 1) := by decide +kernel
theorem dS_takesCorners_13 : decode cS_takesCorners 13 = .ok (.if_icmp .ne 16, 3) := by decide +kernel
theorem dS_takesCorners_16 : decode cS_takesCorners 16 = .ok (.aload_n 0, 1) := by decide +kernel
theorem dS_takesCorners_17 : decode cS_takesCorners 17 = .ok (.getfield 19, 3) := by decide +kernel
theorem dS_takesCorners_20 : decode cS_takesCorners 20 = .ok (.lconst 0, 1) := by decide +kernel
theorem dS_takesCorners_21 : decode cS_takesCorners 21 = .ok (.lcmp, 1) := by decide +kernel
theorem dS_takesCorners_22 : decode cS_takesCorners 22 = .ok (.ifCond .ne 7, 3) := by decide +kernel
theorem dS_takesCorners_25 : decode cS_takesCorners 25 = .ok (.iconst 1, 1) := by decide +kernel
theorem dS_takesCorners_26 : decode cS_takesCorners 26 = .ok (.goto 4, 3) := by decide +kernel
theorem dS_takesCorners_29 : decode cS_takesCorners 29 = .ok (.iconst 0, 1) := by decide +kernel
theorem dS_takesCorners_30 : decode cS_takesCorners 30 = .ok (.ireturn, 1) := by decide +kernel
def f_S_takesCorners_j30 (v : SV) (s0 : Int32) : Option Int32 := rb s0
def f_S_takesCorners_j29 (v : SV) : Option Int32 := (f_S_takesCorners_j30 v (0 : Int32))
def f_S_takesCorners_j25 (v : SV) : Option Int32 := (f_S_takesCorners_j30 v (1 : Int32))
def f_S_takesCorners (v : SV) : Option Int32 := (if (sF v) = (3 : Int32) then (f_S_takesCorners_j25 v) else (if (sF v) = (2 : Int32) then (if (lg_cmp (sR v) (0 : Int64)) = 0 then (f_S_takesCorners_j25 v) else (f_S_takesCorners_j29 v)) else (f_S_takesCorners_j29 v)))
set_option maxHeartbeats 4000000 in
set_option maxRecDepth 100000 in
theorem k_S_takesCorners (l : Launch) (dC : Nat → ClassId) (dI : Nat → Nat → Nat) (cL cI : ClassId) (a ax ay ae : Nat) (v : SV) (r : Int32) (h : f_S_takesCorners v = some r) : Met l yS_takesCorners wsS_takesCorners ({ frames := 0, cells := 0, slots := 0, locals := 0 }) (rd_Pc [.ref a] (fun H => va_P (dC, dI) cls3 (shW cL cI a ax ay ae v) H) (dC, dI) cls3 [(cL, .long), (cI, .int)]) (vp_Si (fun z => z = r)) 0 0 (fun _ => False) := by
  refine Met.ofW (cc := cS_takesCorners) (maxL := 1) (ret := (some .boolean)) (by decide) rfl ?_
  intro p e s m args below meth c s₁ B hml hv
  obtain ⟨rfl, hPa, hK⟩ := hv
  have hx := B.exec
  have hb := B.bytes
  have hr := B.returns
  have hw : ∀ w ∈ wG, w.before ([.ref a] : List Value).toArray s = true := fun w hq => atoms_spec (ws := wsS_takesCorners) B.pre w (List.mem_cons_of_mem _ hq)
  have hown : s.vm.findClass R_S = some m.cls := findClass_of_methodNamed B.named
  have hlocks := B.notSynchronized
  have hl := lv_entry ([.ref a] : List Value) (n := 1) (Nat.le_of_ble_eq_true rfl)
  rw [lg_entry_eq]
  generalize (lg_sl ([.ref a] : List Value) ++ List.replicate (1 - (lg_sl ([.ref a] : List Value)).length) Slot.unset).toArray = ls at hl ⊢
  have hl : lv_has ls 1 [(0, .ref a)] := hl
  have k30 : ∀ (s0 : Int32), f_S_takesCorners_j30 v s0 = some r →  ∀ (ls : Array Slot), lv_has ls 1 [] → W p l e (headSpec wsS_takesCorners ({ frames := 0, cells := 0, slots := 0, locals := 0 })).room s m ([.ref a] : List Value).toArray below meth c s.heap [] 0 0 (MQ below (vp_Si (fun z => z = r)) ([.ref a] : List Value).toArray s 0 0 (fun _ => False)) (F0 m 30 ls [.int s0]) := by
    intro s0 h  ls hl
    unfold f_S_takesCorners_j30 at h
    obtain ⟨hz, hr9⟩ := rb_of h
    exact W.zret hx hb hr hz (fun t ht hW => ⟨_, rfl, hr9, ht⟩) nil_locs dS_takesCorners_30
  have k29 : f_S_takesCorners_j29 v = some r →  ∀ (ls : Array Slot), lv_has ls 1 [] → W p l e (headSpec wsS_takesCorners ({ frames := 0, cells := 0, slots := 0, locals := 0 })).room s m ([.ref a] : List Value).toArray below meth c s.heap [] 0 0 (MQ below (vp_Si (fun z => z = r)) ([.ref a] : List Value).toArray s 0 0 (fun _ => False)) (F0 m 29 ls []) := by
    intro  h  ls hl
    unfold f_S_takesCorners_j29 at h
    refine lv_iconst (v := 0) hx hb dS_takesCorners_29 (by decide) ?_
    exact k30 (0 : Int32) h ls (lv_sub hl [] rfl)
  have k25 : f_S_takesCorners_j25 v = some r →  ∀ (ls : Array Slot), lv_has ls 1 [] → W p l e (headSpec wsS_takesCorners ({ frames := 0, cells := 0, slots := 0, locals := 0 })).room s m ([.ref a] : List Value).toArray below meth c s.heap [] 0 0 (MQ below (vp_Si (fun z => z = r)) ([.ref a] : List Value).toArray s 0 0 (fun _ => False)) (F0 m 25 ls []) := by
    intro  h  ls hl
    unfold f_S_takesCorners_j25 at h
    refine lv_iconst (v := 1) hx hb dS_takesCorners_25 (by decide) ?_
    refine lv_goto (tgt := 30) hx hb dS_takesCorners_26 (by decide) ?_
    exact k30 (1 : Int32) h ls (lv_sub hl [] rfl)
  unfold f_S_takesCorners at h
  refine lv_aload_n hx hb dS_takesCorners_0 rfl (lv_at hl 0 rfl) ?_
  refine va_get (D := (dC, dI)) (ci := 0) (v := .int (sF v)) (C := R_S) (T := T_S) (N := 8) hx hb hw in_S hown hK hPa 0 rfl rfl 0 (by decide) (hw _ w_40) (fun _ h9 => h9) rfl dS_takesCorners_1 ?_
  refine lv_iconst (v := 3) hx hb dS_takesCorners_4 (by decide) ?_
  refine lv_icmp_eq (tgt := 25) hx hb dS_takesCorners_5 (by decide) (fun c1 => ?_) (fun c1 => ?_)
  · have h := it_t c1 h
    exact k25 h ls (lv_sub hl [] rfl)
  · have h := it_f c1 h
    refine lv_aload_n hx hb dS_takesCorners_8 rfl (lv_at hl 0 rfl) ?_
    refine va_get (D := (dC, dI)) (ci := 0) (v := .int (sF v)) (C := R_S) (T := T_S) (N := 8) hx hb hw in_S hown hK hPa 0 rfl rfl 0 (by decide) (hw _ w_40) (fun _ h9 => h9) rfl dS_takesCorners_9 ?_
    refine lv_iconst (v := 2) hx hb dS_takesCorners_12 (by decide) ?_
    refine lv_icmp_ne (tgt := 29) hx hb dS_takesCorners_13 (by decide) (fun c2 => ?_) (fun c2 => ?_)
    · have h := it_f c2 h
      exact k29 h ls (lv_sub hl [] rfl)
    · have h := it_t c2 h
      refine lv_aload_n hx hb dS_takesCorners_16 rfl (lv_at hl 0 rfl) ?_
      refine va_get (D := (dC, dI)) (ci := 0) (v := .long (sR v)) (C := R_S) (T := T_S) (N := 8) hx hb hw in_S hown hK hPa 0 rfl rfl 2 (by decide) (hw _ w_44) (fun _ h9 => h9) rfl dS_takesCorners_17 ?_
      refine lv_lconst (v := 0) hx hb dS_takesCorners_20 (by decide) ?_
      refine W.lcmp hx hb dS_takesCorners_21 ?_
      refine lv_if_ne (tgt := 29) hx hb dS_takesCorners_22 (by decide) (fun c3 => ?_) (fun c3 => ?_)
      · have h := it_f c3 h
        exact k29 h ls (lv_sub hl [] rfl)
      · have h := it_t c3 h
        exact k25 h ls (lv_sub hl [] rfl)
theorem dS_isOpenRingEmpty_0 : decode cS_isOpenRingEmpty 0 = .ok (.aload_n 0, 1) := by decide +kernel
theorem dS_isOpenRingEmpty_1 : decode cS_isOpenRingEmpty 1 = .ok (.getfield 37, 3) := by decide +kernel
theorem dS_isOpenRingEmpty_4 : decode cS_isOpenRingEmpty 4 = .ok (.iconst 2, 1) := by decide +kernel
theorem dS_isOpenRingEmpty_5 : decode cS_isOpenRingEmpty 5 = .ok (.iadd, 1) := by decide +kernel
theorem dS_isOpenRingEmpty_6 : decode cS_isOpenRingEmpty 6 = .ok (.istore_n 1, 1) := by decide +kernel
theorem dS_isOpenRingEmpty_7 : decode cS_isOpenRingEmpty 7 = .ok (.iload_n 1, 1) := by decide +kernel
theorem dS_isOpenRingEmpty_8 : decode cS_isOpenRingEmpty 8 = .ok (.aload_n 0, 1) := by decide +kernel
theorem dS_isOpenRingEmpty_9 : decode cS_isOpenRingEmpty 9 = .ok (.getfield 34, 3) := by decide +kernel
theorem dS_isOpenRingEmpty_12 : decode cS_isOpenRingEmpty 12 = .ok (.if_icmp .ge 36, 3) := by decide +kernel
theorem dS_isOpenRingEmpty_15 : decode cS_isOpenRingEmpty 15 = .ok (.aload_n 0, 1) := by decide +kernel
theorem dS_isOpenRingEmpty_16 : decode cS_isOpenRingEmpty 16 = .ok (.aload_n 0, 1) := by decide +kernel
theorem dS_isOpenRingEmpty_17 : decode cS_isOpenRingEmpty 17 = .ok (.getfield 37, 3) := by decide +kernel
theorem dS_isOpenRingEmpty_20 : decode cS_isOpenRingEmpty 20 = .ok (.aload_n 0, 1) := by decide +kernel
theorem dS_isOpenRingEmpty_21 : decode cS_isOpenRingEmpty 21 = .ok (.getfield 23, 3) := by decide +kernel
theorem dS_isOpenRingEmpty_24 : decode cS_isOpenRingEmpty 24 = .ok (.iload_n 1, 1) := by decide +kernel
theorem dS_isOpenRingEmpty_25 : decode cS_isOpenRingEmpty 25 = .ok (.laload, 1) := by decide +kernel
theorem dS_isOpenRingEmpty_26 : decode cS_isOpenRingEmpty 26 = .ok (.aload_n 0, 1) := by decide +kernel
theorem dS_isOpenRingEmpty_27 : decode cS_isOpenRingEmpty 27 = .ok (.getfield 27, 3) := by decide +kernel
theorem dS_isOpenRingEmpty_30 : decode cS_isOpenRingEmpty 30 = .ok (.iload_n 1, 1) := by decide +kernel
theorem dS_isOpenRingEmpty_31 : decode cS_isOpenRingEmpty 31 = .ok (.laload, 1) := by decide +kernel
theorem dS_isOpenRingEmpty_32 : decode cS_isOpenRingEmpty 32 = .ok (.invokevirtual 50, 3) := by decide +kernel
theorem dS_isOpenRingEmpty_35 : decode cS_isOpenRingEmpty 35 = .ok (.lconst 0, 1) := by decide +kernel
theorem dS_isOpenRingEmpty_36 : decode cS_isOpenRingEmpty 36 = .ok (.lcmp, 1) := by decide +kernel
theorem dS_isOpenRingEmpty_37 : decode cS_isOpenRingEmpty 37 = .ok (.ifCond .eq 5, 3) := by decide +kernel
theorem dS_isOpenRingEmpty_40 : decode cS_isOpenRingEmpty 40 = .ok (.iconst 0, 1) := by decide +kernel
theorem dS_isOpenRingEmpty_41 : decode cS_isOpenRingEmpty 41 = .ok (.ireturn, 1) := by decide +kernel
theorem dS_isOpenRingEmpty_42 : decode cS_isOpenRingEmpty 42 = .ok (.iinc 1 1, 3) := by decide +kernel
theorem dS_isOpenRingEmpty_45 : decode cS_isOpenRingEmpty 45 = .ok (.goto (-38), 3) := by decide +kernel
theorem dS_isOpenRingEmpty_48 : decode cS_isOpenRingEmpty 48 = .ok (.iconst 1, 1) := by decide +kernel
theorem dS_isOpenRingEmpty_49 : decode cS_isOpenRingEmpty 49 = .ok (.ireturn, 1) := by decide +kernel
def f_S_isOpenRingEmpty_l7 (v : SV) : Nat → Int32 → Option Int32
 | 0, _ => none
 | n + 1, p1 => (if (sN v) ≤ p1 then rb (1 : Int32) else (ld 48 (sX v) p1).bind fun u2 => (ld 48 (sY v) p1).bind fun u3 => (f_S_cross v (sO v) u2 u3).bind fun u4 => (if (lg_cmp u4 (0 : Int64)) = 0 then ((f_S_isOpenRingEmpty_l7 v n) (p1 + 1)) else rb (0 : Int32)))
def f_S_isOpenRingEmpty (v : SV) : Option Int32 := (f_S_isOpenRingEmpty_l7 v 64 ((sO v) + (2 : Int32)))
set_option maxHeartbeats 4000000 in
set_option maxRecDepth 100000 in
theorem k_S_isOpenRingEmpty (l : Launch) (dC : Nat → ClassId) (dI : Nat → Nat → Nat) (cL cI : ClassId) (a ax ay ae : Nat) (v : SV) (r : Int32) (h : f_S_isOpenRingEmpty v = some r) : Met l yS_isOpenRingEmpty wsS_isOpenRingEmpty ({ frames := 1, cells := 0, slots := 0, locals := 26 }) (rd_Pc [.ref a] (fun H => va_P (dC, dI) cls3 (shW cL cI a ax ay ae v) H) (dC, dI) cls3 [(cL, .long), (cI, .int)]) (vp_Si (fun z => z = r)) 0 0 (fun _ => False) := by
  refine Met.ofW (cc := cS_isOpenRingEmpty) (maxL := 2) (ret := (some .boolean)) (by decide) rfl ?_
  intro p e s m args below meth c s₁ B hml hv
  obtain ⟨rfl, hPa, hK⟩ := hv
  have hx := B.exec
  have hb := B.bytes
  have hr := B.returns
  have hw : ∀ w ∈ wG, w.before ([.ref a] : List Value).toArray s = true := fun w hq => atoms_spec (ws := wsS_isOpenRingEmpty) B.pre w (List.mem_cons_of_mem _ hq)
  have hown : s.vm.findClass R_S = some m.cls := findClass_of_methodNamed B.named
  have hlocks := B.notSynchronized
  have hl := lv_entry ([.ref a] : List Value) (n := 2) (Nat.le_of_ble_eq_true rfl)
  rw [lg_entry_eq]
  generalize (lg_sl ([.ref a] : List Value) ++ List.replicate (2 - (lg_sl ([.ref a] : List Value)).length) Slot.unset).toArray = ls at hl ⊢
  have hl : lv_has ls 2 [(0, .ref a)] := hl
  have k7 : ∀ (n7 : Nat), ∀ (p1 : Int32), f_S_isOpenRingEmpty_l7 v n7 p1 = some r →  ∀ (ls : Array Slot), lv_has ls 2 [(0, .ref a), (1, .int p1)] → W p l e (headSpec wsS_isOpenRingEmpty ({ frames := 1, cells := 0, slots := 0, locals := 26 })).room s m ([.ref a] : List Value).toArray below meth c s.heap [] 0 0 (MQ below (vp_Si (fun z => z = r)) ([.ref a] : List Value).toArray s 0 0 (fun _ => False)) (F0 m 7 ls []) := by
    intro n7
    induction n7 with
    | zero => intro p1 h; exact absurd h (by simp [f_S_isOpenRingEmpty_l7])
    | succ n7 ih7 =>
      intro p1 h  ls hl
      rw [f_S_isOpenRingEmpty_l7] at h
      refine lv_iload_n hx hb dS_isOpenRingEmpty_7 rfl (lv_at hl 1 rfl) ?_
      refine lv_aload_n hx hb dS_isOpenRingEmpty_8 rfl (lv_at hl 0 rfl) ?_
      refine va_get (D := (dC, dI)) (ci := 0) (v := .int (sN v)) (C := R_S) (T := T_S) (N := 8) hx hb hw in_S hown hK hPa 0 rfl rfl 6 (by decide) (hw _ w_52) (fun _ h9 => h9) rfl dS_isOpenRingEmpty_9 ?_
      refine lv_icmp_ge (tgt := 48) hx hb dS_isOpenRingEmpty_12 (by decide) (fun c1 => ?_) (fun c1 => ?_)
      · have h := it_t c1 h
        refine lv_iconst (v := 1) hx hb dS_isOpenRingEmpty_48 (by decide) ?_
        obtain ⟨hz, hr9⟩ := rb_of h
        exact W.zret hx hb hr hz (fun t ht hW => ⟨_, rfl, hr9, ht⟩) nil_locs dS_isOpenRingEmpty_49
      · have h := it_f c1 h
        refine lv_aload_n hx hb dS_isOpenRingEmpty_15 rfl (lv_at hl 0 rfl) ?_
        refine lv_aload_n hx hb dS_isOpenRingEmpty_16 rfl (lv_at hl 0 rfl) ?_
        refine va_get (D := (dC, dI)) (ci := 0) (v := .int (sO v)) (C := R_S) (T := T_S) (N := 8) hx hb hw in_S hown hK hPa 0 rfl rfl 7 (by decide) (hw _ w_54) (fun _ h9 => h9) rfl dS_isOpenRingEmpty_17 ?_
        refine lv_aload_n hx hb dS_isOpenRingEmpty_20 rfl (lv_at hl 0 rfl) ?_
        refine va_get (D := (dC, dI)) (ci := 0) (v := .ref ax) (C := R_S) (T := T_S) (N := 8) hx hb hw in_S hown hK hPa 0 rfl rfl 3 (by decide) (hw _ w_46) (fun _ h9 => h9) rfl dS_isOpenRingEmpty_21 ?_
        refine lv_iload_n hx hb dS_isOpenRingEmpty_24 rfl (lv_at hl 1 rfl) ?_
        obtain ⟨u2, hu2, h⟩ := ob_some h
        obtain ⟨hiu2, eu2⟩ := ld_of hu2
        refine va_lald hx hb hK hPa 1 0 rfl rfl hiu2 dS_isOpenRingEmpty_25 ?_
        rw [eu2]
        refine lv_aload_n hx hb dS_isOpenRingEmpty_26 rfl (lv_at hl 0 rfl) ?_
        refine va_get (D := (dC, dI)) (ci := 0) (v := .ref ay) (C := R_S) (T := T_S) (N := 8) hx hb hw in_S hown hK hPa 0 rfl rfl 4 (by decide) (hw _ w_48) (fun _ h9 => h9) rfl dS_isOpenRingEmpty_27 ?_
        refine lv_iload_n hx hb dS_isOpenRingEmpty_30 rfl (lv_at hl 1 rfl) ?_
        obtain ⟨u3, hu3, h⟩ := ob_some h
        obtain ⟨hiu3, eu3⟩ := ld_of hu3
        refine va_lald hx hb hK hPa 2 0 rfl rfl hiu3 dS_isOpenRingEmpty_31 ?_
        rw [eu3]
        obtain ⟨u4, hu4, h⟩ := ob_some h
        refine vp_callSl (va_Run.run (va_runV (As := [.int (sO v), .long u2, .long u3]) (rest := []) ⟨hx, hb, hml, hown, hw⟩ (k_S_cross l dC dI cL cI a ax ay ae v (sO v) u2 u3 u4 hu4) (cwV 3 hw (gV w_264 w_265 w_266 w_7 w_267) rfl rfl rfl (by decide +kernel) ⟨Nat.le_of_ble_eq_true rfl, Nat.le_of_ble_eq_true rfl⟩) ⟨rd_blind, va_recv hK hPa (ci := 0) (q0 := 0) rfl rfl, rd_pre hPa hK⟩ rfl rfl hl.1 rfl (lv_room (Nat.le_of_ble_eq_true rfl)) dS_isOpenRingEmpty_32 ⟨Nat.le_of_ble_eq_true rfl, Nat.le_of_ble_eq_true rfl⟩)) (fun z hz => ?_)
        rw [hz]; clear hz
        refine lv_lconst (v := 0) hx hb dS_isOpenRingEmpty_35 (by decide) ?_
        refine W.lcmp hx hb dS_isOpenRingEmpty_36 ?_
        refine lv_if_eq (tgt := 42) hx hb dS_isOpenRingEmpty_37 (by decide) (fun c5 => ?_) (fun c5 => ?_)
        · have h := it_t c5 h
          refine lv_iinc (v := p1 + 1) (lv' := [(1, .int (p1 + 1)), (0, .ref a)]) hx hb dS_isOpenRingEmpty_42 hl (k := 1) rfl rfl (by decide) rfl (fun ls hl => ?_)
          refine lv_goto (tgt := 7) hx hb dS_isOpenRingEmpty_45 (by decide) ?_
          exact ih7 (p1 + 1) h ls (lv_sub hl [1, 0] rfl)
        · have h := it_f c5 h
          refine lv_iconst (v := 0) hx hb dS_isOpenRingEmpty_40 (by decide) ?_
          obtain ⟨hz, hr9⟩ := rb_of h
          exact W.zret hx hb hr hz (fun t ht hW => ⟨_, rfl, hr9, ht⟩) nil_locs dS_isOpenRingEmpty_41
  unfold f_S_isOpenRingEmpty at h
  refine lv_aload_n hx hb dS_isOpenRingEmpty_0 rfl (lv_at hl 0 rfl) ?_
  refine va_get (D := (dC, dI)) (ci := 0) (v := .int (sO v)) (C := R_S) (T := T_S) (N := 8) hx hb hw in_S hown hK hPa 0 rfl rfl 7 (by decide) (hw _ w_54) (fun _ h9 => h9) rfl dS_isOpenRingEmpty_1 ?_
  refine lv_iconst (v := 2) hx hb dS_isOpenRingEmpty_4 (by decide) ?_
  refine lv_iadd hx hb dS_isOpenRingEmpty_5 ?_
  refine lv_istore_n (lv' := [(1, .int ((sO v) + (2 : Int32))), (0, .ref a)]) hx hb dS_isOpenRingEmpty_6 rfl hl (by decide) rfl (fun ls hl => ?_)
  exact k7 64 ((sO v) + (2 : Int32)) h ls (lv_sub hl [1, 0] rfl)
end
section
/-! Pair: reading methods, laid by program -/
theorem dP_spansMeet_0 : decode cP_spansMeet 0 = .ok (.lload_n 0, 1) := by decide +kernel
theorem dP_spansMeet_1 : decode cP_spansMeet 1 = .ok (.lload_n 2, 1) := by decide +kernel
theorem dP_spansMeet_2 : decode cP_spansMeet 2 = .ok (.invokestatic 65, 3) := by decide +kernel
theorem dP_spansMeet_5 : decode cP_spansMeet 5 = .ok (.lload 4, 2) := by decide +kernel
theorem dP_spansMeet_7 : decode cP_spansMeet 7 = .ok (.lload 6, 2) := by decide +kernel
theorem dP_spansMeet_9 : decode cP_spansMeet 9 = .ok (.invokestatic 65, 3) := by decide +kernel
theorem dP_spansMeet_12 : decode cP_spansMeet 12 = .ok (.invokestatic 68, 3) := by decide +kernel
theorem dP_spansMeet_15 : decode cP_spansMeet 15 = .ok (.lload_n 0, 1) := by decide +kernel
theorem dP_spansMeet_16 : decode cP_spansMeet 16 = .ok (.lload_n 2, 1) := by decide +kernel
theorem dP_spansMeet_17 : decode cP_spansMeet 17 = .ok (.invokestatic 68, 3) := by decide +kernel
theorem dP_spansMeet_20 : decode cP_spansMeet 20 = .ok (.lload 4, 2) := by decide +kernel
theorem dP_spansMeet_22 : decode cP_spansMeet 22 = .ok (.lload 6, 2) := by decide +kernel
theorem dP_spansMeet_24 : decode cP_spansMeet 24 = .ok (.invokestatic 68, 3) := by decide +kernel
theorem dP_spansMeet_27 : decode cP_spansMeet 27 = .ok (.invokestatic 65, 3) := by decide +kernel
theorem dP_spansMeet_30 : decode cP_spansMeet 30 = .ok (.lcmp, 1) := by decide +kernel
theorem dP_spansMeet_31 : decode cP_spansMeet 31 = .ok (.ifCond .gt 7, 3) := by decide +kernel
theorem dP_spansMeet_34 : decode cP_spansMeet 34 = .ok (.iconst 1, 1) := by decide +kernel
theorem dP_spansMeet_35 : decode cP_spansMeet 35 = .ok (.goto 4, 3) := by decide +kernel
theorem dP_spansMeet_38 : decode cP_spansMeet 38 = .ok (.iconst 0, 1) := by decide +kernel
theorem dP_spansMeet_39 : decode cP_spansMeet 39 = .ok (.ireturn, 1) := by decide +kernel
def f_P_spansMeet_j39 (s0 : Int32) : Option Int32 := rb s0
def f_P_spansMeet (x0 : Int64) (x2 : Int64) (x4 : Int64) (x6 : Int64) : Option Int32 := (some (if x2 < x0 then x2 else x0)).bind fun u1 => (some (if x6 < x4 then x6 else x4)).bind fun u2 => (some (if u2 < u1 then u1 else u2)).bind fun u3 => (some (if x2 < x0 then x0 else x2)).bind fun u4 => (some (if x6 < x4 then x4 else x6)).bind fun u5 => (some (if u5 < u4 then u5 else u4)).bind fun u6 => (if 0 < (lg_cmp u3 u6) then (f_P_spansMeet_j39 (0 : Int32)) else (f_P_spansMeet_j39 (1 : Int32)))
set_option maxHeartbeats 4000000 in
set_option maxRecDepth 100000 in
theorem k_P_spansMeet (l : Launch) (dC : Nat → ClassId) (dI : Nat → Nat → Nat) (cL cI : ClassId) (x0 : Int64) (x2 : Int64) (x4 : Int64) (x6 : Int64) (r : Int32) (h : f_P_spansMeet x0 x2 x4 x6 = some r) : Met l yP_spansMeet wsP_spansMeet ({ frames := 1, cells := 0, slots := 0, locals := 23 }) (rd_Pc [.long x0, .long x2, .long x4, .long x6] (fun _ => True) (dC, dI) cls3 [(cL, .long), (cI, .int)]) (vp_Si (fun z => z = r)) 0 0 (fun _ => False) := by
  refine Met.ofW (cc := cP_spansMeet) (maxL := 8) (ret := (some .boolean)) (by decide) rfl ?_
  intro p e s m args below meth c s₁ B hml hv
  obtain ⟨rfl, hF, hK⟩ := hv
  have hx := B.exec
  have hb := B.bytes
  have hr := B.returns
  have hw : ∀ w ∈ wG, w.before ([.long x0, .long x2, .long x4, .long x6] : List Value).toArray s = true := fun w hq => atoms_spec (ws := wsP_spansMeet) B.pre w (List.mem_cons_of_mem _ hq)
  have hown : s.vm.findClass R_P = some m.cls := findClass_of_methodNamed B.named
  have hlocks := B.notSynchronized
  have hl := lv_entry ([.long x0, .long x2, .long x4, .long x6] : List Value) (n := 8) (Nat.le_of_ble_eq_true rfl)
  rw [lg_entry_eq]
  generalize (lg_sl ([.long x0, .long x2, .long x4, .long x6] : List Value) ++ List.replicate (8 - (lg_sl ([.long x0, .long x2, .long x4, .long x6] : List Value)).length) Slot.unset).toArray = ls at hl ⊢
  have hl : lv_has ls 8 [(0, .long x0), (2, .long x2), (4, .long x4), (6, .long x6)] := hl
  have k39 : ∀ (s0 : Int32), f_P_spansMeet_j39 s0 = some r →  ∀ (ls : Array Slot), lv_has ls 8 [] → W p l e (headSpec wsP_spansMeet ({ frames := 1, cells := 0, slots := 0, locals := 23 })).room s m ([.long x0, .long x2, .long x4, .long x6] : List Value).toArray below meth c s.heap [] 0 0 (MQ below (vp_Si (fun z => z = r)) ([.long x0, .long x2, .long x4, .long x6] : List Value).toArray s 0 0 (fun _ => False)) (F0 m 39 ls [.int s0]) := by
    intro s0 h  ls hl
    unfold f_P_spansMeet_j39 at h
    obtain ⟨hz, hr9⟩ := rb_of h
    exact W.zret hx hb hr hz (fun t ht hW => ⟨_, rfl, hr9, ht⟩) nil_locs dP_spansMeet_39
  unfold f_P_spansMeet at h
  refine lv_lload_n hx hb dP_spansMeet_0 rfl (lv_at hl 0 rfl) ?_
  refine lv_lload_n hx hb dP_spansMeet_1 rfl (lv_at hl 1 rfl) ?_
  obtain ⟨u1, hu1, h⟩ := ob_some h
  refine va_mmin_long hx hb (hml.trans hl.1.symm) hown (hw _ w_278) (hw _ w_279) (hw _ w_11) (hw _ wm_min_J) (Nat.le_of_ble_eq_true rfl) (Nat.le_of_ble_eq_true rfl) (Nat.le_of_ble_eq_true rfl) (Nat.le_of_ble_eq_true rfl) dP_spansMeet_2 ?_
  rw [Option.some.inj hu1]
  refine lv_lload hx hb dP_spansMeet_5 (lv_at hl 2 rfl) ?_
  refine lv_lload hx hb dP_spansMeet_7 (lv_at hl 3 rfl) ?_
  obtain ⟨u2, hu2, h⟩ := ob_some h
  refine va_mmin_long hx hb (hml.trans hl.1.symm) hown (hw _ w_278) (hw _ w_279) (hw _ w_11) (hw _ wm_min_J) (Nat.le_of_ble_eq_true rfl) (Nat.le_of_ble_eq_true rfl) (Nat.le_of_ble_eq_true rfl) (Nat.le_of_ble_eq_true rfl) dP_spansMeet_9 ?_
  rw [Option.some.inj hu2]
  obtain ⟨u3, hu3, h⟩ := ob_some h
  refine va_mmax_long hx hb (hml.trans hl.1.symm) hown (hw _ w_281) (hw _ w_282) (hw _ w_11) (hw _ wm_max_J) (Nat.le_of_ble_eq_true rfl) (Nat.le_of_ble_eq_true rfl) (Nat.le_of_ble_eq_true rfl) (Nat.le_of_ble_eq_true rfl) dP_spansMeet_12 ?_
  rw [Option.some.inj hu3]
  refine lv_lload_n hx hb dP_spansMeet_15 rfl (lv_at hl 0 rfl) ?_
  refine lv_lload_n hx hb dP_spansMeet_16 rfl (lv_at hl 1 rfl) ?_
  obtain ⟨u4, hu4, h⟩ := ob_some h
  refine va_mmax_long hx hb (hml.trans hl.1.symm) hown (hw _ w_281) (hw _ w_282) (hw _ w_11) (hw _ wm_max_J) (Nat.le_of_ble_eq_true rfl) (Nat.le_of_ble_eq_true rfl) (Nat.le_of_ble_eq_true rfl) (Nat.le_of_ble_eq_true rfl) dP_spansMeet_17 ?_
  rw [Option.some.inj hu4]
  refine lv_lload hx hb dP_spansMeet_20 (lv_at hl 2 rfl) ?_
  refine lv_lload hx hb dP_spansMeet_22 (lv_at hl 3 rfl) ?_
  obtain ⟨u5, hu5, h⟩ := ob_some h
  refine va_mmax_long hx hb (hml.trans hl.1.symm) hown (hw _ w_281) (hw _ w_282) (hw _ w_11) (hw _ wm_max_J) (Nat.le_of_ble_eq_true rfl) (Nat.le_of_ble_eq_true rfl) (Nat.le_of_ble_eq_true rfl) (Nat.le_of_ble_eq_true rfl) dP_spansMeet_24 ?_
  rw [Option.some.inj hu5]
  obtain ⟨u6, hu6, h⟩ := ob_some h
  refine va_mmin_long hx hb (hml.trans hl.1.symm) hown (hw _ w_278) (hw _ w_279) (hw _ w_11) (hw _ wm_min_J) (Nat.le_of_ble_eq_true rfl) (Nat.le_of_ble_eq_true rfl) (Nat.le_of_ble_eq_true rfl) (Nat.le_of_ble_eq_true rfl) dP_spansMeet_27 ?_
  rw [Option.some.inj hu6]
  refine W.lcmp hx hb dP_spansMeet_30 ?_
  refine lv_if_gt (tgt := 38) hx hb dP_spansMeet_31 (by decide) (fun c7 => ?_) (fun c7 => ?_)
  · have h := it_t c7 h
    refine lv_iconst (v := 0) hx hb dP_spansMeet_38 (by decide) ?_
    exact k39 (0 : Int32) h ls (lv_sub hl [] rfl)
  · have h := it_f c7 h
    refine lv_iconst (v := 1) hx hb dP_spansMeet_34 (by decide) ?_
    refine lv_goto (tgt := 39) hx hb dP_spansMeet_35 (by decide) ?_
    exact k39 (1 : Int32) h ls (lv_sub hl [] rfl)
theorem dP_passesBeside_0 : decode cP_passesBeside 0 = .ok (.aload_n 2, 1) := by decide +kernel
theorem dP_passesBeside_1 : decode cP_passesBeside 1 = .ok (.getfield 54, 3) := by decide +kernel
theorem dP_passesBeside_4 : decode cP_passesBeside 4 = .ok (.iload_n 3, 1) := by decide +kernel
theorem dP_passesBeside_5 : decode cP_passesBeside 5 = .ok (.iaload, 1) := by decide +kernel
theorem dP_passesBeside_6 : decode cP_passesBeside 6 = .ok (.istore 4, 2) := by decide +kernel
theorem dP_passesBeside_8 : decode cP_passesBeside 8 = .ok (.aload_n 0, 1) := by decide +kernel
theorem dP_passesBeside_9 : decode cP_passesBeside 9 = .ok (.iload_n 1, 1) := by decide +kernel
theorem dP_passesBeside_10 : decode cP_passesBeside 10 = .ok (.aload_n 2, 1) := by decide +kernel
theorem dP_passesBeside_11 : decode cP_passesBeside 11 = .ok (.getfield 35, 3) := by decide +kernel
theorem dP_passesBeside_14 : decode cP_passesBeside 14 = .ok (.iload_n 3, 1) := by decide +kernel
theorem dP_passesBeside_15 : decode cP_passesBeside 15 = .ok (.laload, 1) := by decide +kernel
theorem dP_passesBeside_16 : decode cP_passesBeside 16 = .ok (.aload_n 2, 1) := by decide +kernel
theorem dP_passesBeside_17 : decode cP_passesBeside 17 = .ok (.getfield 39, 3) := by decide +kernel
theorem dP_passesBeside_20 : decode cP_passesBeside 20 = .ok (.iload_n 3, 1) := by decide +kernel
theorem dP_passesBeside_21 : decode cP_passesBeside 21 = .ok (.laload, 1) := by decide +kernel
theorem dP_passesBeside_22 : decode cP_passesBeside 22 = .ok (.invokevirtual 71, 3) := by decide +kernel
theorem dP_passesBeside_25 : decode cP_passesBeside 25 = .ok (.lstore 5, 2) := by decide +kernel
theorem dP_passesBeside_27 : decode cP_passesBeside 27 = .ok (.aload_n 0, 1) := by decide +kernel
theorem dP_passesBeside_28 : decode cP_passesBeside 28 = .ok (.iload_n 1, 1) := by decide +kernel
theorem dP_passesBeside_29 : decode cP_passesBeside 29 = .ok (.aload_n 2, 1) := by decide +kernel
theorem dP_passesBeside_30 : decode cP_passesBeside 30 = .ok (.getfield 35, 3) := by decide +kernel
theorem dP_passesBeside_33 : decode cP_passesBeside 33 = .ok (.iload 4, 2) := by decide +kernel
theorem dP_passesBeside_35 : decode cP_passesBeside 35 = .ok (.laload, 1) := by decide +kernel
theorem dP_passesBeside_36 : decode cP_passesBeside 36 = .ok (.aload_n 2, 1) := by decide +kernel
theorem dP_passesBeside_37 : decode cP_passesBeside 37 = .ok (.getfield 39, 3) := by decide +kernel
theorem dP_passesBeside_40 : decode cP_passesBeside 40 = .ok (.iload 4, 2) := by decide +kernel
theorem dP_passesBeside_42 : decode cP_passesBeside 42 = .ok (.laload, 1) := by decide +kernel
theorem dP_passesBeside_43 : decode cP_passesBeside 43 = .ok (.invokevirtual 71, 3) := by decide +kernel
theorem dP_passesBeside_46 : decode cP_passesBeside 46 = .ok (.lstore 7, 2) := by decide +kernel
theorem dP_passesBeside_48 : decode cP_passesBeside 48 = .ok (.lload 5, 2) := by decide +kernel
theorem dP_passesBeside_50 : decode cP_passesBeside 50 = .ok (.lconst 0, 1) := by decide +kernel
theorem dP_passesBeside_51 : decode cP_passesBeside 51 = .ok (.lcmp, 1) := by decide +kernel
theorem dP_passesBeside_52 : decode cP_passesBeside 52 = .ok (.ifCond .ge 10, 3) := by decide +kernel
theorem dP_passesBeside_55 : decode cP_passesBeside 55 = .ok (.lload 7, 2) := by decide +kernel
theorem dP_passesBeside_57 : decode cP_passesBeside 57 = .ok (.lconst 0, 1) := by decide +kernel
theorem dP_passesBeside_58 : decode cP_passesBeside 58 = .ok (.lcmp, 1) := by decide +kernel
theorem dP_passesBeside_59 : decode cP_passesBeside 59 = .ok (.ifCond .lt 17, 3) := by decide +kernel
theorem dP_passesBeside_62 : decode cP_passesBeside 62 = .ok (.lload 5, 2) := by decide +kernel
theorem dP_passesBeside_64 : decode cP_passesBeside 64 = .ok (.lconst 0, 1) := by decide +kernel
theorem dP_passesBeside_65 : decode cP_passesBeside 65 = .ok (.lcmp, 1) := by decide +kernel
theorem dP_passesBeside_66 : decode cP_passesBeside 66 = .ok (.ifCond .le 14, 3) := by decide +kernel
theorem dP_passesBeside_69 : decode cP_passesBeside 69 = .ok (.lload 7, 2) := by decide +kernel
theorem dP_passesBeside_71 : decode cP_passesBeside 71 = .ok (.lconst 0, 1) := by decide +kernel
theorem dP_passesBeside_72 : decode cP_passesBeside 72 = .ok (.lcmp, 1) := by decide +kernel
theorem dP_passesBeside_73 : decode cP_passesBeside 73 = .ok (.ifCond .le 7, 3) := by decide +kernel
theorem dP_passesBeside_76 : decode cP_passesBeside 76 = .ok (.iconst 1, 1) := by decide +kernel
theorem dP_passesBeside_77 : decode cP_passesBeside 77 = .ok (.goto 4, 3) := by decide +kernel
theorem dP_passesBeside_80 : decode cP_passesBeside 80 = .ok (.iconst 0, 1) := by decide +kernel
theorem dP_passesBeside_81 : decode cP_passesBeside 81 = .ok (.ireturn, 1) := by decide +kernel
def f_P_passesBeside_j81 (v : SV) (w : SV) (s0 : Int32) : Option Int32 := rb s0
def f_P_passesBeside_j80 (v : SV) (w : SV) : Option Int32 := (f_P_passesBeside_j81 v w (0 : Int32))
def f_P_passesBeside_j76 (v : SV) (w : SV) : Option Int32 := (f_P_passesBeside_j81 v w (1 : Int32))
def f_P_passesBeside_j62 (v : SV) (w : SV) (p5 : Int64) (p7 : Int64) : Option Int32 := (if (lg_cmp p5 (0 : Int64)) ≤ 0 then (f_P_passesBeside_j80 v w) else (if (lg_cmp p7 (0 : Int64)) ≤ 0 then (f_P_passesBeside_j80 v w) else (f_P_passesBeside_j76 v w)))
def f_P_passesBeside (v : SV) (w : SV) (x1 : Int32) (x3 : Int32) : Option Int32 := (ld 48 (sE w) x3).bind fun u1 => (ld 48 (sX w) x3).bind fun u2 => (ld 48 (sY w) x3).bind fun u3 => (f_S_cross v x1 u2 u3).bind fun u4 => (ld 48 (sX w) u1).bind fun u5 => (ld 48 (sY w) u1).bind fun u6 => (f_S_cross v x1 u5 u6).bind fun u7 => (if 0 ≤ (lg_cmp u4 (0 : Int64)) then (f_P_passesBeside_j62 v w u4 u7) else (if (lg_cmp u7 (0 : Int64)) < 0 then (f_P_passesBeside_j76 v w) else (f_P_passesBeside_j62 v w u4 u7)))
set_option maxHeartbeats 4000000 in
set_option maxRecDepth 100000 in
theorem k_P_passesBeside (l : Launch) (dC : Nat → ClassId) (dI : Nat → Nat → Nat) (cL cI : ClassId) (a ax ay ae : Nat) (v : SV) (o ox oy oe : Nat) (w : SV) (x1 : Int32) (x3 : Int32) (r : Int32) (h : f_P_passesBeside v w x1 x3 = some r) : Met l yP_passesBeside wsP_passesBeside ({ frames := 1, cells := 0, slots := 0, locals := 26 }) (rd_Pc [.ref a, .int x1, .ref o, .int x3] (fun H => va_P (dC, dI) cls3 (shW cL cI a ax ay ae v) H ∧ va_P (dC, dI) cls3 (shW cL cI o ox oy oe w) H) (dC, dI) cls3 [(cL, .long), (cI, .int)]) (vp_Si (fun z => z = r)) 0 0 (fun _ => False) := by
  refine Met.ofW (cc := cP_passesBeside) (maxL := 9) (ret := (some .boolean)) (by decide) rfl ?_
  intro p e s m args below meth c s₁ B hml hv
  obtain ⟨rfl, ⟨hPa, hPo⟩, hK⟩ := hv
  have hx := B.exec
  have hb := B.bytes
  have hr := B.returns
  have hw : ∀ w ∈ wG, w.before ([.ref a, .int x1, .ref o, .int x3] : List Value).toArray s = true := fun w hq => atoms_spec (ws := wsP_passesBeside) B.pre w (List.mem_cons_of_mem _ hq)
  have hown : s.vm.findClass R_P = some m.cls := findClass_of_methodNamed B.named
  have hlocks := B.notSynchronized
  have hl := lv_entry ([.ref a, .int x1, .ref o, .int x3] : List Value) (n := 9) (Nat.le_of_ble_eq_true rfl)
  rw [lg_entry_eq]
  generalize (lg_sl ([.ref a, .int x1, .ref o, .int x3] : List Value) ++ List.replicate (9 - (lg_sl ([.ref a, .int x1, .ref o, .int x3] : List Value)).length) Slot.unset).toArray = ls at hl ⊢
  have hl : lv_has ls 9 [(0, .ref a), (1, .int x1), (2, .ref o), (3, .int x3)] := hl
  have k81 : ∀ (s0 : Int32), f_P_passesBeside_j81 v w s0 = some r →  ∀ (ls : Array Slot), lv_has ls 9 [] → W p l e (headSpec wsP_passesBeside ({ frames := 1, cells := 0, slots := 0, locals := 26 })).room s m ([.ref a, .int x1, .ref o, .int x3] : List Value).toArray below meth c s.heap [] 0 0 (MQ below (vp_Si (fun z => z = r)) ([.ref a, .int x1, .ref o, .int x3] : List Value).toArray s 0 0 (fun _ => False)) (F0 m 81 ls [.int s0]) := by
    intro s0 h  ls hl
    unfold f_P_passesBeside_j81 at h
    obtain ⟨hz, hr9⟩ := rb_of h
    exact W.zret hx hb hr hz (fun t ht hW => ⟨_, rfl, hr9, ht⟩) nil_locs dP_passesBeside_81
  have k80 : f_P_passesBeside_j80 v w = some r →  ∀ (ls : Array Slot), lv_has ls 9 [] → W p l e (headSpec wsP_passesBeside ({ frames := 1, cells := 0, slots := 0, locals := 26 })).room s m ([.ref a, .int x1, .ref o, .int x3] : List Value).toArray below meth c s.heap [] 0 0 (MQ below (vp_Si (fun z => z = r)) ([.ref a, .int x1, .ref o, .int x3] : List Value).toArray s 0 0 (fun _ => False)) (F0 m 80 ls []) := by
    intro  h  ls hl
    unfold f_P_passesBeside_j80 at h
    refine lv_iconst (v := 0) hx hb dP_passesBeside_80 (by decide) ?_
    exact k81 (0 : Int32) h ls (lv_sub hl [] rfl)
  have k76 : f_P_passesBeside_j76 v w = some r →  ∀ (ls : Array Slot), lv_has ls 9 [] → W p l e (headSpec wsP_passesBeside ({ frames := 1, cells := 0, slots := 0, locals := 26 })).room s m ([.ref a, .int x1, .ref o, .int x3] : List Value).toArray below meth c s.heap [] 0 0 (MQ below (vp_Si (fun z => z = r)) ([.ref a, .int x1, .ref o, .int x3] : List Value).toArray s 0 0 (fun _ => False)) (F0 m 76 ls []) := by
    intro  h  ls hl
    unfold f_P_passesBeside_j76 at h
    refine lv_iconst (v := 1) hx hb dP_passesBeside_76 (by decide) ?_
    refine lv_goto (tgt := 81) hx hb dP_passesBeside_77 (by decide) ?_
    exact k81 (1 : Int32) h ls (lv_sub hl [] rfl)
  have k62 : ∀ (p5 : Int64) (p7 : Int64), f_P_passesBeside_j62 v w p5 p7 = some r →  ∀ (ls : Array Slot), lv_has ls 9 [(5, .long p5), (7, .long p7)] → W p l e (headSpec wsP_passesBeside ({ frames := 1, cells := 0, slots := 0, locals := 26 })).room s m ([.ref a, .int x1, .ref o, .int x3] : List Value).toArray below meth c s.heap [] 0 0 (MQ below (vp_Si (fun z => z = r)) ([.ref a, .int x1, .ref o, .int x3] : List Value).toArray s 0 0 (fun _ => False)) (F0 m 62 ls []) := by
    intro p5 p7 h  ls hl
    unfold f_P_passesBeside_j62 at h
    refine lv_lload hx hb dP_passesBeside_62 (lv_at hl 0 rfl) ?_
    refine lv_lconst (v := 0) hx hb dP_passesBeside_64 (by decide) ?_
    refine W.lcmp hx hb dP_passesBeside_65 ?_
    refine lv_if_le (tgt := 80) hx hb dP_passesBeside_66 (by decide) (fun c10 => ?_) (fun c10 => ?_)
    · have h := it_t c10 h
      exact k80 h ls (lv_sub hl [] rfl)
    · have h := it_f c10 h
      refine lv_lload hx hb dP_passesBeside_69 (lv_at hl 1 rfl) ?_
      refine lv_lconst (v := 0) hx hb dP_passesBeside_71 (by decide) ?_
      refine W.lcmp hx hb dP_passesBeside_72 ?_
      refine lv_if_le (tgt := 80) hx hb dP_passesBeside_73 (by decide) (fun c11 => ?_) (fun c11 => ?_)
      · have h := it_t c11 h
        exact k80 h ls (lv_sub hl [] rfl)
      · have h := it_f c11 h
        exact k76 h ls (lv_sub hl [] rfl)
  unfold f_P_passesBeside at h
  refine lv_aload_n hx hb dP_passesBeside_0 rfl (lv_at hl 2 rfl) ?_
  refine va_get (D := (dC, dI)) (ci := 0) (v := .ref oe) (C := R_S) (T := T_S) (N := 8) hx hb hw in_S hown hK hPo 0 rfl rfl 5 (by decide) (hw _ w_51) (fun _ h9 => h9) rfl dP_passesBeside_1 ?_
  refine lv_iload_n hx hb dP_passesBeside_4 rfl (lv_at hl 3 rfl) ?_
  obtain ⟨u1, hu1, h⟩ := ob_some h
  obtain ⟨hiu1, eu1⟩ := ld_of hu1
  refine va_iald hx hb hK hPo 3 1 rfl rfl hiu1 dP_passesBeside_5 ?_
  rw [eu1]
  refine lv_istore (lv' := [(4, .int u1), (0, .ref a), (1, .int x1), (2, .ref o), (3, .int x3)]) hx hb dP_passesBeside_6 hl (by decide) rfl (fun ls hl => ?_)
  refine lv_aload_n hx hb dP_passesBeside_8 rfl (lv_at hl 1 rfl) ?_
  refine lv_iload_n hx hb dP_passesBeside_9 rfl (lv_at hl 2 rfl) ?_
  refine lv_aload_n hx hb dP_passesBeside_10 rfl (lv_at hl 3 rfl) ?_
  refine va_get (D := (dC, dI)) (ci := 0) (v := .ref ox) (C := R_S) (T := T_S) (N := 8) hx hb hw in_S hown hK hPo 0 rfl rfl 3 (by decide) (hw _ w_47) (fun _ h9 => h9) rfl dP_passesBeside_11 ?_
  refine lv_iload_n hx hb dP_passesBeside_14 rfl (lv_at hl 4 rfl) ?_
  obtain ⟨u2, hu2, h⟩ := ob_some h
  obtain ⟨hiu2, eu2⟩ := ld_of hu2
  refine va_lald hx hb hK hPo 1 0 rfl rfl hiu2 dP_passesBeside_15 ?_
  rw [eu2]
  refine lv_aload_n hx hb dP_passesBeside_16 rfl (lv_at hl 3 rfl) ?_
  refine va_get (D := (dC, dI)) (ci := 0) (v := .ref oy) (C := R_S) (T := T_S) (N := 8) hx hb hw in_S hown hK hPo 0 rfl rfl 4 (by decide) (hw _ w_49) (fun _ h9 => h9) rfl dP_passesBeside_17 ?_
  refine lv_iload_n hx hb dP_passesBeside_20 rfl (lv_at hl 4 rfl) ?_
  obtain ⟨u3, hu3, h⟩ := ob_some h
  obtain ⟨hiu3, eu3⟩ := ld_of hu3
  refine va_lald hx hb hK hPo 2 0 rfl rfl hiu3 dP_passesBeside_21 ?_
  rw [eu3]
  obtain ⟨u4, hu4, h⟩ := ob_some h
  refine vp_callSl (va_Run.run (va_runV (As := [.int x1, .long u2, .long u3]) (rest := []) ⟨hx, hb, hml, hown, hw⟩ (k_S_cross l dC dI cL cI a ax ay ae v x1 u2 u3 u4 hu4) (cwV 3 hw (gV w_287 w_265 w_266 w_7 w_267) rfl rfl rfl (by decide +kernel) ⟨Nat.le_of_ble_eq_true rfl, Nat.le_of_ble_eq_true rfl⟩) ⟨rd_blind, va_recv hK hPa (ci := 0) (q0 := 0) rfl rfl, rd_pre hPa hK⟩ rfl rfl hl.1 rfl (lv_room (Nat.le_of_ble_eq_true rfl)) dP_passesBeside_22 ⟨Nat.le_of_ble_eq_true rfl, Nat.le_of_ble_eq_true rfl⟩)) (fun z hz => ?_)
  rw [hz]; clear hz
  refine lv_lstore (lv' := [(5, .long u4), (4, .int u1), (0, .ref a), (1, .int x1), (2, .ref o), (3, .int x3)]) hx hb dP_passesBeside_25 hl (by decide) rfl (fun ls hl => ?_)
  refine lv_aload_n hx hb dP_passesBeside_27 rfl (lv_at hl 2 rfl) ?_
  refine lv_iload_n hx hb dP_passesBeside_28 rfl (lv_at hl 3 rfl) ?_
  refine lv_aload_n hx hb dP_passesBeside_29 rfl (lv_at hl 4 rfl) ?_
  refine va_get (D := (dC, dI)) (ci := 0) (v := .ref ox) (C := R_S) (T := T_S) (N := 8) hx hb hw in_S hown hK hPo 0 rfl rfl 3 (by decide) (hw _ w_47) (fun _ h9 => h9) rfl dP_passesBeside_30 ?_
  refine lv_iload hx hb dP_passesBeside_33 (lv_at hl 1 rfl) ?_
  obtain ⟨u5, hu5, h⟩ := ob_some h
  obtain ⟨hiu5, eu5⟩ := ld_of hu5
  refine va_lald hx hb hK hPo 1 0 rfl rfl hiu5 dP_passesBeside_35 ?_
  rw [eu5]
  refine lv_aload_n hx hb dP_passesBeside_36 rfl (lv_at hl 4 rfl) ?_
  refine va_get (D := (dC, dI)) (ci := 0) (v := .ref oy) (C := R_S) (T := T_S) (N := 8) hx hb hw in_S hown hK hPo 0 rfl rfl 4 (by decide) (hw _ w_49) (fun _ h9 => h9) rfl dP_passesBeside_37 ?_
  refine lv_iload hx hb dP_passesBeside_40 (lv_at hl 1 rfl) ?_
  obtain ⟨u6, hu6, h⟩ := ob_some h
  obtain ⟨hiu6, eu6⟩ := ld_of hu6
  refine va_lald hx hb hK hPo 2 0 rfl rfl hiu6 dP_passesBeside_42 ?_
  rw [eu6]
  obtain ⟨u7, hu7, h⟩ := ob_some h
  refine vp_callSl (va_Run.run (va_runV (As := [.int x1, .long u5, .long u6]) (rest := []) ⟨hx, hb, hml, hown, hw⟩ (k_S_cross l dC dI cL cI a ax ay ae v x1 u5 u6 u7 hu7) (cwV 3 hw (gV w_287 w_265 w_266 w_7 w_267) rfl rfl rfl (by decide +kernel) ⟨Nat.le_of_ble_eq_true rfl, Nat.le_of_ble_eq_true rfl⟩) ⟨rd_blind, va_recv hK hPa (ci := 0) (q0 := 0) rfl rfl, rd_pre hPa hK⟩ rfl rfl hl.1 rfl (lv_room (Nat.le_of_ble_eq_true rfl)) dP_passesBeside_43 ⟨Nat.le_of_ble_eq_true rfl, Nat.le_of_ble_eq_true rfl⟩)) (fun z hz => ?_)
  rw [hz]; clear hz
  refine lv_lstore (lv' := [(7, .long u7), (5, .long u4), (4, .int u1), (0, .ref a), (1, .int x1), (2, .ref o), (3, .int x3)]) hx hb dP_passesBeside_46 hl (by decide) rfl (fun ls hl => ?_)
  refine lv_lload hx hb dP_passesBeside_48 (lv_at hl 1 rfl) ?_
  refine lv_lconst (v := 0) hx hb dP_passesBeside_50 (by decide) ?_
  refine W.lcmp hx hb dP_passesBeside_51 ?_
  refine lv_if_ge (tgt := 62) hx hb dP_passesBeside_52 (by decide) (fun c8 => ?_) (fun c8 => ?_)
  · have h := it_t c8 h
    exact k62 u4 u7 h ls (lv_sub hl [1, 0] rfl)
  · have h := it_f c8 h
    refine lv_lload hx hb dP_passesBeside_55 (lv_at hl 0 rfl) ?_
    refine lv_lconst (v := 0) hx hb dP_passesBeside_57 (by decide) ?_
    refine W.lcmp hx hb dP_passesBeside_58 ?_
    refine lv_if_lt (tgt := 76) hx hb dP_passesBeside_59 (by decide) (fun c9 => ?_) (fun c9 => ?_)
    · have h := it_t c9 h
      exact k76 h ls (lv_sub hl [] rfl)
    · have h := it_f c9 h
      exact k62 u4 u7 h ls (lv_sub hl [1, 0] rfl)
theorem dP_sidesMeet_0 : decode cP_sidesMeet 0 = .ok (.aload_n 0, 1) := by decide +kernel
theorem dP_sidesMeet_1 : decode cP_sidesMeet 1 = .ok (.getfield 54, 3) := by decide +kernel
theorem dP_sidesMeet_4 : decode cP_sidesMeet 4 = .ok (.iload_n 1, 1) := by decide +kernel
theorem dP_sidesMeet_5 : decode cP_sidesMeet 5 = .ok (.iaload, 1) := by decide +kernel
theorem dP_sidesMeet_6 : decode cP_sidesMeet 6 = .ok (.istore 4, 2) := by decide +kernel
theorem dP_sidesMeet_8 : decode cP_sidesMeet 8 = .ok (.aload_n 2, 1) := by decide +kernel
theorem dP_sidesMeet_9 : decode cP_sidesMeet 9 = .ok (.getfield 54, 3) := by decide +kernel
theorem dP_sidesMeet_12 : decode cP_sidesMeet 12 = .ok (.iload_n 3, 1) := by decide +kernel
theorem dP_sidesMeet_13 : decode cP_sidesMeet 13 = .ok (.iaload, 1) := by decide +kernel
theorem dP_sidesMeet_14 : decode cP_sidesMeet 14 = .ok (.istore 5, 2) := by decide +kernel
theorem dP_sidesMeet_16 : decode cP_sidesMeet 16 = .ok (.aload_n 0, 1) := by decide +kernel
theorem dP_sidesMeet_17 : decode cP_sidesMeet 17 = .ok (.getfield 35, 3) := by decide +kernel
theorem dP_sidesMeet_20 : decode cP_sidesMeet 20 = .ok (.iload_n 1, 1) := by decide +kernel
theorem dP_sidesMeet_21 : decode cP_sidesMeet 21 = .ok (.laload, 1) := by decide +kernel
theorem dP_sidesMeet_22 : decode cP_sidesMeet 22 = .ok (.aload_n 0, 1) := by decide +kernel
theorem dP_sidesMeet_23 : decode cP_sidesMeet 23 = .ok (.getfield 35, 3) := by decide +kernel
theorem dP_sidesMeet_26 : decode cP_sidesMeet 26 = .ok (.iload 4, 2) := by decide +kernel
theorem dP_sidesMeet_28 : decode cP_sidesMeet 28 = .ok (.laload, 1) := by decide +kernel
theorem dP_sidesMeet_29 : decode cP_sidesMeet 29 = .ok (.aload_n 2, 1) := by decide +kernel
theorem dP_sidesMeet_30 : decode cP_sidesMeet 30 = .ok (.getfield 35, 3) := by decide +kernel
theorem dP_sidesMeet_33 : decode cP_sidesMeet 33 = .ok (.iload_n 3, 1) := by decide +kernel
theorem dP_sidesMeet_34 : decode cP_sidesMeet 34 = .ok (.laload, 1) := by decide +kernel
theorem dP_sidesMeet_35 : decode cP_sidesMeet 35 = .ok (.aload_n 2, 1) := by decide +kernel
theorem dP_sidesMeet_36 : decode cP_sidesMeet 36 = .ok (.getfield 35, 3) := by decide +kernel
theorem dP_sidesMeet_39 : decode cP_sidesMeet 39 = .ok (.iload 5, 2) := by decide +kernel
theorem dP_sidesMeet_41 : decode cP_sidesMeet 41 = .ok (.laload, 1) := by decide +kernel
theorem dP_sidesMeet_42 : decode cP_sidesMeet 42 = .ok (.invokestatic 58, 3) := by decide +kernel
theorem dP_sidesMeet_45 : decode cP_sidesMeet 45 = .ok (.ifCond .eq 59, 3) := by decide +kernel
theorem dP_sidesMeet_48 : decode cP_sidesMeet 48 = .ok (.aload_n 0, 1) := by decide +kernel
theorem dP_sidesMeet_49 : decode cP_sidesMeet 49 = .ok (.getfield 39, 3) := by decide +kernel
theorem dP_sidesMeet_52 : decode cP_sidesMeet 52 = .ok (.iload_n 1, 1) := by decide +kernel
theorem dP_sidesMeet_53 : decode cP_sidesMeet 53 = .ok (.laload, 1) := by decide +kernel
theorem dP_sidesMeet_54 : decode cP_sidesMeet 54 = .ok (.aload_n 0, 1) := by decide +kernel
theorem dP_sidesMeet_55 : decode cP_sidesMeet 55 = .ok (.getfield 39, 3) := by decide +kernel
theorem dP_sidesMeet_58 : decode cP_sidesMeet 58 = .ok (.iload 4, 2) := by decide +kernel
theorem dP_sidesMeet_60 : decode cP_sidesMeet 60 = .ok (.laload, 1) := by decide +kernel
theorem dP_sidesMeet_61 : decode cP_sidesMeet 61 = .ok (.aload_n 2, 1) := by decide +kernel
theorem dP_sidesMeet_62 : decode cP_sidesMeet 62 = .ok (.getfield 39, 3) := by decide +kernel
theorem dP_sidesMeet_65 : decode cP_sidesMeet 65 = .ok (.iload_n 3, 1) := by decide +kernel
theorem dP_sidesMeet_66 : decode cP_sidesMeet 66 = .ok (.laload, 1) := by decide +kernel
theorem dP_sidesMeet_67 : decode cP_sidesMeet 67 = .ok (.aload_n 2, 1) := by decide +kernel
theorem dP_sidesMeet_68 : decode cP_sidesMeet 68 = .ok (.getfield 39, 3) := by decide +kernel
theorem dP_sidesMeet_71 : decode cP_sidesMeet 71 = .ok (.iload 5, 2) := by decide +kernel
theorem dP_sidesMeet_73 : decode cP_sidesMeet 73 = .ok (.laload, 1) := by decide +kernel
theorem dP_sidesMeet_74 : decode cP_sidesMeet 74 = .ok (.invokestatic 58, 3) := by decide +kernel
theorem dP_sidesMeet_77 : decode cP_sidesMeet 77 = .ok (.ifCond .eq 27, 3) := by decide +kernel
theorem dP_sidesMeet_80 : decode cP_sidesMeet 80 = .ok (.aload_n 0, 1) := by decide +kernel
theorem dP_sidesMeet_81 : decode cP_sidesMeet 81 = .ok (.iload_n 1, 1) := by decide +kernel
theorem dP_sidesMeet_82 : decode cP_sidesMeet 82 = .ok (.aload_n 2, 1) := by decide +kernel
theorem dP_sidesMeet_83 : decode cP_sidesMeet 83 = .ok (.iload_n 3, 1) := by decide +kernel
theorem dP_sidesMeet_84 : decode cP_sidesMeet 84 = .ok (.invokestatic 62, 3) := by decide +kernel
theorem dP_sidesMeet_87 : decode cP_sidesMeet 87 = .ok (.ifCond .ne 17, 3) := by decide +kernel
theorem dP_sidesMeet_90 : decode cP_sidesMeet 90 = .ok (.aload_n 2, 1) := by decide +kernel
theorem dP_sidesMeet_91 : decode cP_sidesMeet 91 = .ok (.iload_n 3, 1) := by decide +kernel
theorem dP_sidesMeet_92 : decode cP_sidesMeet 92 = .ok (.aload_n 0, 1) := by decide +kernel
theorem dP_sidesMeet_93 : decode cP_sidesMeet 93 = .ok (.iload_n 1, 1) := by decide +kernel
theorem dP_sidesMeet_94 : decode cP_sidesMeet 94 = .ok (.invokestatic 62, 3) := by decide +kernel
theorem dP_sidesMeet_97 : decode cP_sidesMeet 97 = .ok (.ifCond .ne 7, 3) := by decide +kernel
theorem dP_sidesMeet_100 : decode cP_sidesMeet 100 = .ok (.iconst 1, 1) := by decide +kernel
theorem dP_sidesMeet_101 : decode cP_sidesMeet 101 = .ok (.goto 4, 3) := by decide +kernel
theorem dP_sidesMeet_104 : decode cP_sidesMeet 104 = .ok (.iconst 0, 1) := by decide +kernel
theorem dP_sidesMeet_105 : decode cP_sidesMeet 105 = .ok (.ireturn, 1) := by decide +kernel
def f_P_sidesMeet_j105 (v : SV) (w : SV) (s0 : Int32) : Option Int32 := rb s0
def f_P_sidesMeet_j104 (v : SV) (w : SV) : Option Int32 := (f_P_sidesMeet_j105 v w (0 : Int32))
def f_P_sidesMeet (v : SV) (w : SV) (x1 : Int32) (x3 : Int32) : Option Int32 := (ld 48 (sE v) x1).bind fun u1 => (ld 48 (sE w) x3).bind fun u2 => (ld 48 (sX v) x1).bind fun u3 => (ld 48 (sX v) u1).bind fun u4 => (ld 48 (sX w) x3).bind fun u5 => (ld 48 (sX w) u2).bind fun u6 => (f_P_spansMeet u3 u4 u5 u6).bind fun u7 => (if u7 = 0 then (f_P_sidesMeet_j104 v w) else (ld 48 (sY v) x1).bind fun u9 => (ld 48 (sY v) u1).bind fun u10 => (ld 48 (sY w) x3).bind fun u11 => (ld 48 (sY w) u2).bind fun u12 => (f_P_spansMeet u9 u10 u11 u12).bind fun u13 => (if u13 = 0 then (f_P_sidesMeet_j104 v w) else (f_P_passesBeside v w x1 x3).bind fun u15 => (if u15 = 0 then (f_P_passesBeside w v x3 x1).bind fun u17 => (if u17 = 0 then (f_P_sidesMeet_j105 v w (1 : Int32)) else (f_P_sidesMeet_j104 v w)) else (f_P_sidesMeet_j104 v w))))
set_option maxHeartbeats 4000000 in
set_option maxRecDepth 100000 in
theorem k_P_sidesMeet (l : Launch) (dC : Nat → ClassId) (dI : Nat → Nat → Nat) (cL cI : ClassId) (a ax ay ae : Nat) (v : SV) (o ox oy oe : Nat) (w : SV) (x1 : Int32) (x3 : Int32) (r : Int32) (h : f_P_sidesMeet v w x1 x3 = some r) : Met l yP_sidesMeet wsP_sidesMeet ({ frames := 2, cells := 0, slots := 0, locals := 54 }) (rd_Pc [.ref a, .int x1, .ref o, .int x3] (fun H => va_P (dC, dI) cls3 (shW cL cI a ax ay ae v) H ∧ va_P (dC, dI) cls3 (shW cL cI o ox oy oe w) H) (dC, dI) cls3 [(cL, .long), (cI, .int)]) (vp_Si (fun z => z = r)) 0 0 (fun _ => False) := by
  refine Met.ofW (cc := cP_sidesMeet) (maxL := 6) (ret := (some .boolean)) (by decide) rfl ?_
  intro p e s m args below meth c s₁ B hml hv
  obtain ⟨rfl, ⟨hPa, hPo⟩, hK⟩ := hv
  have hx := B.exec
  have hb := B.bytes
  have hr := B.returns
  have hw : ∀ w ∈ wG, w.before ([.ref a, .int x1, .ref o, .int x3] : List Value).toArray s = true := fun w hq => atoms_spec (ws := wsP_sidesMeet) B.pre w (List.mem_cons_of_mem _ hq)
  have hown : s.vm.findClass R_P = some m.cls := findClass_of_methodNamed B.named
  have hlocks := B.notSynchronized
  have hl := lv_entry ([.ref a, .int x1, .ref o, .int x3] : List Value) (n := 6) (Nat.le_of_ble_eq_true rfl)
  rw [lg_entry_eq]
  generalize (lg_sl ([.ref a, .int x1, .ref o, .int x3] : List Value) ++ List.replicate (6 - (lg_sl ([.ref a, .int x1, .ref o, .int x3] : List Value)).length) Slot.unset).toArray = ls at hl ⊢
  have hl : lv_has ls 6 [(0, .ref a), (1, .int x1), (2, .ref o), (3, .int x3)] := hl
  have k105 : ∀ (s0 : Int32), f_P_sidesMeet_j105 v w s0 = some r →  ∀ (ls : Array Slot), lv_has ls 6 [] → W p l e (headSpec wsP_sidesMeet ({ frames := 2, cells := 0, slots := 0, locals := 54 })).room s m ([.ref a, .int x1, .ref o, .int x3] : List Value).toArray below meth c s.heap [] 0 0 (MQ below (vp_Si (fun z => z = r)) ([.ref a, .int x1, .ref o, .int x3] : List Value).toArray s 0 0 (fun _ => False)) (F0 m 105 ls [.int s0]) := by
    intro s0 h  ls hl
    unfold f_P_sidesMeet_j105 at h
    obtain ⟨hz, hr9⟩ := rb_of h
    exact W.zret hx hb hr hz (fun t ht hW => ⟨_, rfl, hr9, ht⟩) nil_locs dP_sidesMeet_105
  have k104 : f_P_sidesMeet_j104 v w = some r →  ∀ (ls : Array Slot), lv_has ls 6 [] → W p l e (headSpec wsP_sidesMeet ({ frames := 2, cells := 0, slots := 0, locals := 54 })).room s m ([.ref a, .int x1, .ref o, .int x3] : List Value).toArray below meth c s.heap [] 0 0 (MQ below (vp_Si (fun z => z = r)) ([.ref a, .int x1, .ref o, .int x3] : List Value).toArray s 0 0 (fun _ => False)) (F0 m 104 ls []) := by
    intro  h  ls hl
    unfold f_P_sidesMeet_j104 at h
    refine lv_iconst (v := 0) hx hb dP_sidesMeet_104 (by decide) ?_
    exact k105 (0 : Int32) h ls (lv_sub hl [] rfl)
  unfold f_P_sidesMeet at h
  refine lv_aload_n hx hb dP_sidesMeet_0 rfl (lv_at hl 0 rfl) ?_
  refine va_get (D := (dC, dI)) (ci := 0) (v := .ref ae) (C := R_S) (T := T_S) (N := 8) hx hb hw in_S hown hK hPa 0 rfl rfl 5 (by decide) (hw _ w_51) (fun _ h9 => h9) rfl dP_sidesMeet_1 ?_
  refine lv_iload_n hx hb dP_sidesMeet_4 rfl (lv_at hl 1 rfl) ?_
  obtain ⟨u1, hu1, h⟩ := ob_some h
  obtain ⟨hiu1, eu1⟩ := ld_of hu1
  refine va_iald hx hb hK hPa 3 1 rfl rfl hiu1 dP_sidesMeet_5 ?_
  rw [eu1]
  refine lv_istore (lv' := [(4, .int u1), (0, .ref a), (1, .int x1), (2, .ref o), (3, .int x3)]) hx hb dP_sidesMeet_6 hl (by decide) rfl (fun ls hl => ?_)
  refine lv_aload_n hx hb dP_sidesMeet_8 rfl (lv_at hl 3 rfl) ?_
  refine va_get (D := (dC, dI)) (ci := 0) (v := .ref oe) (C := R_S) (T := T_S) (N := 8) hx hb hw in_S hown hK hPo 0 rfl rfl 5 (by decide) (hw _ w_51) (fun _ h9 => h9) rfl dP_sidesMeet_9 ?_
  refine lv_iload_n hx hb dP_sidesMeet_12 rfl (lv_at hl 4 rfl) ?_
  obtain ⟨u2, hu2, h⟩ := ob_some h
  obtain ⟨hiu2, eu2⟩ := ld_of hu2
  refine va_iald hx hb hK hPo 3 1 rfl rfl hiu2 dP_sidesMeet_13 ?_
  rw [eu2]
  refine lv_istore (lv' := [(5, .int u2), (4, .int u1), (0, .ref a), (1, .int x1), (2, .ref o), (3, .int x3)]) hx hb dP_sidesMeet_14 hl (by decide) rfl (fun ls hl => ?_)
  refine lv_aload_n hx hb dP_sidesMeet_16 rfl (lv_at hl 2 rfl) ?_
  refine va_get (D := (dC, dI)) (ci := 0) (v := .ref ax) (C := R_S) (T := T_S) (N := 8) hx hb hw in_S hown hK hPa 0 rfl rfl 3 (by decide) (hw _ w_47) (fun _ h9 => h9) rfl dP_sidesMeet_17 ?_
  refine lv_iload_n hx hb dP_sidesMeet_20 rfl (lv_at hl 3 rfl) ?_
  obtain ⟨u3, hu3, h⟩ := ob_some h
  obtain ⟨hiu3, eu3⟩ := ld_of hu3
  refine va_lald hx hb hK hPa 1 0 rfl rfl hiu3 dP_sidesMeet_21 ?_
  rw [eu3]
  refine lv_aload_n hx hb dP_sidesMeet_22 rfl (lv_at hl 2 rfl) ?_
  refine va_get (D := (dC, dI)) (ci := 0) (v := .ref ax) (C := R_S) (T := T_S) (N := 8) hx hb hw in_S hown hK hPa 0 rfl rfl 3 (by decide) (hw _ w_47) (fun _ h9 => h9) rfl dP_sidesMeet_23 ?_
  refine lv_iload hx hb dP_sidesMeet_26 (lv_at hl 1 rfl) ?_
  obtain ⟨u4, hu4, h⟩ := ob_some h
  obtain ⟨hiu4, eu4⟩ := ld_of hu4
  refine va_lald hx hb hK hPa 1 0 rfl rfl hiu4 dP_sidesMeet_28 ?_
  rw [eu4]
  refine lv_aload_n hx hb dP_sidesMeet_29 rfl (lv_at hl 4 rfl) ?_
  refine va_get (D := (dC, dI)) (ci := 0) (v := .ref ox) (C := R_S) (T := T_S) (N := 8) hx hb hw in_S hown hK hPo 0 rfl rfl 3 (by decide) (hw _ w_47) (fun _ h9 => h9) rfl dP_sidesMeet_30 ?_
  refine lv_iload_n hx hb dP_sidesMeet_33 rfl (lv_at hl 5 rfl) ?_
  obtain ⟨u5, hu5, h⟩ := ob_some h
  obtain ⟨hiu5, eu5⟩ := ld_of hu5
  refine va_lald hx hb hK hPo 1 0 rfl rfl hiu5 dP_sidesMeet_34 ?_
  rw [eu5]
  refine lv_aload_n hx hb dP_sidesMeet_35 rfl (lv_at hl 4 rfl) ?_
  refine va_get (D := (dC, dI)) (ci := 0) (v := .ref ox) (C := R_S) (T := T_S) (N := 8) hx hb hw in_S hown hK hPo 0 rfl rfl 3 (by decide) (hw _ w_47) (fun _ h9 => h9) rfl dP_sidesMeet_36 ?_
  refine lv_iload hx hb dP_sidesMeet_39 (lv_at hl 0 rfl) ?_
  obtain ⟨u6, hu6, h⟩ := ob_some h
  obtain ⟨hiu6, eu6⟩ := ld_of hu6
  refine va_lald hx hb hK hPo 1 0 rfl rfl hiu6 dP_sidesMeet_41 ?_
  rw [eu6]
  obtain ⟨u7, hu7, h⟩ := ob_some h
  refine vp_callSi (va_Run.run (va_runS (As := [.long u3, .long u4, .long u5, .long u6]) (rest := []) ⟨hx, hb, hml, hown, hw⟩ (k_P_spansMeet l dC dI cL cI u3 u4 u5 u6 u7 hu7) (va_cwS 4 hw (gS w_275 w_276 w_10 w_277) rfl rfl rfl (by decide +kernel) ⟨Nat.le_of_ble_eq_true rfl, Nat.le_of_ble_eq_true rfl⟩) ⟨rd_blind, rd_pre trivial hK⟩ rfl rfl hl.1 rfl (lv_room (Nat.le_of_ble_eq_true rfl)) dP_sidesMeet_42 ⟨Nat.le_of_ble_eq_true rfl, Nat.le_of_ble_eq_true rfl⟩)) (fun z hz => ?_)
  rw [hz]; clear hz
  refine lv_if_eq (tgt := 104) hx hb dP_sidesMeet_45 (by decide) (fun c8 => ?_) (fun c8 => ?_)
  · have h := it_t c8 h
    exact k104 h ls (lv_sub hl [] rfl)
  · have h := it_f c8 h
    refine lv_aload_n hx hb dP_sidesMeet_48 rfl (lv_at hl 2 rfl) ?_
    refine va_get (D := (dC, dI)) (ci := 0) (v := .ref ay) (C := R_S) (T := T_S) (N := 8) hx hb hw in_S hown hK hPa 0 rfl rfl 4 (by decide) (hw _ w_49) (fun _ h9 => h9) rfl dP_sidesMeet_49 ?_
    refine lv_iload_n hx hb dP_sidesMeet_52 rfl (lv_at hl 3 rfl) ?_
    obtain ⟨u9, hu9, h⟩ := ob_some h
    obtain ⟨hiu9, eu9⟩ := ld_of hu9
    refine va_lald hx hb hK hPa 2 0 rfl rfl hiu9 dP_sidesMeet_53 ?_
    rw [eu9]
    refine lv_aload_n hx hb dP_sidesMeet_54 rfl (lv_at hl 2 rfl) ?_
    refine va_get (D := (dC, dI)) (ci := 0) (v := .ref ay) (C := R_S) (T := T_S) (N := 8) hx hb hw in_S hown hK hPa 0 rfl rfl 4 (by decide) (hw _ w_49) (fun _ h9 => h9) rfl dP_sidesMeet_55 ?_
    refine lv_iload hx hb dP_sidesMeet_58 (lv_at hl 1 rfl) ?_
    obtain ⟨u10, hu10, h⟩ := ob_some h
    obtain ⟨hiu10, eu10⟩ := ld_of hu10
    refine va_lald hx hb hK hPa 2 0 rfl rfl hiu10 dP_sidesMeet_60 ?_
    rw [eu10]
    refine lv_aload_n hx hb dP_sidesMeet_61 rfl (lv_at hl 4 rfl) ?_
    refine va_get (D := (dC, dI)) (ci := 0) (v := .ref oy) (C := R_S) (T := T_S) (N := 8) hx hb hw in_S hown hK hPo 0 rfl rfl 4 (by decide) (hw _ w_49) (fun _ h9 => h9) rfl dP_sidesMeet_62 ?_
    refine lv_iload_n hx hb dP_sidesMeet_65 rfl (lv_at hl 5 rfl) ?_
    obtain ⟨u11, hu11, h⟩ := ob_some h
    obtain ⟨hiu11, eu11⟩ := ld_of hu11
    refine va_lald hx hb hK hPo 2 0 rfl rfl hiu11 dP_sidesMeet_66 ?_
    rw [eu11]
    refine lv_aload_n hx hb dP_sidesMeet_67 rfl (lv_at hl 4 rfl) ?_
    refine va_get (D := (dC, dI)) (ci := 0) (v := .ref oy) (C := R_S) (T := T_S) (N := 8) hx hb hw in_S hown hK hPo 0 rfl rfl 4 (by decide) (hw _ w_49) (fun _ h9 => h9) rfl dP_sidesMeet_68 ?_
    refine lv_iload hx hb dP_sidesMeet_71 (lv_at hl 0 rfl) ?_
    obtain ⟨u12, hu12, h⟩ := ob_some h
    obtain ⟨hiu12, eu12⟩ := ld_of hu12
    refine va_lald hx hb hK hPo 2 0 rfl rfl hiu12 dP_sidesMeet_73 ?_
    rw [eu12]
    obtain ⟨u13, hu13, h⟩ := ob_some h
    refine vp_callSi (va_Run.run (va_runS (As := [.long u9, .long u10, .long u11, .long u12]) (rest := []) ⟨hx, hb, hml, hown, hw⟩ (k_P_spansMeet l dC dI cL cI u9 u10 u11 u12 u13 hu13) (va_cwS 4 hw (gS w_275 w_276 w_10 w_277) rfl rfl rfl (by decide +kernel) ⟨Nat.le_of_ble_eq_true rfl, Nat.le_of_ble_eq_true rfl⟩) ⟨rd_blind, rd_pre trivial hK⟩ rfl rfl hl.1 rfl (lv_room (Nat.le_of_ble_eq_true rfl)) dP_sidesMeet_74 ⟨Nat.le_of_ble_eq_true rfl, Nat.le_of_ble_eq_true rfl⟩)) (fun z hz => ?_)
    rw [hz]; clear hz
    refine lv_if_eq (tgt := 104) hx hb dP_sidesMeet_77 (by decide) (fun c14 => ?_) (fun c14 => ?_)
    · have h := it_t c14 h
      exact k104 h ls (lv_sub hl [] rfl)
    · have h := it_f c14 h
      refine lv_aload_n hx hb dP_sidesMeet_80 rfl (lv_at hl 2 rfl) ?_
      refine lv_iload_n hx hb dP_sidesMeet_81 rfl (lv_at hl 3 rfl) ?_
      refine lv_aload_n hx hb dP_sidesMeet_82 rfl (lv_at hl 4 rfl) ?_
      refine lv_iload_n hx hb dP_sidesMeet_83 rfl (lv_at hl 5 rfl) ?_
      obtain ⟨u15, hu15, h⟩ := ob_some h
      refine vp_callSi (va_Run.run (va_runS (As := [.ref a, .int x1, .ref o, .int x3]) (rest := []) ⟨hx, hb, hml, hown, hw⟩ (k_P_passesBeside l dC dI cL cI a ax ay ae v o ox oy oe w x1 x3 u15 hu15) (va_cwS 4 hw (gS w_284 w_285 w_10 w_286) rfl rfl rfl (by decide +kernel) ⟨Nat.le_of_ble_eq_true rfl, Nat.le_of_ble_eq_true rfl⟩) ⟨rd_blind, rd_pre ⟨hPa, hPo⟩ hK⟩ rfl rfl hl.1 rfl (lv_room (Nat.le_of_ble_eq_true rfl)) dP_sidesMeet_84 ⟨Nat.le_of_ble_eq_true rfl, Nat.le_of_ble_eq_true rfl⟩)) (fun z hz => ?_)
      rw [hz]; clear hz
      refine lv_if_ne (tgt := 104) hx hb dP_sidesMeet_87 (by decide) (fun c16 => ?_) (fun c16 => ?_)
      · have h := it_f c16 h
        exact k104 h ls (lv_sub hl [] rfl)
      · have h := it_t c16 h
        refine lv_aload_n hx hb dP_sidesMeet_90 rfl (lv_at hl 4 rfl) ?_
        refine lv_iload_n hx hb dP_sidesMeet_91 rfl (lv_at hl 5 rfl) ?_
        refine lv_aload_n hx hb dP_sidesMeet_92 rfl (lv_at hl 2 rfl) ?_
        refine lv_iload_n hx hb dP_sidesMeet_93 rfl (lv_at hl 3 rfl) ?_
        obtain ⟨u17, hu17, h⟩ := ob_some h
        refine vp_callSi (va_Run.run (va_runS (As := [.ref o, .int x3, .ref a, .int x1]) (rest := []) ⟨hx, hb, hml, hown, hw⟩ (k_P_passesBeside l dC dI cL cI o ox oy oe w a ax ay ae v x3 x1 u17 hu17) (va_cwS 4 hw (gS w_284 w_285 w_10 w_286) rfl rfl rfl (by decide +kernel) ⟨Nat.le_of_ble_eq_true rfl, Nat.le_of_ble_eq_true rfl⟩) ⟨rd_blind, rd_pre ⟨hPo, hPa⟩ hK⟩ rfl rfl hl.1 rfl (lv_room (Nat.le_of_ble_eq_true rfl)) dP_sidesMeet_94 ⟨Nat.le_of_ble_eq_true rfl, Nat.le_of_ble_eq_true rfl⟩)) (fun z hz => ?_)
        rw [hz]; clear hz
        refine lv_if_ne (tgt := 104) hx hb dP_sidesMeet_97 (by decide) (fun c18 => ?_) (fun c18 => ?_)
        · have h := it_f c18 h
          exact k104 h ls (lv_sub hl [] rfl)
        · have h := it_t c18 h
          refine lv_iconst (v := 1) hx hb dP_sidesMeet_100 (by decide) ?_
          refine lv_goto (tgt := 105) hx hb dP_sidesMeet_101 (by decide) ?_
          exact k105 (1 : Int32) h ls (lv_sub hl [] rfl)
theorem dS_isOpenRingCrossing_0 : decode cS_isOpenRingCrossing 0 = .ok (.aload_n 0, 1) := by decide +kernel
theorem dS_isOpenRingCrossing_1 : decode cS_isOpenRingCrossing 1 = .ok (.getfield 37, 3) := by decide +kernel
theorem dS_isOpenRingCrossing_4 : decode cS_isOpenRingCrossing 4 = .ok (.istore_n 1, 1) := by decide +kernel
theorem dS_isOpenRingCrossing_5 : decode cS_isOpenRingCrossing 5 = .ok (.iload_n 1, 1) := by decide +kernel
theorem dS_isOpenRingCrossing_6 : decode cS_isOpenRingCrossing 6 = .ok (.aload_n 0, 1) := by decide +kernel
theorem dS_isOpenRingCrossing_7 : decode cS_isOpenRingCrossing 7 = .ok (.getfield 34, 3) := by decide +kernel
theorem dS_isOpenRingCrossing_10 : decode cS_isOpenRingCrossing 10 = .ok (.if_icmp .ge 64, 3) := by decide +kernel
theorem dS_isOpenRingCrossing_13 : decode cS_isOpenRingCrossing 13 = .ok (.iconst 0, 1) := by decide +kernel
theorem dS_isOpenRingCrossing_14 : decode cS_isOpenRingCrossing 14 = .ok (.istore_n 2, 1) := by decide +kernel
theorem dS_isOpenRingCrossing_15 : decode cS_isOpenRingCrossing 15 = .ok (.iload_n 2, 1) := by decide +kernel
theorem dS_isOpenRingCrossing_16 : decode cS_isOpenRingCrossing 16 = .ok (.iload_n 1, 1) := by decide +kernel
theorem dS_isOpenRingCrossing_17 : decode cS_isOpenRingCrossing 17 = .ok (.if_icmp .ge 51, 3) := by decide +kernel
theorem dS_isOpenRingCrossing_20 : decode cS_isOpenRingCrossing 20 = .ok (.aload_n 0, 1) := by decide +kernel
theorem dS_isOpenRingCrossing_21 : decode cS_isOpenRingCrossing 21 = .ok (.getfield 30, 3) := by decide +kernel
theorem dS_isOpenRingCrossing_24 : decode cS_isOpenRingCrossing 24 = .ok (.iload_n 1, 1) := by decide +kernel
theorem dS_isOpenRingCrossing_25 : decode cS_isOpenRingCrossing 25 = .ok (.iaload, 1) := by decide +kernel
theorem dS_isOpenRingCrossing_26 : decode cS_isOpenRingCrossing 26 = .ok (.iload_n 2, 1) := by decide +kernel
theorem dS_isOpenRingCrossing_27 : decode cS_isOpenRingCrossing 27 = .ok (.if_icmp .eq 13, 3) := by decide +kernel
theorem dS_isOpenRingCrossing_30 : decode cS_isOpenRingCrossing 30 = .ok (.aload_n 0, 1) := by decide +kernel
theorem dS_isOpenRingCrossing_31 : decode cS_isOpenRingCrossing 31 = .ok (.getfield 30, 3) := by decide +kernel
theorem dS_isOpenRingCrossing_34 : decode cS_isOpenRingCrossing 34 = .ok (.iload_n 2, 1) := by decide +kernel
theorem dS_isOpenRingCrossing_35 : decode cS_isOpenRingCrossing 35 = .ok (.iaload, 1) := by decide +kernel
theorem dS_isOpenRingCrossing_36 : decode cS_isOpenRingCrossing 36 = .ok (.iload_n 1, 1) := by decide +kernel
theorem dS_isOpenRingCrossing_37 : decode cS_isOpenRingCrossing 37 = .ok (.if_icmp .ne 7, 3) := by decide +kernel
theorem dS_isOpenRingCrossing_40 : decode cS_isOpenRingCrossing 40 = .ok (.iconst 1, 1) := by decide +kernel
theorem dS_isOpenRingCrossing_41 : decode cS_isOpenRingCrossing 41 = .ok (.goto 4, 3) := by decide +kernel
theorem dS_isOpenRingCrossing_44 : decode cS_isOpenRingCrossing 44 = .ok (.iconst 0, 1) := by decide +kernel
theorem dS_isOpenRingCrossing_45 : decode cS_isOpenRingCrossing 45 = .ok (.istore_n 3, 1) := by decide +kernel
theorem dS_isOpenRingCrossing_46 : decode cS_isOpenRingCrossing 46 = .ok (.iload_n 3, 1) := by decide +kernel
theorem dS_isOpenRingCrossing_47 : decode cS_isOpenRingCrossing 47 = .ok (.ifCond .ne 15, 3) := by decide +kernel
theorem dS_isOpenRingCrossing_50 : decode cS_isOpenRingCrossing 50 = .ok (.aload_n 0, 1) := by decide +kernel
theorem dS_isOpenRingCrossing_51 : decode cS_isOpenRingCrossing 51 = .ok (.iload_n 1, 1) := by decide +kernel
theorem dS_isOpenRingCrossing_52 : decode cS_isOpenRingCrossing 52 = .ok (.aload_n 0, 1) := by decide +kernel
theorem dS_isOpenRingCrossing_53 : decode cS_isOpenRingCrossing 53 = .ok (.iload_n 2, 1) := by decide +kernel
theorem dS_isOpenRingCrossing_54 : decode cS_isOpenRingCrossing 54 = .ok (.invokestatic 54, 3) := by decide +kernel
theorem dS_isOpenRingCrossing_57 : decode cS_isOpenRingCrossing 57 = .ok (.ifCond .eq 5, 3) := by decide +kernel
theorem dS_isOpenRingCrossing_60 : decode cS_isOpenRingCrossing 60 = .ok (.iconst 1, 1) := by decide +kernel
theorem dS_isOpenRingCrossing_61 : decode cS_isOpenRingCrossing 61 = .ok (.ireturn, 1) := by decide +kernel
theorem dS_isOpenRingCrossing_62 : decode cS_isOpenRingCrossing 62 = .ok (.iinc 2 1, 3) := by decide +kernel
theorem dS_isOpenRingCrossing_65 : decode cS_isOpenRingCrossing 65 = .ok (.goto (-50), 3) := by decide +kernel
theorem dS_isOpenRingCrossing_68 : decode cS_isOpenRingCrossing 68 = .ok (.iinc 1 1, 3) := by decide +kernel
theorem dS_isOpenRingCrossing_71 : decode cS_isOpenRingCrossing 71 = .ok (.goto (-66), 3) := by decide +kernel
theorem dS_isOpenRingCrossing_74 : decode cS_isOpenRingCrossing 74 = .ok (.iconst 0, 1) := by decide +kernel
theorem dS_isOpenRingCrossing_75 : decode cS_isOpenRingCrossing 75 = .ok (.ireturn, 1) := by decide +kernel
def f_S_isOpenRingCrossing_j62 (v : SV) (K5 : Int32 → Option Int32) (K15 : Int32 → Int32 → Option Int32) (p1 : Int32) (p2 : Int32) : Option Int32 := (K15 p1 (p2 + 1))
def f_S_isOpenRingCrossing_j45 (v : SV) (K5 : Int32 → Option Int32) (K15 : Int32 → Int32 → Option Int32) (p1 : Int32) (p2 : Int32) (s0 : Int32) : Option Int32 := (if s0 = 0 then (f_P_sidesMeet v v p1 p2).bind fun u8 => (if u8 = 0 then (f_S_isOpenRingCrossing_j62 v K5 K15 p1 p2) else rb (1 : Int32)) else (f_S_isOpenRingCrossing_j62 v K5 K15 p1 p2))
def f_S_isOpenRingCrossing_j40 (v : SV) (K5 : Int32 → Option Int32) (K15 : Int32 → Int32 → Option Int32) (p1 : Int32) (p2 : Int32) : Option Int32 := (f_S_isOpenRingCrossing_j45 v K5 K15 p1 p2 (1 : Int32))
def f_S_isOpenRingCrossing_l15 (v : SV) (K5 : Int32 → Option Int32) : Nat → Int32 → Int32 → Option Int32
 | 0, _, _ => none
 | n + 1, p1, p2 => (if p1 ≤ p2 then (K5 (p1 + 1)) else (ld 48 (sE v) p1).bind fun u3 => (if u3 = p2 then (f_S_isOpenRingCrossing_j40 v K5 (f_S_isOpenRingCrossing_l15 v K5 n) p1 p2) else (ld 48 (sE v) p2).bind fun u5 => (if u5 = p1 then (f_S_isOpenRingCrossing_j40 v K5 (f_S_isOpenRingCrossing_l15 v K5 n) p1 p2) else (f_S_isOpenRingCrossing_j45 v K5 (f_S_isOpenRingCrossing_l15 v K5 n) p1 p2 (0 : Int32)))))
def f_S_isOpenRingCrossing_l5 (v : SV) : Nat → Int32 → Option Int32
 | 0, _ => none
 | n + 1, p1 => (if (sN v) ≤ p1 then rb (0 : Int32) else (f_S_isOpenRingCrossing_l15 v (f_S_isOpenRingCrossing_l5 v n) 64 p1 (0 : Int32)))
def f_S_isOpenRingCrossing (v : SV) : Option Int32 := (f_S_isOpenRingCrossing_l5 v 64 (sO v))
set_option maxHeartbeats 4000000 in
set_option maxRecDepth 100000 in
theorem k_S_isOpenRingCrossing (l : Launch) (dC : Nat → ClassId) (dI : Nat → Nat → Nat) (cL cI : ClassId) (a ax ay ae : Nat) (v : SV) (r : Int32) (h : f_S_isOpenRingCrossing v = some r) : Met l yS_isOpenRingCrossing wsS_isOpenRingCrossing ({ frames := 3, cells := 0, slots := 0, locals := 79 }) (rd_Pc [.ref a] (fun H => va_P (dC, dI) cls3 (shW cL cI a ax ay ae v) H) (dC, dI) cls3 [(cL, .long), (cI, .int)]) (vp_Si (fun z => z = r)) 0 0 (fun _ => False) := by
  refine Met.ofW (cc := cS_isOpenRingCrossing) (maxL := 4) (ret := (some .boolean)) (by decide) rfl ?_
  intro p e s m args below meth c s₁ B hml hv
  obtain ⟨rfl, hPa, hK⟩ := hv
  have hx := B.exec
  have hb := B.bytes
  have hr := B.returns
  have hw : ∀ w ∈ wG, w.before ([.ref a] : List Value).toArray s = true := fun w hq => atoms_spec (ws := wsS_isOpenRingCrossing) B.pre w (List.mem_cons_of_mem _ hq)
  have hown : s.vm.findClass R_S = some m.cls := findClass_of_methodNamed B.named
  have hlocks := B.notSynchronized
  have hl := lv_entry ([.ref a] : List Value) (n := 4) (Nat.le_of_ble_eq_true rfl)
  rw [lg_entry_eq]
  generalize (lg_sl ([.ref a] : List Value) ++ List.replicate (4 - (lg_sl ([.ref a] : List Value)).length) Slot.unset).toArray = ls at hl ⊢
  have hl : lv_has ls 4 [(0, .ref a)] := hl
  have k5 : ∀ (n5 : Nat), ∀ (p1 : Int32), f_S_isOpenRingCrossing_l5 v n5 p1 = some r →  ∀ (ls : Array Slot), lv_has ls 4 [(0, .ref a), (1, .int p1)] → W p l e (headSpec wsS_isOpenRingCrossing ({ frames := 3, cells := 0, slots := 0, locals := 79 })).room s m ([.ref a] : List Value).toArray below meth c s.heap [] 0 0 (MQ below (vp_Si (fun z => z = r)) ([.ref a] : List Value).toArray s 0 0 (fun _ => False)) (F0 m 5 ls []) := by
    intro n5
    induction n5 with
    | zero => intro p1 h; exact absurd h (by simp [f_S_isOpenRingCrossing_l5])
    | succ n5 ih5 =>
      have k15 : ∀ (n15 : Nat), ∀ (p1 : Int32) (p2 : Int32), f_S_isOpenRingCrossing_l15 v (f_S_isOpenRingCrossing_l5 v n5) n15 p1 p2 = some r →  ∀ (ls : Array Slot), lv_has ls 4 [(0, .ref a), (1, .int p1), (2, .int p2)] → W p l e (headSpec wsS_isOpenRingCrossing ({ frames := 3, cells := 0, slots := 0, locals := 79 })).room s m ([.ref a] : List Value).toArray below meth c s.heap [] 0 0 (MQ below (vp_Si (fun z => z = r)) ([.ref a] : List Value).toArray s 0 0 (fun _ => False)) (F0 m 15 ls []) := by
        intro n15
        induction n15 with
        | zero => intro p1 p2 h; exact absurd h (by simp [f_S_isOpenRingCrossing_l15])
        | succ n15 ih15 =>
          have k62 : ∀ (p1 : Int32) (p2 : Int32), f_S_isOpenRingCrossing_j62 v (f_S_isOpenRingCrossing_l5 v n5) (f_S_isOpenRingCrossing_l15 v (f_S_isOpenRingCrossing_l5 v n5) n15) p1 p2 = some r →  ∀ (ls : Array Slot), lv_has ls 4 [(0, .ref a), (1, .int p1), (2, .int p2)] → W p l e (headSpec wsS_isOpenRingCrossing ({ frames := 3, cells := 0, slots := 0, locals := 79 })).room s m ([.ref a] : List Value).toArray below meth c s.heap [] 0 0 (MQ below (vp_Si (fun z => z = r)) ([.ref a] : List Value).toArray s 0 0 (fun _ => False)) (F0 m 62 ls []) := by
            intro p1 p2 h  ls hl
            unfold f_S_isOpenRingCrossing_j62 at h
            refine lv_iinc (v := p2 + 1) (lv' := [(2, .int (p2 + 1)), (0, .ref a), (1, .int p1)]) hx hb dS_isOpenRingCrossing_62 hl (k := 2) rfl rfl (by decide) rfl (fun ls hl => ?_)
            refine lv_goto (tgt := 15) hx hb dS_isOpenRingCrossing_65 (by decide) ?_
            exact ih15 p1 (p2 + 1) h ls (lv_sub hl [1, 2, 0] rfl)
          have k45 : ∀ (p1 : Int32) (p2 : Int32) (s0 : Int32), f_S_isOpenRingCrossing_j45 v (f_S_isOpenRingCrossing_l5 v n5) (f_S_isOpenRingCrossing_l15 v (f_S_isOpenRingCrossing_l5 v n5) n15) p1 p2 s0 = some r →  ∀ (ls : Array Slot), lv_has ls 4 [(0, .ref a), (1, .int p1), (2, .int p2)] → W p l e (headSpec wsS_isOpenRingCrossing ({ frames := 3, cells := 0, slots := 0, locals := 79 })).room s m ([.ref a] : List Value).toArray below meth c s.heap [] 0 0 (MQ below (vp_Si (fun z => z = r)) ([.ref a] : List Value).toArray s 0 0 (fun _ => False)) (F0 m 45 ls [.int s0]) := by
            intro p1 p2 s0 h  ls hl
            unfold f_S_isOpenRingCrossing_j45 at h
            refine lv_istore_n (lv' := [(3, .int s0), (0, .ref a), (1, .int p1), (2, .int p2)]) hx hb dS_isOpenRingCrossing_45 rfl hl (by decide) rfl (fun ls hl => ?_)
            refine lv_iload_n hx hb dS_isOpenRingCrossing_46 rfl (lv_at hl 0 rfl) ?_
            refine lv_if_ne (tgt := 62) hx hb dS_isOpenRingCrossing_47 (by decide) (fun c7 => ?_) (fun c7 => ?_)
            · have h := it_f c7 h
              exact k62 p1 p2 h ls (lv_sub hl [1, 2, 3] rfl)
            · have h := it_t c7 h
              refine lv_aload_n hx hb dS_isOpenRingCrossing_50 rfl (lv_at hl 1 rfl) ?_
              refine lv_iload_n hx hb dS_isOpenRingCrossing_51 rfl (lv_at hl 2 rfl) ?_
              refine lv_aload_n hx hb dS_isOpenRingCrossing_52 rfl (lv_at hl 1 rfl) ?_
              refine lv_iload_n hx hb dS_isOpenRingCrossing_53 rfl (lv_at hl 3 rfl) ?_
              obtain ⟨u8, hu8, h⟩ := ob_some h
              refine vp_callSi (va_Run.run (va_runS (As := [.ref a, .int p1, .ref a, .int p2]) (rest := []) ⟨hx, hb, hml, hown, hw⟩ (k_P_sidesMeet l dC dI cL cI a ax ay ae v a ax ay ae v p1 p2 u8 hu8) (va_cwS 4 hw (gS w_272 w_273 w_10 w_274) rfl rfl rfl (by decide +kernel) ⟨Nat.le_of_ble_eq_true rfl, Nat.le_of_ble_eq_true rfl⟩) ⟨rd_blind, rd_pre ⟨hPa, hPa⟩ hK⟩ rfl rfl hl.1 rfl (lv_room (Nat.le_of_ble_eq_true rfl)) dS_isOpenRingCrossing_54 ⟨Nat.le_of_ble_eq_true rfl, Nat.le_of_ble_eq_true rfl⟩)) (fun z hz => ?_)
              rw [hz]; clear hz
              refine lv_if_eq (tgt := 62) hx hb dS_isOpenRingCrossing_57 (by decide) (fun c9 => ?_) (fun c9 => ?_)
              · have h := it_t c9 h
                exact k62 p1 p2 h ls (lv_sub hl [1, 2, 3] rfl)
              · have h := it_f c9 h
                refine lv_iconst (v := 1) hx hb dS_isOpenRingCrossing_60 (by decide) ?_
                obtain ⟨hz, hr9⟩ := rb_of h
                exact W.zret hx hb hr hz (fun t ht hW => ⟨_, rfl, hr9, ht⟩) nil_locs dS_isOpenRingCrossing_61
          have k40 : ∀ (p1 : Int32) (p2 : Int32), f_S_isOpenRingCrossing_j40 v (f_S_isOpenRingCrossing_l5 v n5) (f_S_isOpenRingCrossing_l15 v (f_S_isOpenRingCrossing_l5 v n5) n15) p1 p2 = some r →  ∀ (ls : Array Slot), lv_has ls 4 [(0, .ref a), (1, .int p1), (2, .int p2)] → W p l e (headSpec wsS_isOpenRingCrossing ({ frames := 3, cells := 0, slots := 0, locals := 79 })).room s m ([.ref a] : List Value).toArray below meth c s.heap [] 0 0 (MQ below (vp_Si (fun z => z = r)) ([.ref a] : List Value).toArray s 0 0 (fun _ => False)) (F0 m 40 ls []) := by
            intro p1 p2 h  ls hl
            unfold f_S_isOpenRingCrossing_j40 at h
            refine lv_iconst (v := 1) hx hb dS_isOpenRingCrossing_40 (by decide) ?_
            refine lv_goto (tgt := 45) hx hb dS_isOpenRingCrossing_41 (by decide) ?_
            exact k45 p1 p2 (1 : Int32) h ls (lv_sub hl [0, 1, 2] rfl)
          intro p1 p2 h  ls hl
          rw [f_S_isOpenRingCrossing_l15] at h
          refine lv_iload_n hx hb dS_isOpenRingCrossing_15 rfl (lv_at hl 2 rfl) ?_
          refine lv_iload_n hx hb dS_isOpenRingCrossing_16 rfl (lv_at hl 1 rfl) ?_
          refine lv_icmp_ge (tgt := 68) hx hb dS_isOpenRingCrossing_17 (by decide) (fun c2 => ?_) (fun c2 => ?_)
          · have h := it_t c2 h
            refine lv_iinc (v := p1 + 1) (lv' := [(1, .int (p1 + 1)), (0, .ref a), (2, .int p2)]) hx hb dS_isOpenRingCrossing_68 hl (k := 1) rfl rfl (by decide) rfl (fun ls hl => ?_)
            refine lv_goto (tgt := 5) hx hb dS_isOpenRingCrossing_71 (by decide) ?_
            exact ih5 (p1 + 1) h ls (lv_sub hl [1, 0] rfl)
          · have h := it_f c2 h
            refine lv_aload_n hx hb dS_isOpenRingCrossing_20 rfl (lv_at hl 0 rfl) ?_
            refine va_get (D := (dC, dI)) (ci := 0) (v := .ref ae) (C := R_S) (T := T_S) (N := 8) hx hb hw in_S hown hK hPa 0 rfl rfl 5 (by decide) (hw _ w_50) (fun _ h9 => h9) rfl dS_isOpenRingCrossing_21 ?_
            refine lv_iload_n hx hb dS_isOpenRingCrossing_24 rfl (lv_at hl 1 rfl) ?_
            obtain ⟨u3, hu3, h⟩ := ob_some h
            obtain ⟨hiu3, eu3⟩ := ld_of hu3
            refine va_iald hx hb hK hPa 3 1 rfl rfl hiu3 dS_isOpenRingCrossing_25 ?_
            rw [eu3]
            refine lv_iload_n hx hb dS_isOpenRingCrossing_26 rfl (lv_at hl 2 rfl) ?_
            refine lv_icmp_eq (tgt := 40) hx hb dS_isOpenRingCrossing_27 (by decide) (fun c4 => ?_) (fun c4 => ?_)
            · have h := it_t c4 h
              exact k40 p1 p2 h ls (lv_sub hl [0, 1, 2] rfl)
            · have h := it_f c4 h
              refine lv_aload_n hx hb dS_isOpenRingCrossing_30 rfl (lv_at hl 0 rfl) ?_
              refine va_get (D := (dC, dI)) (ci := 0) (v := .ref ae) (C := R_S) (T := T_S) (N := 8) hx hb hw in_S hown hK hPa 0 rfl rfl 5 (by decide) (hw _ w_50) (fun _ h9 => h9) rfl dS_isOpenRingCrossing_31 ?_
              refine lv_iload_n hx hb dS_isOpenRingCrossing_34 rfl (lv_at hl 2 rfl) ?_
              obtain ⟨u5, hu5, h⟩ := ob_some h
              obtain ⟨hiu5, eu5⟩ := ld_of hu5
              refine va_iald hx hb hK hPa 3 1 rfl rfl hiu5 dS_isOpenRingCrossing_35 ?_
              rw [eu5]
              refine lv_iload_n hx hb dS_isOpenRingCrossing_36 rfl (lv_at hl 1 rfl) ?_
              refine lv_icmp_ne (tgt := 44) hx hb dS_isOpenRingCrossing_37 (by decide) (fun c6 => ?_) (fun c6 => ?_)
              · have h := it_f c6 h
                refine lv_iconst (v := 0) hx hb dS_isOpenRingCrossing_44 (by decide) ?_
                exact k45 p1 p2 (0 : Int32) h ls (lv_sub hl [0, 1, 2] rfl)
              · have h := it_t c6 h
                exact k40 p1 p2 h ls (lv_sub hl [0, 1, 2] rfl)
      intro p1 h  ls hl
      rw [f_S_isOpenRingCrossing_l5] at h
      refine lv_iload_n hx hb dS_isOpenRingCrossing_5 rfl (lv_at hl 1 rfl) ?_
      refine lv_aload_n hx hb dS_isOpenRingCrossing_6 rfl (lv_at hl 0 rfl) ?_
      refine va_get (D := (dC, dI)) (ci := 0) (v := .int (sN v)) (C := R_S) (T := T_S) (N := 8) hx hb hw in_S hown hK hPa 0 rfl rfl 6 (by decide) (hw _ w_52) (fun _ h9 => h9) rfl dS_isOpenRingCrossing_7 ?_
      refine lv_icmp_ge (tgt := 74) hx hb dS_isOpenRingCrossing_10 (by decide) (fun c1 => ?_) (fun c1 => ?_)
      · have h := it_t c1 h
        refine lv_iconst (v := 0) hx hb dS_isOpenRingCrossing_74 (by decide) ?_
        obtain ⟨hz, hr9⟩ := rb_of h
        exact W.zret hx hb hr hz (fun t ht hW => ⟨_, rfl, hr9, ht⟩) nil_locs dS_isOpenRingCrossing_75
      · have h := it_f c1 h
        refine lv_iconst (v := 0) hx hb dS_isOpenRingCrossing_13 (by decide) ?_
        refine lv_istore_n (lv' := [(2, .int (0 : Int32)), (0, .ref a), (1, .int p1)]) hx hb dS_isOpenRingCrossing_14 rfl hl (by decide) rfl (fun ls hl => ?_)
        exact k15 64 p1 (0 : Int32) h ls (lv_sub hl [1, 2, 0] rfl)
  unfold f_S_isOpenRingCrossing at h
  refine lv_aload_n hx hb dS_isOpenRingCrossing_0 rfl (lv_at hl 0 rfl) ?_
  refine va_get (D := (dC, dI)) (ci := 0) (v := .int (sO v)) (C := R_S) (T := T_S) (N := 8) hx hb hw in_S hown hK hPa 0 rfl rfl 7 (by decide) (hw _ w_54) (fun _ h9 => h9) rfl dS_isOpenRingCrossing_1 ?_
  refine lv_istore_n (lv' := [(1, .int (sO v)), (0, .ref a)]) hx hb dS_isOpenRingCrossing_4 rfl hl (by decide) rfl (fun ls hl => ?_)
  exact k5 64 (sO v) h ls (lv_sub hl [1, 0] rfl)
theorem dP_coresMeet_0 : decode cP_coresMeet 0 = .ok (.iconst 0, 1) := by decide +kernel
theorem dP_coresMeet_1 : decode cP_coresMeet 1 = .ok (.istore_n 2, 1) := by decide +kernel
theorem dP_coresMeet_2 : decode cP_coresMeet 2 = .ok (.iload_n 2, 1) := by decide +kernel
theorem dP_coresMeet_3 : decode cP_coresMeet 3 = .ok (.aload_n 0, 1) := by decide +kernel
theorem dP_coresMeet_4 : decode cP_coresMeet 4 = .ok (.getfield 29, 3) := by decide +kernel
theorem dP_coresMeet_7 : decode cP_coresMeet 7 = .ok (.if_icmp .ge 37, 3) := by decide +kernel
theorem dP_coresMeet_10 : decode cP_coresMeet 10 = .ok (.iconst 0, 1) := by decide +kernel
theorem dP_coresMeet_11 : decode cP_coresMeet 11 = .ok (.istore_n 3, 1) := by decide +kernel
theorem dP_coresMeet_12 : decode cP_coresMeet 12 = .ok (.iload_n 3, 1) := by decide +kernel
theorem dP_coresMeet_13 : decode cP_coresMeet 13 = .ok (.aload_n 1, 1) := by decide +kernel
theorem dP_coresMeet_14 : decode cP_coresMeet 14 = .ok (.getfield 29, 3) := by decide +kernel
theorem dP_coresMeet_17 : decode cP_coresMeet 17 = .ok (.if_icmp .ge 21, 3) := by decide +kernel
theorem dP_coresMeet_20 : decode cP_coresMeet 20 = .ok (.aload_n 0, 1) := by decide +kernel
theorem dP_coresMeet_21 : decode cP_coresMeet 21 = .ok (.iload_n 2, 1) := by decide +kernel
theorem dP_coresMeet_22 : decode cP_coresMeet 22 = .ok (.aload_n 1, 1) := by decide +kernel
theorem dP_coresMeet_23 : decode cP_coresMeet 23 = .ok (.iload_n 3, 1) := by decide +kernel
theorem dP_coresMeet_24 : decode cP_coresMeet 24 = .ok (.invokestatic 46, 3) := by decide +kernel
theorem dP_coresMeet_27 : decode cP_coresMeet 27 = .ok (.ifCond .eq 5, 3) := by decide +kernel
theorem dP_coresMeet_30 : decode cP_coresMeet 30 = .ok (.iconst 1, 1) := by decide +kernel
theorem dP_coresMeet_31 : decode cP_coresMeet 31 = .ok (.ireturn, 1) := by decide +kernel
theorem dP_coresMeet_32 : decode cP_coresMeet 32 = .ok (.iinc 3 1, 3) := by decide +kernel
theorem dP_coresMeet_35 : decode cP_coresMeet 35 = .ok (.goto (-23), 3) := by decide +kernel
theorem dP_coresMeet_38 : decode cP_coresMeet 38 = .ok (.iinc 2 1, 3) := by decide +kernel
theorem dP_coresMeet_41 : decode cP_coresMeet 41 = .ok (.goto (-39), 3) := by decide +kernel
theorem dP_coresMeet_44 : decode cP_coresMeet 44 = .ok (.aload_n 0, 1) := by decide +kernel
theorem dP_coresMeet_45 : decode cP_coresMeet 45 = .ok (.aload_n 1, 1) := by decide +kernel
theorem dP_coresMeet_46 : decode cP_coresMeet 46 = .ok (.invokevirtual 50, 3) := by decide +kernel
theorem dP_coresMeet_49 : decode cP_coresMeet 49 = .ok (.ifCond .ne 11, 3) := by decide +kernel
theorem dP_coresMeet_52 : decode cP_coresMeet 52 = .ok (.aload_n 1, 1) := by decide +kernel
theorem dP_coresMeet_53 : decode cP_coresMeet 53 = .ok (.aload_n 0, 1) := by decide +kernel
theorem dP_coresMeet_54 : decode cP_coresMeet 54 = .ok (.invokevirtual 50, 3) := by decide +kernel
theorem dP_coresMeet_57 : decode cP_coresMeet 57 = .ok (.ifCond .eq 7, 3) := by decide +kernel
theorem dP_coresMeet_60 : decode cP_coresMeet 60 = .ok (.iconst 1, 1) := by decide +kernel
theorem dP_coresMeet_61 : decode cP_coresMeet 61 = .ok (.goto 4, 3) := by decide +kernel
theorem dP_coresMeet_64 : decode cP_coresMeet 64 = .ok (.iconst 0, 1) := by decide +kernel
theorem dP_coresMeet_65 : decode cP_coresMeet 65 = .ok (.ireturn, 1) := by decide +kernel
def f_P_coresMeet_j65 (v : SV) (w : SV) (s0 : Int32) : Option Int32 := rb s0
def f_P_coresMeet_j60 (v : SV) (w : SV) : Option Int32 := (f_P_coresMeet_j65 v w (1 : Int32))
def f_P_coresMeet_l12 (v : SV) (w : SV) (K2 : Int32 → Option Int32) : Nat → Int32 → Int32 → Option Int32
 | 0, _, _ => none
 | n + 1, p2, p3 => (if (sN w) ≤ p3 then (K2 (p2 + 1)) else (f_P_sidesMeet v w p2 p3).bind fun u7 => (if u7 = 0 then ((f_P_coresMeet_l12 v w K2 n) p2 (p3 + 1)) else rb (1 : Int32)))
def f_P_coresMeet_l2 (v : SV) (w : SV) : Nat → Int32 → Option Int32
 | 0, _ => none
 | n + 1, p2 => (if (sN v) ≤ p2 then (f_S_enclosesCornerOf v w).bind fun u2 => (if u2 = 0 then (f_S_enclosesCornerOf w v).bind fun u4 => (if u4 = 0 then (f_P_coresMeet_j65 v w (0 : Int32)) else (f_P_coresMeet_j60 v w)) else (f_P_coresMeet_j60 v w)) else (f_P_coresMeet_l12 v w (f_P_coresMeet_l2 v w n) 64 p2 (0 : Int32)))
def f_P_coresMeet (v : SV) (w : SV) : Option Int32 := (f_P_coresMeet_l2 v w 64 (0 : Int32))
set_option maxHeartbeats 4000000 in
set_option maxRecDepth 100000 in
theorem k_P_coresMeet (l : Launch) (dC : Nat → ClassId) (dI : Nat → Nat → Nat) (cL cI : ClassId) (a ax ay ae : Nat) (v : SV) (o ox oy oe : Nat) (w : SV) (r : Int32) (h : f_P_coresMeet v w = some r) : Met l yP_coresMeet wsP_coresMeet ({ frames := 3, cells := 0, slots := 0, locals := 79 }) (rd_Pc [.ref a, .ref o] (fun H => va_P (dC, dI) cls3 (shW cL cI a ax ay ae v) H ∧ va_P (dC, dI) cls3 (shW cL cI o ox oy oe w) H) (dC, dI) cls3 [(cL, .long), (cI, .int)]) (vp_Si (fun z => z = r)) 0 0 (fun _ => False) := by
  refine Met.ofW (cc := cP_coresMeet) (maxL := 4) (ret := (some .boolean)) (by decide) rfl ?_
  intro p e s m args below meth c s₁ B hml hv
  obtain ⟨rfl, ⟨hPa, hPo⟩, hK⟩ := hv
  have hx := B.exec
  have hb := B.bytes
  have hr := B.returns
  have hw : ∀ w ∈ wG, w.before ([.ref a, .ref o] : List Value).toArray s = true := fun w hq => atoms_spec (ws := wsP_coresMeet) B.pre w (List.mem_cons_of_mem _ hq)
  have hown : s.vm.findClass R_P = some m.cls := findClass_of_methodNamed B.named
  have hlocks := B.notSynchronized
  have hl := lv_entry ([.ref a, .ref o] : List Value) (n := 4) (Nat.le_of_ble_eq_true rfl)
  rw [lg_entry_eq]
  generalize (lg_sl ([.ref a, .ref o] : List Value) ++ List.replicate (4 - (lg_sl ([.ref a, .ref o] : List Value)).length) Slot.unset).toArray = ls at hl ⊢
  have hl : lv_has ls 4 [(0, .ref a), (1, .ref o)] := hl
  have k65 : ∀ (s0 : Int32), f_P_coresMeet_j65 v w s0 = some r →  ∀ (ls : Array Slot), lv_has ls 4 [] → W p l e (headSpec wsP_coresMeet ({ frames := 3, cells := 0, slots := 0, locals := 79 })).room s m ([.ref a, .ref o] : List Value).toArray below meth c s.heap [] 0 0 (MQ below (vp_Si (fun z => z = r)) ([.ref a, .ref o] : List Value).toArray s 0 0 (fun _ => False)) (F0 m 65 ls [.int s0]) := by
    intro s0 h  ls hl
    unfold f_P_coresMeet_j65 at h
    obtain ⟨hz, hr9⟩ := rb_of h
    exact W.zret hx hb hr hz (fun t ht hW => ⟨_, rfl, hr9, ht⟩) nil_locs dP_coresMeet_65
  have k60 : f_P_coresMeet_j60 v w = some r →  ∀ (ls : Array Slot), lv_has ls 4 [] → W p l e (headSpec wsP_coresMeet ({ frames := 3, cells := 0, slots := 0, locals := 79 })).room s m ([.ref a, .ref o] : List Value).toArray below meth c s.heap [] 0 0 (MQ below (vp_Si (fun z => z = r)) ([.ref a, .ref o] : List Value).toArray s 0 0 (fun _ => False)) (F0 m 60 ls []) := by
    intro  h  ls hl
    unfold f_P_coresMeet_j60 at h
    refine lv_iconst (v := 1) hx hb dP_coresMeet_60 (by decide) ?_
    refine lv_goto (tgt := 65) hx hb dP_coresMeet_61 (by decide) ?_
    exact k65 (1 : Int32) h ls (lv_sub hl [] rfl)
  have k2 : ∀ (n2 : Nat), ∀ (p2 : Int32), f_P_coresMeet_l2 v w n2 p2 = some r →  ∀ (ls : Array Slot), lv_has ls 4 [(0, .ref a), (1, .ref o), (2, .int p2)] → W p l e (headSpec wsP_coresMeet ({ frames := 3, cells := 0, slots := 0, locals := 79 })).room s m ([.ref a, .ref o] : List Value).toArray below meth c s.heap [] 0 0 (MQ below (vp_Si (fun z => z = r)) ([.ref a, .ref o] : List Value).toArray s 0 0 (fun _ => False)) (F0 m 2 ls []) := by
    intro n2
    induction n2 with
    | zero => intro p2 h; exact absurd h (by simp [f_P_coresMeet_l2])
    | succ n2 ih2 =>
      have k12 : ∀ (n12 : Nat), ∀ (p2 : Int32) (p3 : Int32), f_P_coresMeet_l12 v w (f_P_coresMeet_l2 v w n2) n12 p2 p3 = some r →  ∀ (ls : Array Slot), lv_has ls 4 [(0, .ref a), (1, .ref o), (2, .int p2), (3, .int p3)] → W p l e (headSpec wsP_coresMeet ({ frames := 3, cells := 0, slots := 0, locals := 79 })).room s m ([.ref a, .ref o] : List Value).toArray below meth c s.heap [] 0 0 (MQ below (vp_Si (fun z => z = r)) ([.ref a, .ref o] : List Value).toArray s 0 0 (fun _ => False)) (F0 m 12 ls []) := by
        intro n12
        induction n12 with
        | zero => intro p2 p3 h; exact absurd h (by simp [f_P_coresMeet_l12])
        | succ n12 ih12 =>
          intro p2 p3 h  ls hl
          rw [f_P_coresMeet_l12] at h
          refine lv_iload_n hx hb dP_coresMeet_12 rfl (lv_at hl 3 rfl) ?_
          refine lv_aload_n hx hb dP_coresMeet_13 rfl (lv_at hl 1 rfl) ?_
          refine va_get (D := (dC, dI)) (ci := 0) (v := .int (sN w)) (C := R_S) (T := T_S) (N := 8) hx hb hw in_S hown hK hPo 0 rfl rfl 6 (by decide) (hw _ w_53) (fun _ h9 => h9) rfl dP_coresMeet_14 ?_
          refine lv_icmp_ge (tgt := 38) hx hb dP_coresMeet_17 (by decide) (fun c6 => ?_) (fun c6 => ?_)
          · have h := it_t c6 h
            refine lv_iinc (v := p2 + 1) (lv' := [(2, .int (p2 + 1)), (0, .ref a), (1, .ref o), (3, .int p3)]) hx hb dP_coresMeet_38 hl (k := 2) rfl rfl (by decide) rfl (fun ls hl => ?_)
            refine lv_goto (tgt := 2) hx hb dP_coresMeet_41 (by decide) ?_
            exact ih2 (p2 + 1) h ls (lv_sub hl [1, 2, 0] rfl)
          · have h := it_f c6 h
            refine lv_aload_n hx hb dP_coresMeet_20 rfl (lv_at hl 0 rfl) ?_
            refine lv_iload_n hx hb dP_coresMeet_21 rfl (lv_at hl 2 rfl) ?_
            refine lv_aload_n hx hb dP_coresMeet_22 rfl (lv_at hl 1 rfl) ?_
            refine lv_iload_n hx hb dP_coresMeet_23 rfl (lv_at hl 3 rfl) ?_
            obtain ⟨u7, hu7, h⟩ := ob_some h
            refine vp_callSi (va_Run.run (va_runS (As := [.ref a, .int p2, .ref o, .int p3]) (rest := []) ⟨hx, hb, hml, hown, hw⟩ (k_P_sidesMeet l dC dI cL cI a ax ay ae v o ox oy oe w p2 p3 u7 hu7) (va_cwS 4 hw (gS w_366 w_273 w_10 w_274) rfl rfl rfl (by decide +kernel) ⟨Nat.le_of_ble_eq_true rfl, Nat.le_of_ble_eq_true rfl⟩) ⟨rd_blind, rd_pre ⟨hPa, hPo⟩ hK⟩ rfl rfl hl.1 rfl (lv_room (Nat.le_of_ble_eq_true rfl)) dP_coresMeet_24 ⟨Nat.le_of_ble_eq_true rfl, Nat.le_of_ble_eq_true rfl⟩)) (fun z hz => ?_)
            rw [hz]; clear hz
            refine lv_if_eq (tgt := 32) hx hb dP_coresMeet_27 (by decide) (fun c8 => ?_) (fun c8 => ?_)
            · have h := it_t c8 h
              refine lv_iinc (v := p3 + 1) (lv' := [(3, .int (p3 + 1)), (0, .ref a), (1, .ref o), (2, .int p2)]) hx hb dP_coresMeet_32 hl (k := 3) rfl rfl (by decide) rfl (fun ls hl => ?_)
              refine lv_goto (tgt := 12) hx hb dP_coresMeet_35 (by decide) ?_
              exact ih12 p2 (p3 + 1) h ls (lv_sub hl [1, 2, 3, 0] rfl)
            · have h := it_f c8 h
              refine lv_iconst (v := 1) hx hb dP_coresMeet_30 (by decide) ?_
              obtain ⟨hz, hr9⟩ := rb_of h
              exact W.zret hx hb hr hz (fun t ht hW => ⟨_, rfl, hr9, ht⟩) nil_locs dP_coresMeet_31
      intro p2 h  ls hl
      rw [f_P_coresMeet_l2] at h
      refine lv_iload_n hx hb dP_coresMeet_2 rfl (lv_at hl 2 rfl) ?_
      refine lv_aload_n hx hb dP_coresMeet_3 rfl (lv_at hl 0 rfl) ?_
      refine va_get (D := (dC, dI)) (ci := 0) (v := .int (sN v)) (C := R_S) (T := T_S) (N := 8) hx hb hw in_S hown hK hPa 0 rfl rfl 6 (by decide) (hw _ w_53) (fun _ h9 => h9) rfl dP_coresMeet_4 ?_
      refine lv_icmp_ge (tgt := 44) hx hb dP_coresMeet_7 (by decide) (fun c1 => ?_) (fun c1 => ?_)
      · have h := it_t c1 h
        refine lv_aload_n hx hb dP_coresMeet_44 rfl (lv_at hl 0 rfl) ?_
        refine lv_aload_n hx hb dP_coresMeet_45 rfl (lv_at hl 1 rfl) ?_
        obtain ⟨u2, hu2, h⟩ := ob_some h
        refine vp_callSi (va_Run.run (va_runV (As := [.ref o]) (rest := []) ⟨hx, hb, hml, hown, hw⟩ (k_S_enclosesCornerOf l dC dI cL cI a ax ay ae v o ox oy oe w u2 hu2) (cwV 1 hw (gV w_367 w_368 w_369 w_7 w_370) rfl rfl rfl (by decide +kernel) ⟨Nat.le_of_ble_eq_true rfl, Nat.le_of_ble_eq_true rfl⟩) ⟨rd_blind, va_recv hK hPa (ci := 0) (q0 := 0) rfl rfl, rd_pre ⟨hPa, hPo⟩ hK⟩ rfl rfl hl.1 rfl (lv_room (Nat.le_of_ble_eq_true rfl)) dP_coresMeet_46 ⟨Nat.le_of_ble_eq_true rfl, Nat.le_of_ble_eq_true rfl⟩)) (fun z hz => ?_)
        rw [hz]; clear hz
        refine lv_if_ne (tgt := 60) hx hb dP_coresMeet_49 (by decide) (fun c3 => ?_) (fun c3 => ?_)
        · have h := it_f c3 h
          exact k60 h ls (lv_sub hl [] rfl)
        · have h := it_t c3 h
          refine lv_aload_n hx hb dP_coresMeet_52 rfl (lv_at hl 1 rfl) ?_
          refine lv_aload_n hx hb dP_coresMeet_53 rfl (lv_at hl 0 rfl) ?_
          obtain ⟨u4, hu4, h⟩ := ob_some h
          refine vp_callSi (va_Run.run (va_runV (As := [.ref a]) (rest := []) ⟨hx, hb, hml, hown, hw⟩ (k_S_enclosesCornerOf l dC dI cL cI o ox oy oe w a ax ay ae v u4 hu4) (cwV 1 hw (gV w_367 w_368 w_369 w_7 w_370) rfl rfl rfl (by decide +kernel) ⟨Nat.le_of_ble_eq_true rfl, Nat.le_of_ble_eq_true rfl⟩) ⟨rd_blind, va_recv hK hPo (ci := 0) (q0 := 0) rfl rfl, rd_pre ⟨hPo, hPa⟩ hK⟩ rfl rfl hl.1 rfl (lv_room (Nat.le_of_ble_eq_true rfl)) dP_coresMeet_54 ⟨Nat.le_of_ble_eq_true rfl, Nat.le_of_ble_eq_true rfl⟩)) (fun z hz => ?_)
          rw [hz]; clear hz
          refine lv_if_eq (tgt := 64) hx hb dP_coresMeet_57 (by decide) (fun c5 => ?_) (fun c5 => ?_)
          · have h := it_t c5 h
            refine lv_iconst (v := 0) hx hb dP_coresMeet_64 (by decide) ?_
            exact k65 (0 : Int32) h ls (lv_sub hl [] rfl)
          · have h := it_f c5 h
            exact k60 h ls (lv_sub hl [] rfl)
      · have h := it_f c1 h
        refine lv_iconst (v := 0) hx hb dP_coresMeet_10 (by decide) ?_
        refine lv_istore_n (lv' := [(3, .int (0 : Int32)), (0, .ref a), (1, .ref o), (2, .int p2)]) hx hb dP_coresMeet_11 rfl hl (by decide) rfl (fun ls hl => ?_)
        exact k12 64 p2 (0 : Int32) h ls (lv_sub hl [1, 2, 3, 0] rfl)
  unfold f_P_coresMeet at h
  refine lv_iconst (v := 0) hx hb dP_coresMeet_0 (by decide) ?_
  refine lv_istore_n (lv' := [(2, .int (0 : Int32)), (0, .ref a), (1, .ref o)]) hx hb dP_coresMeet_1 rfl hl (by decide) rfl (fun ls hl => ?_)
  exact k2 64 (0 : Int32) h ls (lv_sub hl [1, 2, 0] rfl)
theorem dP_compareCorners_0 : decode cP_compareCorners 0 = .ok (.iconst 1, 1) := by decide +kernel
theorem dP_compareCorners_1 : decode cP_compareCorners 1 = .ok (.istore 4, 2) := by decide +kernel
theorem dP_compareCorners_3 : decode cP_compareCorners 3 = .ok (.iconst 0, 1) := by decide +kernel
theorem dP_compareCorners_4 : decode cP_compareCorners 4 = .ok (.istore 5, 2) := by decide +kernel
theorem dP_compareCorners_6 : decode cP_compareCorners 6 = .ok (.iload 5, 2) := by decide +kernel
theorem dP_compareCorners_8 : decode cP_compareCorners 8 = .ok (.aload_n 0, 1) := by decide +kernel
theorem dP_compareCorners_9 : decode cP_compareCorners 9 = .ok (.getfield 29, 3) := by decide +kernel
theorem dP_compareCorners_12 : decode cP_compareCorners 12 = .ok (.if_icmp .ge 40, 3) := by decide +kernel
theorem dP_compareCorners_15 : decode cP_compareCorners 15 = .ok (.iload 4, 2) := by decide +kernel
theorem dP_compareCorners_17 : decode cP_compareCorners 17 = .ok (.ifCond .lt 35, 3) := by decide +kernel
theorem dP_compareCorners_20 : decode cP_compareCorners 20 = .ok (.iload 4, 2) := by decide +kernel
theorem dP_compareCorners_22 : decode cP_compareCorners 22 = .ok (.aload_n 1, 1) := by decide +kernel
theorem dP_compareCorners_23 : decode cP_compareCorners 23 = .ok (.aload_n 0, 1) := by decide +kernel
theorem dP_compareCorners_24 : decode cP_compareCorners 24 = .ok (.getfield 35, 3) := by decide +kernel
theorem dP_compareCorners_27 : decode cP_compareCorners 27 = .ok (.iload 5, 2) := by decide +kernel
theorem dP_compareCorners_29 : decode cP_compareCorners 29 = .ok (.laload, 1) := by decide +kernel
theorem dP_compareCorners_30 : decode cP_compareCorners 30 = .ok (.aload_n 0, 1) := by decide +kernel
theorem dP_compareCorners_31 : decode cP_compareCorners 31 = .ok (.getfield 39, 3) := by decide +kernel
theorem dP_compareCorners_34 : decode cP_compareCorners 34 = .ok (.iload 5, 2) := by decide +kernel
theorem dP_compareCorners_36 : decode cP_compareCorners 36 = .ok (.laload, 1) := by decide +kernel
theorem dP_compareCorners_37 : decode cP_compareCorners 37 = .ok (.lload_n 2, 1) := by decide +kernel
theorem dP_compareCorners_38 : decode cP_compareCorners 38 = .ok (.invokevirtual 42, 3) := by decide +kernel
theorem dP_compareCorners_41 : decode cP_compareCorners 41 = .ok (.invokestatic 23, 3) := by decide +kernel
theorem dP_compareCorners_44 : decode cP_compareCorners 44 = .ok (.istore 4, 2) := by decide +kernel
theorem dP_compareCorners_46 : decode cP_compareCorners 46 = .ok (.iinc 5 1, 3) := by decide +kernel
theorem dP_compareCorners_49 : decode cP_compareCorners 49 = .ok (.goto (-43), 3) := by decide +kernel
theorem dP_compareCorners_52 : decode cP_compareCorners 52 = .ok (.iload 4, 2) := by decide +kernel
theorem dP_compareCorners_54 : decode cP_compareCorners 54 = .ok (.ireturn, 1) := by decide +kernel
def f_P_compareCorners_j52 (v : SV) (w : SV) (p4 : Int32) : Option Int32 := some p4
def f_P_compareCorners_l6 (v : SV) (w : SV) : Nat → Int64 → Int32 → Int32 → Option Int32
 | 0, _, _, _ => none
 | n + 1, p2, p4, p5 => (if (sN v) ≤ p5 then (f_P_compareCorners_j52 v w p4) else (if p4 < 0 then (f_P_compareCorners_j52 v w p4) else (ld 48 (sX v) p5).bind fun u3 => (ld 48 (sY v) p5).bind fun u4 => (f_S_compareToSides w u3 u4 p2).bind fun u5 => (some (if u5 < p4 then u5 else p4)).bind fun u6 => ((f_P_compareCorners_l6 v w n) p2 u6 (p5 + 1))))
def f_P_compareCorners (v : SV) (w : SV) (x2 : Int64) : Option Int32 := (f_P_compareCorners_l6 v w 64 x2 (1 : Int32) (0 : Int32))
set_option maxHeartbeats 4000000 in
set_option maxRecDepth 100000 in
theorem k_P_compareCorners (l : Launch) (dC : Nat → ClassId) (dI : Nat → Nat → Nat) (cL cI : ClassId) (a ax ay ae : Nat) (v : SV) (o ox oy oe : Nat) (w : SV) (x2 : Int64) (r : Int32) (h : f_P_compareCorners v w x2 = some r) : Met l yP_compareCorners wsP_compareCorners ({ frames := 4, cells := 0, slots := 0, locals := 129 }) (rd_Pc [.ref a, .ref o, .long x2] (fun H => va_P (dC, dI) cls3 (shW cL cI a ax ay ae v) H ∧ va_P (dC, dI) cls3 (shW cL cI o ox oy oe w) H) (dC, dI) cls3 [(cL, .long), (cI, .int)]) (vp_Si (fun z => z = r)) 0 0 (fun _ => False) := by
  refine Met.ofW (cc := cP_compareCorners) (maxL := 6) (ret := (some .int)) (by decide) rfl ?_
  intro p e s m args below meth c s₁ B hml hv
  obtain ⟨rfl, ⟨hPa, hPo⟩, hK⟩ := hv
  have hx := B.exec
  have hb := B.bytes
  have hr := B.returns
  have hw : ∀ w ∈ wG, w.before ([.ref a, .ref o, .long x2] : List Value).toArray s = true := fun w hq => atoms_spec (ws := wsP_compareCorners) B.pre w (List.mem_cons_of_mem _ hq)
  have hown : s.vm.findClass R_P = some m.cls := findClass_of_methodNamed B.named
  have hlocks := B.notSynchronized
  have hl := lv_entry ([.ref a, .ref o, .long x2] : List Value) (n := 6) (Nat.le_of_ble_eq_true rfl)
  rw [lg_entry_eq]
  generalize (lg_sl ([.ref a, .ref o, .long x2] : List Value) ++ List.replicate (6 - (lg_sl ([.ref a, .ref o, .long x2] : List Value)).length) Slot.unset).toArray = ls at hl ⊢
  have hl : lv_has ls 6 [(0, .ref a), (1, .ref o), (2, .long x2)] := hl
  have k52 : ∀ (p4 : Int32), f_P_compareCorners_j52 v w p4 = some r →  ∀ (ls : Array Slot), lv_has ls 6 [(4, .int p4)] → W p l e (headSpec wsP_compareCorners ({ frames := 4, cells := 0, slots := 0, locals := 129 })).room s m ([.ref a, .ref o, .long x2] : List Value).toArray below meth c s.heap [] 0 0 (MQ below (vp_Si (fun z => z = r)) ([.ref a, .ref o, .long x2] : List Value).toArray s 0 0 (fun _ => False)) (F0 m 52 ls []) := by
    intro p4 h  ls hl
    unfold f_P_compareCorners_j52 at h
    refine lv_iload hx hb dP_compareCorners_52 (lv_at hl 0 rfl) ?_
    exact W.iret hx hb hr (fun t ht hW => ⟨_, rfl, Option.some.inj h, ht⟩) nil_locs dP_compareCorners_54
  have k6 : ∀ (n6 : Nat), ∀ (p2 : Int64) (p4 : Int32) (p5 : Int32), f_P_compareCorners_l6 v w n6 p2 p4 p5 = some r →  ∀ (ls : Array Slot), lv_has ls 6 [(0, .ref a), (1, .ref o), (2, .long p2), (4, .int p4), (5, .int p5)] → W p l e (headSpec wsP_compareCorners ({ frames := 4, cells := 0, slots := 0, locals := 129 })).room s m ([.ref a, .ref o, .long x2] : List Value).toArray below meth c s.heap [] 0 0 (MQ below (vp_Si (fun z => z = r)) ([.ref a, .ref o, .long x2] : List Value).toArray s 0 0 (fun _ => False)) (F0 m 6 ls []) := by
    intro n6
    induction n6 with
    | zero => intro p2 p4 p5 h; exact absurd h (by simp [f_P_compareCorners_l6])
    | succ n6 ih6 =>
      intro p2 p4 p5 h  ls hl
      rw [f_P_compareCorners_l6] at h
      refine lv_iload hx hb dP_compareCorners_6 (lv_at hl 4 rfl) ?_
      refine lv_aload_n hx hb dP_compareCorners_8 rfl (lv_at hl 0 rfl) ?_
      refine va_get (D := (dC, dI)) (ci := 0) (v := .int (sN v)) (C := R_S) (T := T_S) (N := 8) hx hb hw in_S hown hK hPa 0 rfl rfl 6 (by decide) (hw _ w_53) (fun _ h9 => h9) rfl dP_compareCorners_9 ?_
      refine lv_icmp_ge (tgt := 52) hx hb dP_compareCorners_12 (by decide) (fun c1 => ?_) (fun c1 => ?_)
      · have h := it_t c1 h
        exact k52 p4 h ls (lv_sub hl [3] rfl)
      · have h := it_f c1 h
        refine lv_iload hx hb dP_compareCorners_15 (lv_at hl 3 rfl) ?_
        refine lv_if_lt (tgt := 52) hx hb dP_compareCorners_17 (by decide) (fun c2 => ?_) (fun c2 => ?_)
        · have h := it_t c2 h
          exact k52 p4 h ls (lv_sub hl [3] rfl)
        · have h := it_f c2 h
          refine lv_iload hx hb dP_compareCorners_20 (lv_at hl 3 rfl) ?_
          refine lv_aload_n hx hb dP_compareCorners_22 rfl (lv_at hl 1 rfl) ?_
          refine lv_aload_n hx hb dP_compareCorners_23 rfl (lv_at hl 0 rfl) ?_
          refine va_get (D := (dC, dI)) (ci := 0) (v := .ref ax) (C := R_S) (T := T_S) (N := 8) hx hb hw in_S hown hK hPa 0 rfl rfl 3 (by decide) (hw _ w_47) (fun _ h9 => h9) rfl dP_compareCorners_24 ?_
          refine lv_iload hx hb dP_compareCorners_27 (lv_at hl 4 rfl) ?_
          obtain ⟨u3, hu3, h⟩ := ob_some h
          obtain ⟨hiu3, eu3⟩ := ld_of hu3
          refine va_lald hx hb hK hPa 1 0 rfl rfl hiu3 dP_compareCorners_29 ?_
          rw [eu3]
          refine lv_aload_n hx hb dP_compareCorners_30 rfl (lv_at hl 0 rfl) ?_
          refine va_get (D := (dC, dI)) (ci := 0) (v := .ref ay) (C := R_S) (T := T_S) (N := 8) hx hb hw in_S hown hK hPa 0 rfl rfl 4 (by decide) (hw _ w_49) (fun _ h9 => h9) rfl dP_compareCorners_31 ?_
          refine lv_iload hx hb dP_compareCorners_34 (lv_at hl 4 rfl) ?_
          obtain ⟨u4, hu4, h⟩ := ob_some h
          obtain ⟨hiu4, eu4⟩ := ld_of hu4
          refine va_lald hx hb hK hPa 2 0 rfl rfl hiu4 dP_compareCorners_36 ?_
          rw [eu4]
          refine lv_lload_n hx hb dP_compareCorners_37 rfl (lv_at hl 2 rfl) ?_
          obtain ⟨u5, hu5, h⟩ := ob_some h
          refine vp_callSi (va_Run.run (va_runV (As := [.long u3, .long u4, .long p2]) (rest := [.int p4]) ⟨hx, hb, hml, hown, hw⟩ (k_S_compareToSides l dC dI cL cI o ox oy oe w u3 u4 p2 u5 hu5) (cwV 3 hw (gV w_376 w_320 w_321 w_7 w_322) rfl rfl rfl (by decide +kernel) ⟨Nat.le_of_ble_eq_true rfl, Nat.le_of_ble_eq_true rfl⟩) ⟨rd_blind, va_recv hK hPo (ci := 0) (q0 := 0) rfl rfl, rd_pre hPo hK⟩ rfl rfl hl.1 rfl (lv_room (Nat.le_of_ble_eq_true rfl)) dP_compareCorners_38 ⟨Nat.le_of_ble_eq_true rfl, Nat.le_of_ble_eq_true rfl⟩)) (fun z hz => ?_)
          rw [hz]; clear hz
          obtain ⟨u6, hu6, h⟩ := ob_some h
          refine va_mmin hx hb (hml.trans hl.1.symm) hown (hw _ w_377) (hw _ w_347) (hw _ w_11) (hw _ wm_min_I) (Nat.le_of_ble_eq_true rfl) (Nat.le_of_ble_eq_true rfl) (Nat.le_of_ble_eq_true rfl) (Nat.le_of_ble_eq_true rfl) dP_compareCorners_41 ?_
          rw [Option.some.inj hu6]
          refine lv_istore (lv' := [(4, .int u6), (0, .ref a), (1, .ref o), (2, .long p2), (5, .int p5)]) hx hb dP_compareCorners_44 hl (by decide) rfl (fun ls hl => ?_)
          refine lv_iinc (v := p5 + 1) (lv' := [(5, .int (p5 + 1)), (4, .int u6), (0, .ref a), (1, .ref o), (2, .long p2)]) hx hb dP_compareCorners_46 hl (k := 4) rfl rfl (by decide) rfl (fun ls hl => ?_)
          refine lv_goto (tgt := 6) hx hb dP_compareCorners_49 (by decide) ?_
          exact ih6 p2 u6 (p5 + 1) h ls (lv_sub hl [2, 3, 4, 1, 0] rfl)
  unfold f_P_compareCorners at h
  refine lv_iconst (v := 1) hx hb dP_compareCorners_0 (by decide) ?_
  refine lv_istore (lv' := [(4, .int (1 : Int32)), (0, .ref a), (1, .ref o), (2, .long x2)]) hx hb dP_compareCorners_1 hl (by decide) rfl (fun ls hl => ?_)
  refine lv_iconst (v := 0) hx hb dP_compareCorners_3 (by decide) ?_
  refine lv_istore (lv' := [(5, .int (0 : Int32)), (4, .int (1 : Int32)), (0, .ref a), (1, .ref o), (2, .long x2)]) hx hb dP_compareCorners_4 hl (by decide) rfl (fun ls hl => ?_)
  exact k6 64 x2 (1 : Int32) (0 : Int32) h ls (lv_sub hl [2, 3, 4, 1, 0] rfl)
theorem dP_compareCores_0 : decode cP_compareCores 0 = .ok (.aload_n 0, 1) := by decide +kernel
theorem dP_compareCores_1 : decode cP_compareCores 1 = .ok (.aload_n 1, 1) := by decide +kernel
theorem dP_compareCores_2 : decode cP_compareCores 2 = .ok (.invokestatic 7, 3) := by decide +kernel
theorem dP_compareCores_5 : decode cP_compareCores 5 = .ok (.ifCond .eq 9, 3) := by decide +kernel
theorem dP_compareCores_8 : decode cP_compareCores 8 = .ok (.lconst 0, 1) := by decide +kernel
theorem dP_compareCores_9 : decode cP_compareCores 9 = .ok (.lload_n 2, 1) := by decide +kernel
theorem dP_compareCores_10 : decode cP_compareCores 10 = .ok (.invokestatic 13, 3) := by decide +kernel
theorem dP_compareCores_13 : decode cP_compareCores 13 = .ok (.ireturn, 1) := by decide +kernel
theorem dP_compareCores_14 : decode cP_compareCores 14 = .ok (.aload_n 0, 1) := by decide +kernel
theorem dP_compareCores_15 : decode cP_compareCores 15 = .ok (.aload_n 1, 1) := by decide +kernel
theorem dP_compareCores_16 : decode cP_compareCores 16 = .ok (.lload_n 2, 1) := by decide +kernel
theorem dP_compareCores_17 : decode cP_compareCores 17 = .ok (.invokestatic 19, 3) := by decide +kernel
theorem dP_compareCores_20 : decode cP_compareCores 20 = .ok (.aload_n 1, 1) := by decide +kernel
theorem dP_compareCores_21 : decode cP_compareCores 21 = .ok (.aload_n 0, 1) := by decide +kernel
theorem dP_compareCores_22 : decode cP_compareCores 22 = .ok (.lload_n 2, 1) := by decide +kernel
theorem dP_compareCores_23 : decode cP_compareCores 23 = .ok (.invokestatic 19, 3) := by decide +kernel
theorem dP_compareCores_26 : decode cP_compareCores 26 = .ok (.invokestatic 23, 3) := by decide +kernel
theorem dP_compareCores_29 : decode cP_compareCores 29 = .ok (.ireturn, 1) := by decide +kernel
def f_P_compareCores (v : SV) (w : SV) (x2 : Int64) : Option Int32 := (f_P_coresMeet v w).bind fun u1 => (if u1 = 0 then (f_P_compareCorners v w x2).bind fun u3 => (f_P_compareCorners w v x2).bind fun u4 => (some (if u4 < u3 then u4 else u3)).bind fun u5 => some u5 else (f_JL_compare_JJ (0 : Int64) x2).bind fun u6 => some u6)
set_option maxHeartbeats 4000000 in
set_option maxRecDepth 100000 in
theorem k_P_compareCores (l : Launch) (dC : Nat → ClassId) (dI : Nat → Nat → Nat) (cL cI : ClassId) (a ax ay ae : Nat) (v : SV) (o ox oy oe : Nat) (w : SV) (x2 : Int64) (r : Int32) (h : f_P_compareCores v w x2 = some r) : Met l yP_compareCores wsP_compareCores ({ frames := 5, cells := 0, slots := 0, locals := 154 }) (rd_Pc [.ref a, .ref o, .long x2] (fun H => va_P (dC, dI) cls3 (shW cL cI a ax ay ae v) H ∧ va_P (dC, dI) cls3 (shW cL cI o ox oy oe w) H) (dC, dI) cls3 [(cL, .long), (cI, .int)]) (vp_Si (fun z => z = r)) 0 0 (fun _ => False) := by
  refine Met.ofW (cc := cP_compareCores) (maxL := 4) (ret := (some .int)) (by decide) rfl ?_
  intro p e s m args below meth c s₁ B hml hv
  obtain ⟨rfl, ⟨hPa, hPo⟩, hK⟩ := hv
  have hx := B.exec
  have hb := B.bytes
  have hr := B.returns
  have hw : ∀ w ∈ wG, w.before ([.ref a, .ref o, .long x2] : List Value).toArray s = true := fun w hq => atoms_spec (ws := wsP_compareCores) B.pre w (List.mem_cons_of_mem _ hq)
  have hown : s.vm.findClass R_P = some m.cls := findClass_of_methodNamed B.named
  have hlocks := B.notSynchronized
  have hl := lv_entry ([.ref a, .ref o, .long x2] : List Value) (n := 4) (Nat.le_of_ble_eq_true rfl)
  rw [lg_entry_eq]
  generalize (lg_sl ([.ref a, .ref o, .long x2] : List Value) ++ List.replicate (4 - (lg_sl ([.ref a, .ref o, .long x2] : List Value)).length) Slot.unset).toArray = ls at hl ⊢
  have hl : lv_has ls 4 [(0, .ref a), (1, .ref o), (2, .long x2)] := hl
  unfold f_P_compareCores at h
  refine lv_aload_n hx hb dP_compareCores_0 rfl (lv_at hl 0 rfl) ?_
  refine lv_aload_n hx hb dP_compareCores_1 rfl (lv_at hl 1 rfl) ?_
  obtain ⟨u1, hu1, h⟩ := ob_some h
  refine vp_callSi (va_Run.run (va_runS (As := [.ref a, .ref o]) (rest := []) ⟨hx, hb, hml, hown, hw⟩ (k_P_coresMeet l dC dI cL cI a ax ay ae v o ox oy oe w u1 hu1) (va_cwS 2 hw (gS w_363 w_364 w_10 w_365) rfl rfl rfl (by decide +kernel) ⟨Nat.le_of_ble_eq_true rfl, Nat.le_of_ble_eq_true rfl⟩) ⟨rd_blind, rd_pre ⟨hPa, hPo⟩ hK⟩ rfl rfl hl.1 rfl (lv_room (Nat.le_of_ble_eq_true rfl)) dP_compareCores_2 ⟨Nat.le_of_ble_eq_true rfl, Nat.le_of_ble_eq_true rfl⟩)) (fun z hz => ?_)
  rw [hz]; clear hz
  refine lv_if_eq (tgt := 14) hx hb dP_compareCores_5 (by decide) (fun c2 => ?_) (fun c2 => ?_)
  · have h := it_t c2 h
    refine lv_aload_n hx hb dP_compareCores_14 rfl (lv_at hl 0 rfl) ?_
    refine lv_aload_n hx hb dP_compareCores_15 rfl (lv_at hl 1 rfl) ?_
    refine lv_lload_n hx hb dP_compareCores_16 rfl (lv_at hl 2 rfl) ?_
    obtain ⟨u3, hu3, h⟩ := ob_some h
    refine vp_callSi (va_Run.run (va_runS (As := [.ref a, .ref o, .long x2]) (rest := []) ⟨hx, hb, hml, hown, hw⟩ (k_P_compareCorners l dC dI cL cI a ax ay ae v o ox oy oe w x2 u3 hu3) (va_cwS 3 hw (gS w_373 w_374 w_10 w_375) rfl rfl rfl (by decide +kernel) ⟨Nat.le_of_ble_eq_true rfl, Nat.le_of_ble_eq_true rfl⟩) ⟨rd_blind, rd_pre ⟨hPa, hPo⟩ hK⟩ rfl rfl hl.1 rfl (lv_room (Nat.le_of_ble_eq_true rfl)) dP_compareCores_17 ⟨Nat.le_of_ble_eq_true rfl, Nat.le_of_ble_eq_true rfl⟩)) (fun z hz => ?_)
    rw [hz]; clear hz
    refine lv_aload_n hx hb dP_compareCores_20 rfl (lv_at hl 1 rfl) ?_
    refine lv_aload_n hx hb dP_compareCores_21 rfl (lv_at hl 0 rfl) ?_
    refine lv_lload_n hx hb dP_compareCores_22 rfl (lv_at hl 2 rfl) ?_
    obtain ⟨u4, hu4, h⟩ := ob_some h
    refine vp_callSi (va_Run.run (va_runS (As := [.ref o, .ref a, .long x2]) (rest := [.int u3]) ⟨hx, hb, hml, hown, hw⟩ (k_P_compareCorners l dC dI cL cI o ox oy oe w a ax ay ae v x2 u4 hu4) (va_cwS 3 hw (gS w_373 w_374 w_10 w_375) rfl rfl rfl (by decide +kernel) ⟨Nat.le_of_ble_eq_true rfl, Nat.le_of_ble_eq_true rfl⟩) ⟨rd_blind, rd_pre ⟨hPo, hPa⟩ hK⟩ rfl rfl hl.1 rfl (lv_room (Nat.le_of_ble_eq_true rfl)) dP_compareCores_23 ⟨Nat.le_of_ble_eq_true rfl, Nat.le_of_ble_eq_true rfl⟩)) (fun z hz => ?_)
    rw [hz]; clear hz
    obtain ⟨u5, hu5, h⟩ := ob_some h
    refine va_mmin hx hb (hml.trans hl.1.symm) hown (hw _ w_377) (hw _ w_347) (hw _ w_11) (hw _ wm_min_I) (Nat.le_of_ble_eq_true rfl) (Nat.le_of_ble_eq_true rfl) (Nat.le_of_ble_eq_true rfl) (Nat.le_of_ble_eq_true rfl) dP_compareCores_26 ?_
    rw [Option.some.inj hu5]
    exact W.iret hx hb hr (fun t ht hW => ⟨_, rfl, Option.some.inj h, ht⟩) nil_locs dP_compareCores_29
  · have h := it_f c2 h
    refine lv_lconst (v := 0) hx hb dP_compareCores_8 (by decide) ?_
    refine lv_lload_n hx hb dP_compareCores_9 rfl (lv_at hl 2 rfl) ?_
    obtain ⟨u6, hu6, h⟩ := ob_some h
    refine vp_callSi (va_Run.run (va_runS (As := [.long (0 : Int64), .long x2]) (rest := []) ⟨hx, hb, hml, hown, hw⟩ (k_JL_compare_JJ l dC dI cL cI (0 : Int64) x2 u6 hu6) (va_cwS 2 hw (gS w_372 w_332 w_12 w_333) rfl rfl rfl (by decide +kernel) ⟨Nat.le_of_ble_eq_true rfl, Nat.le_of_ble_eq_true rfl⟩) ⟨rd_blind, rd_pre trivial hK⟩ rfl rfl hl.1 rfl (lv_room (Nat.le_of_ble_eq_true rfl)) dP_compareCores_10 ⟨Nat.le_of_ble_eq_true rfl, Nat.le_of_ble_eq_true rfl⟩)) (fun z hz => ?_)
    rw [hz]; clear hz
    exact W.iret hx hb hr (fun t ht hW => ⟨_, rfl, Option.some.inj h, ht⟩) nil_locs dP_compareCores_13
end
section
/-! covering: reading methods, laid by program -/
theorem dS_coveredFrom_0 : decode cS_coveredFrom 0 = .ok (.iload_n 3, 1) := by decide +kernel
theorem dS_coveredFrom_1 : decode cS_coveredFrom 1 = .ok (.ifCond .eq 10, 3) := by decide +kernel
theorem dS_coveredFrom_4 : decode cS_coveredFrom 4 = .ok (.aload_n 0, 1) := by decide +kernel
theorem dS_coveredFrom_5 : decode cS_coveredFrom 5 = .ok (.getfield 23, 3) := by decide +kernel
theorem dS_coveredFrom_8 : decode cS_coveredFrom 8 = .ok (.goto 7, 3) := by decide +kernel
theorem dS_coveredFrom_11 : decode cS_coveredFrom 11 = .ok (.aload_n 0, 1) := by decide +kernel
theorem dS_coveredFrom_12 : decode cS_coveredFrom 12 = .ok (.getfield 27, 3) := by decide +kernel
theorem dS_coveredFrom_15 : decode cS_coveredFrom 15 = .ok (.astore 6, 2) := by decide +kernel
theorem dS_coveredFrom_17 : decode cS_coveredFrom 17 = .ok (.lload_n 1, 1) := by decide +kernel
theorem dS_coveredFrom_18 : decode cS_coveredFrom 18 = .ok (.lstore 7, 2) := by decide +kernel
theorem dS_coveredFrom_20 : decode cS_coveredFrom 20 = .ok (.iconst 0, 1) := by decide +kernel
theorem dS_coveredFrom_21 : decode cS_coveredFrom 21 = .ok (.istore 9, 2) := by decide +kernel
theorem dS_coveredFrom_23 : decode cS_coveredFrom 23 = .ok (.iload 9, 2) := by decide +kernel
theorem dS_coveredFrom_25 : decode cS_coveredFrom 25 = .ok (.aload_n 0, 1) := by decide +kernel
theorem dS_coveredFrom_26 : decode cS_coveredFrom 26 = .ok (.getfield 34, 3) := by decide +kernel
theorem dS_coveredFrom_29 : decode cS_coveredFrom 29 = .ok (.if_icmp .ge 119, 3) := by decide +kernel
theorem dS_coveredFrom_32 : decode cS_coveredFrom 32 = .ok (.aload_n 0, 1) := by decide +kernel
theorem dS_coveredFrom_33 : decode cS_coveredFrom 33 = .ok (.getfield 30, 3) := by decide +kernel
theorem dS_coveredFrom_36 : decode cS_coveredFrom 36 = .ok (.iload 9, 2) := by decide +kernel
theorem dS_coveredFrom_38 : decode cS_coveredFrom 38 = .ok (.iaload, 1) := by decide +kernel
theorem dS_coveredFrom_39 : decode cS_coveredFrom 39 = .ok (.istore 10, 2) := by decide +kernel
theorem dS_coveredFrom_41 : decode cS_coveredFrom 41 = .ok (.aload 6, 2) := by decide +kernel
theorem dS_coveredFrom_43 : decode cS_coveredFrom 43 = .ok (.iload 9, 2) := by decide +kernel
theorem dS_coveredFrom_45 : decode cS_coveredFrom 45 = .ok (.laload, 1) := by decide +kernel
theorem dS_coveredFrom_46 : decode cS_coveredFrom 46 = .ok (.aload 6, 2) := by decide +kernel
theorem dS_coveredFrom_48 : decode cS_coveredFrom 48 = .ok (.iload 10, 2) := by decide +kernel
theorem dS_coveredFrom_50 : decode cS_coveredFrom 50 = .ok (.laload, 1) := by decide +kernel
theorem dS_coveredFrom_51 : decode cS_coveredFrom 51 = .ok (.invokestatic 63, 3) := by decide +kernel
theorem dS_coveredFrom_54 : decode cS_coveredFrom 54 = .ok (.lstore 11, 2) := by decide +kernel
theorem dS_coveredFrom_56 : decode cS_coveredFrom 56 = .ok (.aload 6, 2) := by decide +kernel
theorem dS_coveredFrom_58 : decode cS_coveredFrom 58 = .ok (.iload 9, 2) := by decide +kernel
theorem dS_coveredFrom_60 : decode cS_coveredFrom 60 = .ok (.laload, 1) := by decide +kernel
theorem dS_coveredFrom_61 : decode cS_coveredFrom 61 = .ok (.aload 6, 2) := by decide +kernel
theorem dS_coveredFrom_63 : decode cS_coveredFrom 63 = .ok (.iload 10, 2) := by decide +kernel
theorem dS_coveredFrom_65 : decode cS_coveredFrom 65 = .ok (.laload, 1) := by decide +kernel
theorem dS_coveredFrom_66 : decode cS_coveredFrom 66 = .ok (.invokestatic 69, 3) := by decide +kernel
theorem dS_coveredFrom_69 : decode cS_coveredFrom 69 = .ok (.lstore 13, 2) := by decide +kernel
theorem dS_coveredFrom_71 : decode cS_coveredFrom 71 = .ok (.lload 11, 2) := by decide +kernel
theorem dS_coveredFrom_73 : decode cS_coveredFrom 73 = .ok (.lload_n 1, 1) := by decide +kernel
theorem dS_coveredFrom_74 : decode cS_coveredFrom 74 = .ok (.lcmp, 1) := by decide +kernel
theorem dS_coveredFrom_75 : decode cS_coveredFrom 75 = .ok (.ifCond .gt 67, 3) := by decide +kernel
theorem dS_coveredFrom_78 : decode cS_coveredFrom 78 = .ok (.lload 13, 2) := by decide +kernel
theorem dS_coveredFrom_80 : decode cS_coveredFrom 80 = .ok (.lload 7, 2) := by decide +kernel
theorem dS_coveredFrom_82 : decode cS_coveredFrom 82 = .ok (.lcmp, 1) := by decide +kernel
theorem dS_coveredFrom_83 : decode cS_coveredFrom 83 = .ok (.ifCond .le 59, 3) := by decide +kernel
theorem dS_coveredFrom_86 : decode cS_coveredFrom 86 = .ok (.aload 4, 2) := by decide +kernel
theorem dS_coveredFrom_88 : decode cS_coveredFrom 88 = .ok (.iload 5, 2) := by decide +kernel
theorem dS_coveredFrom_90 : decode cS_coveredFrom 90 = .ok (.aload_n 0, 1) := by decide +kernel
theorem dS_coveredFrom_91 : decode cS_coveredFrom 91 = .ok (.getfield 23, 3) := by decide +kernel
theorem dS_coveredFrom_94 : decode cS_coveredFrom 94 = .ok (.iload 9, 2) := by decide +kernel
theorem dS_coveredFrom_96 : decode cS_coveredFrom 96 = .ok (.laload, 1) := by decide +kernel
theorem dS_coveredFrom_97 : decode cS_coveredFrom 97 = .ok (.aload_n 0, 1) := by decide +kernel
theorem dS_coveredFrom_98 : decode cS_coveredFrom 98 = .ok (.getfield 27, 3) := by decide +kernel
theorem dS_coveredFrom_101 : decode cS_coveredFrom 101 = .ok (.iload 9, 2) := by decide +kernel
theorem dS_coveredFrom_103 : decode cS_coveredFrom 103 = .ok (.laload, 1) := by decide +kernel
theorem dS_coveredFrom_104 : decode cS_coveredFrom 104 = .ok (.invokevirtual 50, 3) := by decide +kernel
theorem dS_coveredFrom_107 : decode cS_coveredFrom 107 = .ok (.lconst 0, 1) := by decide +kernel
theorem dS_coveredFrom_108 : decode cS_coveredFrom 108 = .ok (.lcmp, 1) := by decide +kernel
theorem dS_coveredFrom_109 : decode cS_coveredFrom 109 = .ok (.ifCond .ne 33, 3) := by decide +kernel
theorem dS_coveredFrom_112 : decode cS_coveredFrom 112 = .ok (.aload 4, 2) := by decide +kernel
theorem dS_coveredFrom_114 : decode cS_coveredFrom 114 = .ok (.iload 5, 2) := by decide +kernel
theorem dS_coveredFrom_116 : decode cS_coveredFrom 116 = .ok (.aload_n 0, 1) := by decide +kernel
theorem dS_coveredFrom_117 : decode cS_coveredFrom 117 = .ok (.getfield 23, 3) := by decide +kernel
theorem dS_coveredFrom_120 : decode cS_coveredFrom 120 = .ok (.iload 10, 2) := by decide +kernel
theorem dS_coveredFrom_122 : decode cS_coveredFrom 122 = .ok (.laload, 1) := by decide +kernel
theorem dS_coveredFrom_123 : decode cS_coveredFrom 123 = .ok (.aload_n 0, 1) := by decide +kernel
theorem dS_coveredFrom_124 : decode cS_coveredFrom 124 = .ok (.getfield 27, 3) := by decide +kernel
theorem dS_coveredFrom_127 : decode cS_coveredFrom 127 = .ok (.iload 10, 2) := by decide +kernel
theorem dS_coveredFrom_129 : decode cS_coveredFrom 129 = .ok (.laload, 1) := by decide +kernel
theorem dS_coveredFrom_130 : decode cS_coveredFrom 130 = .ok (.invokevirtual 50, 3) := by decide +kernel
theorem dS_coveredFrom_133 : decode cS_coveredFrom 133 = .ok (.lconst 0, 1) := by decide +kernel
theorem dS_coveredFrom_134 : decode cS_coveredFrom 134 = .ok (.lcmp, 1) := by decide +kernel
theorem dS_coveredFrom_135 : decode cS_coveredFrom 135 = .ok (.ifCond .ne 7, 3) := by decide +kernel
theorem dS_coveredFrom_138 : decode cS_coveredFrom 138 = .ok (.lload 13, 2) := by decide +kernel
theorem dS_coveredFrom_140 : decode cS_coveredFrom 140 = .ok (.lstore 7, 2) := by decide +kernel
theorem dS_coveredFrom_142 : decode cS_coveredFrom 142 = .ok (.iinc 9 1, 3) := by decide +kernel
theorem dS_coveredFrom_145 : decode cS_coveredFrom 145 = .ok (.goto (-122), 3) := by decide +kernel
theorem dS_coveredFrom_148 : decode cS_coveredFrom 148 = .ok (.lload 7, 2) := by decide +kernel
theorem dS_coveredFrom_150 : decode cS_coveredFrom 150 = .ok (.lreturn, 1) := by decide +kernel
def f_S_coveredFrom_j142 (v : SV) (w : SV) (K23 : Int64 → Int32 → (Nat → Int64) → Int64 → Int32 → Option Int64) (p1 : Int64) (p5 : Int32) (f6 : Nat → Int64) (p7 : Int64) (p9 : Int32) : Option Int64 := (K23 p1 p5 f6 p7 (p9 + 1))
def f_S_coveredFrom_l23 (v : SV) (w : SV) : Nat → Int64 → Int32 → (Nat → Int64) → Int64 → Int32 → Option Int64
 | 0, _, _, _, _, _ => none
 | n + 1, p1, p5, f6, p7, p9 => (if (sN v) ≤ p9 then some p7 else (ld 48 (sE v) p9).bind fun u3 => (ld 48 f6 p9).bind fun u4 => (ld 48 f6 u3).bind fun u5 => (some (if u5 < u4 then u5 else u4)).bind fun u6 => (ld 48 f6 p9).bind fun u7 => (ld 48 f6 u3).bind fun u8 => (some (if u8 < u7 then u7 else u8)).bind fun u9 => (if 0 < (lg_cmp u6 p1) then (f_S_coveredFrom_j142 v w (f_S_coveredFrom_l23 v w n) p1 p5 f6 p7 p9) else (if (lg_cmp u9 p7) ≤ 0 then (f_S_coveredFrom_j142 v w (f_S_coveredFrom_l23 v w n) p1 p5 f6 p7 p9) else (ld 48 (sX v) p9).bind fun u12 => (ld 48 (sY v) p9).bind fun u13 => (f_S_cross w p5 u12 u13).bind fun u14 => (if (lg_cmp u14 (0 : Int64)) = 0 then (ld 48 (sX v) u3).bind fun u16 => (ld 48 (sY v) u3).bind fun u17 => (f_S_cross w p5 u16 u17).bind fun u18 => (if (lg_cmp u18 (0 : Int64)) = 0 then (f_S_coveredFrom_j142 v w (f_S_coveredFrom_l23 v w n) p1 p5 f6 u9 p9) else (f_S_coveredFrom_j142 v w (f_S_coveredFrom_l23 v w n) p1 p5 f6 p7 p9)) else (f_S_coveredFrom_j142 v w (f_S_coveredFrom_l23 v w n) p1 p5 f6 p7 p9)))))
def f_S_coveredFrom_j15 (v : SV) (w : SV) (p1 : Int64) (p5 : Int32) (fs0 : Nat → Int64) : Option Int64 := (f_S_coveredFrom_l23 v w 64 p1 p5 fs0 p1 (0 : Int32))
def f_S_coveredFrom (v : SV) (w : SV) (x1 : Int64) (x3 : Int32) (x5 : Int32) : Option Int64 := (if x3 = 0 then (f_S_coveredFrom_j15 v w x1 x5 (sY v)) else (f_S_coveredFrom_j15 v w x1 x5 (sX v)))
set_option maxHeartbeats 4000000 in
set_option maxRecDepth 100000 in
theorem k_S_coveredFrom (l : Launch) (dC : Nat → ClassId) (dI : Nat → Nat → Nat) (cL cI : ClassId) (a ax ay ae : Nat) (v : SV) (o ox oy oe : Nat) (w : SV) (x1 : Int64) (x3 : Int32) (x5 : Int32) (r : Int64) (h : f_S_coveredFrom v w x1 x3 x5 = some r) : Met l yS_coveredFrom wsS_coveredFrom ({ frames := 1, cells := 0, slots := 0, locals := 26 }) (rd_Pc [.ref a, .long x1, .int x3, .ref o, .int x5] (fun H => va_P (dC, dI) cls3 (shW cL cI a ax ay ae v) H ∧ va_P (dC, dI) cls3 (shW cL cI o ox oy oe w) H) (dC, dI) cls3 [(cL, .long), (cI, .int)]) (vp_Sl (fun z => z = r)) 0 0 (fun _ => False) := by
  refine Met.ofW (cc := cS_coveredFrom) (maxL := 15) (ret := (some .long)) (by decide) rfl ?_
  intro p e s m args below meth c s₁ B hml hv
  obtain ⟨rfl, ⟨hPa, hPo⟩, hK⟩ := hv
  have hx := B.exec
  have hb := B.bytes
  have hr := B.returns
  have hw : ∀ w ∈ wG, w.before ([.ref a, .long x1, .int x3, .ref o, .int x5] : List Value).toArray s = true := fun w hq => atoms_spec (ws := wsS_coveredFrom) B.pre w (List.mem_cons_of_mem _ hq)
  have hown : s.vm.findClass R_S = some m.cls := findClass_of_methodNamed B.named
  have hlocks := B.notSynchronized
  have hl := lv_entry ([.ref a, .long x1, .int x3, .ref o, .int x5] : List Value) (n := 15) (Nat.le_of_ble_eq_true rfl)
  rw [lg_entry_eq]
  generalize (lg_sl ([.ref a, .long x1, .int x3, .ref o, .int x5] : List Value) ++ List.replicate (15 - (lg_sl ([.ref a, .long x1, .int x3, .ref o, .int x5] : List Value)).length) Slot.unset).toArray = ls at hl ⊢
  have hl : lv_has ls 15 [(0, .ref a), (1, .long x1), (3, .int x3), (4, .ref o), (5, .int x5)] := hl
  have k23 : ∀ (n23 : Nat), ∀ (p1 : Int64) (p5 : Int32) (f6 : Nat → Int64) (p7 : Int64) (p9 : Int32), f_S_coveredFrom_l23 v w n23 p1 p5 f6 p7 p9 = some r → ∀ (q6 : Nat), va_P (dC, dI) cls3 [(q6, .inl (cL, 48, .inr (.inl f6)))] s.heap → ∀ (ls : Array Slot), lv_has ls 15 [(0, .ref a), (1, .long p1), (4, .ref o), (5, .int p5), (6, .ref q6), (7, .long p7), (9, .int p9)] → W p l e (headSpec wsS_coveredFrom ({ frames := 1, cells := 0, slots := 0, locals := 26 })).room s m ([.ref a, .long x1, .int x3, .ref o, .int x5] : List Value).toArray below meth c s.heap [] 0 0 (MQ below (vp_Sl (fun z => z = r)) ([.ref a, .long x1, .int x3, .ref o, .int x5] : List Value).toArray s 0 0 (fun _ => False)) (F0 m 23 ls []) := by
    intro n23
    induction n23 with
    | zero => intro p1 p5 f6 p7 p9 h; exact absurd h (by simp [f_S_coveredFrom_l23])
    | succ n23 ih23 =>
      have k142 : ∀ (p1 : Int64) (p5 : Int32) (f6 : Nat → Int64) (p7 : Int64) (p9 : Int32), f_S_coveredFrom_j142 v w (f_S_coveredFrom_l23 v w n23) p1 p5 f6 p7 p9 = some r → ∀ (q6 : Nat), va_P (dC, dI) cls3 [(q6, .inl (cL, 48, .inr (.inl f6)))] s.heap → ∀ (ls : Array Slot), lv_has ls 15 [(0, .ref a), (1, .long p1), (4, .ref o), (5, .int p5), (6, .ref q6), (7, .long p7), (9, .int p9)] → W p l e (headSpec wsS_coveredFrom ({ frames := 1, cells := 0, slots := 0, locals := 26 })).room s m ([.ref a, .long x1, .int x3, .ref o, .int x5] : List Value).toArray below meth c s.heap [] 0 0 (MQ below (vp_Sl (fun z => z = r)) ([.ref a, .long x1, .int x3, .ref o, .int x5] : List Value).toArray s 0 0 (fun _ => False)) (F0 m 142 ls []) := by
        intro p1 p5 f6 p7 p9 h q6 hq6 ls hl
        unfold f_S_coveredFrom_j142 at h
        refine lv_iinc (v := p9 + 1) (lv' := [(9, .int (p9 + 1)), (0, .ref a), (1, .long p1), (4, .ref o), (5, .int p5), (6, .ref q6), (7, .long p7)]) hx hb dS_coveredFrom_142 hl (k := 6) rfl rfl (by decide) rfl (fun ls hl => ?_)
        refine lv_goto (tgt := 23) hx hb dS_coveredFrom_145 (by decide) ?_
        exact ih23 p1 p5 f6 p7 (p9 + 1) h q6 hq6 ls (lv_sub hl [1, 2, 3, 4, 5, 6, 0] rfl)
      intro p1 p5 f6 p7 p9 h q6 hq6 ls hl
      rw [f_S_coveredFrom_l23] at h
      refine lv_iload hx hb dS_coveredFrom_23 (lv_at hl 6 rfl) ?_
      refine lv_aload_n hx hb dS_coveredFrom_25 rfl (lv_at hl 0 rfl) ?_
      refine va_get (D := (dC, dI)) (ci := 0) (v := .int (sN v)) (C := R_S) (T := T_S) (N := 8) hx hb hw in_S hown hK hPa 0 rfl rfl 6 (by decide) (hw _ w_52) (fun _ h9 => h9) rfl dS_coveredFrom_26 ?_
      refine lv_icmp_ge (tgt := 148) hx hb dS_coveredFrom_29 (by decide) (fun c2 => ?_) (fun c2 => ?_)
      · have h := it_t c2 h
        refine lv_lload hx hb dS_coveredFrom_148 (lv_at hl 5 rfl) ?_
        exact W.lret hx hb hr (fun t ht hW => ⟨_, rfl, Option.some.inj h, ht⟩) nil_locs dS_coveredFrom_150
      · have h := it_f c2 h
        refine lv_aload_n hx hb dS_coveredFrom_32 rfl (lv_at hl 0 rfl) ?_
        refine va_get (D := (dC, dI)) (ci := 0) (v := .ref ae) (C := R_S) (T := T_S) (N := 8) hx hb hw in_S hown hK hPa 0 rfl rfl 5 (by decide) (hw _ w_50) (fun _ h9 => h9) rfl dS_coveredFrom_33 ?_
        refine lv_iload hx hb dS_coveredFrom_36 (lv_at hl 6 rfl) ?_
        obtain ⟨u3, hu3, h⟩ := ob_some h
        obtain ⟨hiu3, eu3⟩ := ld_of hu3
        refine va_iald hx hb hK hPa 3 1 rfl rfl hiu3 dS_coveredFrom_38 ?_
        rw [eu3]
        refine lv_istore (lv' := [(10, .int u3), (0, .ref a), (1, .long p1), (4, .ref o), (5, .int p5), (6, .ref q6), (7, .long p7), (9, .int p9)]) hx hb dS_coveredFrom_39 hl (by decide) rfl (fun ls hl => ?_)
        refine lv_aload hx hb dS_coveredFrom_41 (lv_at hl 5 rfl) ?_
        refine lv_iload hx hb dS_coveredFrom_43 (lv_at hl 7 rfl) ?_
        obtain ⟨u4, hu4, h⟩ := ob_some h
        obtain ⟨hiu4, eu4⟩ := ld_of hu4
        refine va_lald hx hb hK hq6 0 0 rfl rfl hiu4 dS_coveredFrom_45 ?_
        rw [eu4]
        refine lv_aload hx hb dS_coveredFrom_46 (lv_at hl 5 rfl) ?_
        refine lv_iload hx hb dS_coveredFrom_48 (lv_at hl 0 rfl) ?_
        obtain ⟨u5, hu5, h⟩ := ob_some h
        obtain ⟨hiu5, eu5⟩ := ld_of hu5
        refine va_lald hx hb hK hq6 0 0 rfl rfl hiu5 dS_coveredFrom_50 ?_
        rw [eu5]
        obtain ⟨u6, hu6, h⟩ := ob_some h
        refine va_mmin_long hx hb (hml.trans hl.1.symm) hown (hw _ w_390) (hw _ w_279) (hw _ w_11) (hw _ wm_min_J) (Nat.le_of_ble_eq_true rfl) (Nat.le_of_ble_eq_true rfl) (Nat.le_of_ble_eq_true rfl) (Nat.le_of_ble_eq_true rfl) dS_coveredFrom_51 ?_
        rw [Option.some.inj hu6]
        refine lv_lstore (lv' := [(11, .long u6), (10, .int u3), (0, .ref a), (1, .long p1), (4, .ref o), (5, .int p5), (6, .ref q6), (7, .long p7), (9, .int p9)]) hx hb dS_coveredFrom_54 hl (by decide) rfl (fun ls hl => ?_)
        refine lv_aload hx hb dS_coveredFrom_56 (lv_at hl 6 rfl) ?_
        refine lv_iload hx hb dS_coveredFrom_58 (lv_at hl 8 rfl) ?_
        obtain ⟨u7, hu7, h⟩ := ob_some h
        obtain ⟨hiu7, eu7⟩ := ld_of hu7
        refine va_lald hx hb hK hq6 0 0 rfl rfl hiu7 dS_coveredFrom_60 ?_
        rw [eu7]
        refine lv_aload hx hb dS_coveredFrom_61 (lv_at hl 6 rfl) ?_
        refine lv_iload hx hb dS_coveredFrom_63 (lv_at hl 1 rfl) ?_
        obtain ⟨u8, hu8, h⟩ := ob_some h
        obtain ⟨hiu8, eu8⟩ := ld_of hu8
        refine va_lald hx hb hK hq6 0 0 rfl rfl hiu8 dS_coveredFrom_65 ?_
        rw [eu8]
        obtain ⟨u9, hu9, h⟩ := ob_some h
        refine va_mmax_long hx hb (hml.trans hl.1.symm) hown (hw _ w_391) (hw _ w_282) (hw _ w_11) (hw _ wm_max_J) (Nat.le_of_ble_eq_true rfl) (Nat.le_of_ble_eq_true rfl) (Nat.le_of_ble_eq_true rfl) (Nat.le_of_ble_eq_true rfl) dS_coveredFrom_66 ?_
        rw [Option.some.inj hu9]
        refine lv_lstore (lv' := [(13, .long u9), (11, .long u6), (10, .int u3), (0, .ref a), (1, .long p1), (4, .ref o), (5, .int p5), (6, .ref q6), (7, .long p7), (9, .int p9)]) hx hb dS_coveredFrom_69 hl (by decide) rfl (fun ls hl => ?_)
        refine lv_lload hx hb dS_coveredFrom_71 (lv_at hl 1 rfl) ?_
        refine lv_lload_n hx hb dS_coveredFrom_73 rfl (lv_at hl 4 rfl) ?_
        refine W.lcmp hx hb dS_coveredFrom_74 ?_
        refine lv_if_gt (tgt := 142) hx hb dS_coveredFrom_75 (by decide) (fun c10 => ?_) (fun c10 => ?_)
        · have h := it_t c10 h
          exact k142 p1 p5 f6 p7 p9 h q6 hq6 ls (lv_sub hl [3, 4, 5, 6, 7, 8, 9] rfl)
        · have h := it_f c10 h
          refine lv_lload hx hb dS_coveredFrom_78 (lv_at hl 0 rfl) ?_
          refine lv_lload hx hb dS_coveredFrom_80 (lv_at hl 8 rfl) ?_
          refine W.lcmp hx hb dS_coveredFrom_82 ?_
          refine lv_if_le (tgt := 142) hx hb dS_coveredFrom_83 (by decide) (fun c11 => ?_) (fun c11 => ?_)
          · have h := it_t c11 h
            exact k142 p1 p5 f6 p7 p9 h q6 hq6 ls (lv_sub hl [3, 4, 5, 6, 7, 8, 9] rfl)
          · have h := it_f c11 h
            refine lv_aload hx hb dS_coveredFrom_86 (lv_at hl 5 rfl) ?_
            refine lv_iload hx hb dS_coveredFrom_88 (lv_at hl 6 rfl) ?_
            refine lv_aload_n hx hb dS_coveredFrom_90 rfl (lv_at hl 3 rfl) ?_
            refine va_get (D := (dC, dI)) (ci := 0) (v := .ref ax) (C := R_S) (T := T_S) (N := 8) hx hb hw in_S hown hK hPa 0 rfl rfl 3 (by decide) (hw _ w_46) (fun _ h9 => h9) rfl dS_coveredFrom_91 ?_
            refine lv_iload hx hb dS_coveredFrom_94 (lv_at hl 9 rfl) ?_
            obtain ⟨u12, hu12, h⟩ := ob_some h
            obtain ⟨hiu12, eu12⟩ := ld_of hu12
            refine va_lald hx hb hK hPa 1 0 rfl rfl hiu12 dS_coveredFrom_96 ?_
            rw [eu12]
            refine lv_aload_n hx hb dS_coveredFrom_97 rfl (lv_at hl 3 rfl) ?_
            refine va_get (D := (dC, dI)) (ci := 0) (v := .ref ay) (C := R_S) (T := T_S) (N := 8) hx hb hw in_S hown hK hPa 0 rfl rfl 4 (by decide) (hw _ w_48) (fun _ h9 => h9) rfl dS_coveredFrom_98 ?_
            refine lv_iload hx hb dS_coveredFrom_101 (lv_at hl 9 rfl) ?_
            obtain ⟨u13, hu13, h⟩ := ob_some h
            obtain ⟨hiu13, eu13⟩ := ld_of hu13
            refine va_lald hx hb hK hPa 2 0 rfl rfl hiu13 dS_coveredFrom_103 ?_
            rw [eu13]
            obtain ⟨u14, hu14, h⟩ := ob_some h
            refine vp_callSl (va_Run.run (va_runV (As := [.int p5, .long u12, .long u13]) (rest := []) ⟨hx, hb, hml, hown, hw⟩ (k_S_cross l dC dI cL cI o ox oy oe w p5 u12 u13 u14 hu14) (cwV 3 hw (gV w_264 w_265 w_266 w_7 w_267) rfl rfl rfl (by decide +kernel) ⟨Nat.le_of_ble_eq_true rfl, Nat.le_of_ble_eq_true rfl⟩) ⟨rd_blind, va_recv hK hPo (ci := 0) (q0 := 0) rfl rfl, rd_pre hPo hK⟩ rfl rfl hl.1 rfl (lv_room (Nat.le_of_ble_eq_true rfl)) dS_coveredFrom_104 ⟨Nat.le_of_ble_eq_true rfl, Nat.le_of_ble_eq_true rfl⟩)) (fun z hz => ?_)
            rw [hz]; clear hz
            refine lv_lconst (v := 0) hx hb dS_coveredFrom_107 (by decide) ?_
            refine W.lcmp hx hb dS_coveredFrom_108 ?_
            refine lv_if_ne (tgt := 142) hx hb dS_coveredFrom_109 (by decide) (fun c15 => ?_) (fun c15 => ?_)
            · have h := it_f c15 h
              exact k142 p1 p5 f6 p7 p9 h q6 hq6 ls (lv_sub hl [3, 4, 5, 6, 7, 8, 9] rfl)
            · have h := it_t c15 h
              refine lv_aload hx hb dS_coveredFrom_112 (lv_at hl 5 rfl) ?_
              refine lv_iload hx hb dS_coveredFrom_114 (lv_at hl 6 rfl) ?_
              refine lv_aload_n hx hb dS_coveredFrom_116 rfl (lv_at hl 3 rfl) ?_
              refine va_get (D := (dC, dI)) (ci := 0) (v := .ref ax) (C := R_S) (T := T_S) (N := 8) hx hb hw in_S hown hK hPa 0 rfl rfl 3 (by decide) (hw _ w_46) (fun _ h9 => h9) rfl dS_coveredFrom_117 ?_
              refine lv_iload hx hb dS_coveredFrom_120 (lv_at hl 2 rfl) ?_
              obtain ⟨u16, hu16, h⟩ := ob_some h
              obtain ⟨hiu16, eu16⟩ := ld_of hu16
              refine va_lald hx hb hK hPa 1 0 rfl rfl hiu16 dS_coveredFrom_122 ?_
              rw [eu16]
              refine lv_aload_n hx hb dS_coveredFrom_123 rfl (lv_at hl 3 rfl) ?_
              refine va_get (D := (dC, dI)) (ci := 0) (v := .ref ay) (C := R_S) (T := T_S) (N := 8) hx hb hw in_S hown hK hPa 0 rfl rfl 4 (by decide) (hw _ w_48) (fun _ h9 => h9) rfl dS_coveredFrom_124 ?_
              refine lv_iload hx hb dS_coveredFrom_127 (lv_at hl 2 rfl) ?_
              obtain ⟨u17, hu17, h⟩ := ob_some h
              obtain ⟨hiu17, eu17⟩ := ld_of hu17
              refine va_lald hx hb hK hPa 2 0 rfl rfl hiu17 dS_coveredFrom_129 ?_
              rw [eu17]
              obtain ⟨u18, hu18, h⟩ := ob_some h
              refine vp_callSl (va_Run.run (va_runV (As := [.int p5, .long u16, .long u17]) (rest := []) ⟨hx, hb, hml, hown, hw⟩ (k_S_cross l dC dI cL cI o ox oy oe w p5 u16 u17 u18 hu18) (cwV 3 hw (gV w_264 w_265 w_266 w_7 w_267) rfl rfl rfl (by decide +kernel) ⟨Nat.le_of_ble_eq_true rfl, Nat.le_of_ble_eq_true rfl⟩) ⟨rd_blind, va_recv hK hPo (ci := 0) (q0 := 0) rfl rfl, rd_pre hPo hK⟩ rfl rfl hl.1 rfl (lv_room (Nat.le_of_ble_eq_true rfl)) dS_coveredFrom_130 ⟨Nat.le_of_ble_eq_true rfl, Nat.le_of_ble_eq_true rfl⟩)) (fun z hz => ?_)
              rw [hz]; clear hz
              refine lv_lconst (v := 0) hx hb dS_coveredFrom_133 (by decide) ?_
              refine W.lcmp hx hb dS_coveredFrom_134 ?_
              refine lv_if_ne (tgt := 142) hx hb dS_coveredFrom_135 (by decide) (fun c19 => ?_) (fun c19 => ?_)
              · have h := it_f c19 h
                exact k142 p1 p5 f6 p7 p9 h q6 hq6 ls (lv_sub hl [3, 4, 5, 6, 7, 8, 9] rfl)
              · have h := it_t c19 h
                refine lv_lload hx hb dS_coveredFrom_138 (lv_at hl 0 rfl) ?_
                refine lv_lstore (lv' := [(7, .long u9), (13, .long u9), (11, .long u6), (10, .int u3), (0, .ref a), (1, .long p1), (4, .ref o), (5, .int p5), (6, .ref q6), (9, .int p9)]) hx hb dS_coveredFrom_140 hl (by decide) rfl (fun ls hl => ?_)
                exact k142 p1 p5 f6 u9 p9 h q6 hq6 ls (lv_sub hl [4, 5, 6, 7, 8, 0, 9] rfl)
  have k15 : ∀ (p1 : Int64) (p5 : Int32) (fs0 : Nat → Int64), f_S_coveredFrom_j15 v w p1 p5 fs0 = some r → ∀ (qs0 : Nat), va_P (dC, dI) cls3 [(qs0, .inl (cL, 48, .inr (.inl fs0)))] s.heap → ∀ (ls : Array Slot), lv_has ls 15 [(0, .ref a), (1, .long p1), (4, .ref o), (5, .int p5)] → W p l e (headSpec wsS_coveredFrom ({ frames := 1, cells := 0, slots := 0, locals := 26 })).room s m ([.ref a, .long x1, .int x3, .ref o, .int x5] : List Value).toArray below meth c s.heap [] 0 0 (MQ below (vp_Sl (fun z => z = r)) ([.ref a, .long x1, .int x3, .ref o, .int x5] : List Value).toArray s 0 0 (fun _ => False)) (F0 m 15 ls [.ref qs0]) := by
    intro p1 p5 fs0 h qs0 hqs0 ls hl
    unfold f_S_coveredFrom_j15 at h
    refine lv_astore (lv' := [(6, .ref qs0), (0, .ref a), (1, .long p1), (4, .ref o), (5, .int p5)]) hx hb dS_coveredFrom_15 hl (by decide) rfl (fun ls hl => ?_)
    refine lv_lload_n hx hb dS_coveredFrom_17 rfl (lv_at hl 2 rfl) ?_
    refine lv_lstore (lv' := [(7, .long p1), (6, .ref qs0), (0, .ref a), (1, .long p1), (4, .ref o), (5, .int p5)]) hx hb dS_coveredFrom_18 hl (by decide) rfl (fun ls hl => ?_)
    refine lv_iconst (v := 0) hx hb dS_coveredFrom_20 (by decide) ?_
    refine lv_istore (lv' := [(9, .int (0 : Int32)), (7, .long p1), (6, .ref qs0), (0, .ref a), (1, .long p1), (4, .ref o), (5, .int p5)]) hx hb dS_coveredFrom_21 hl (by decide) rfl (fun ls hl => ?_)
    exact k23 64 p1 p5 fs0 p1 (0 : Int32) h qs0 hqs0 ls (lv_sub hl [3, 4, 5, 6, 2, 1, 0] rfl)
  unfold f_S_coveredFrom at h
  refine lv_iload_n hx hb dS_coveredFrom_0 rfl (lv_at hl 2 rfl) ?_
  refine lv_if_eq (tgt := 11) hx hb dS_coveredFrom_1 (by decide) (fun c1 => ?_) (fun c1 => ?_)
  · have h := it_t c1 h
    refine lv_aload_n hx hb dS_coveredFrom_11 rfl (lv_at hl 0 rfl) ?_
    refine va_get (D := (dC, dI)) (ci := 0) (v := .ref ay) (C := R_S) (T := T_S) (N := 8) hx hb hw in_S hown hK hPa 0 rfl rfl 4 (by decide) (hw _ w_48) (fun _ h9 => h9) rfl dS_coveredFrom_12 ?_
    exact k15 x1 x5 (sY v) h ay (hPa.sub [2] rfl) ls (lv_sub hl [0, 1, 3, 4] rfl)
  · have h := it_f c1 h
    refine lv_aload_n hx hb dS_coveredFrom_4 rfl (lv_at hl 0 rfl) ?_
    refine va_get (D := (dC, dI)) (ci := 0) (v := .ref ax) (C := R_S) (T := T_S) (N := 8) hx hb hw in_S hown hK hPa 0 rfl rfl 3 (by decide) (hw _ w_46) (fun _ h9 => h9) rfl dS_coveredFrom_5 ?_
    refine lv_goto (tgt := 15) hx hb dS_coveredFrom_8 (by decide) ?_
    exact k15 x1 x5 (sX v) h ax (hPa.sub [1] rfl) ls (lv_sub hl [0, 1, 3, 4] rfl)
theorem dS_coversSide_0 : decode cS_coversSide 0 = .ok (.aload_n 1, 1) := by decide +kernel
theorem dS_coversSide_1 : decode cS_coversSide 1 = .ok (.getfield 30, 3) := by decide +kernel
theorem dS_coversSide_4 : decode cS_coversSide 4 = .ok (.iload_n 2, 1) := by decide +kernel
theorem dS_coversSide_5 : decode cS_coversSide 5 = .ok (.iaload, 1) := by decide +kernel
theorem dS_coversSide_6 : decode cS_coversSide 6 = .ok (.istore_n 3, 1) := by decide +kernel
theorem dS_coversSide_7 : decode cS_coversSide 7 = .ok (.aload_n 1, 1) := by decide +kernel
theorem dS_coversSide_8 : decode cS_coversSide 8 = .ok (.getfield 23, 3) := by decide +kernel
theorem dS_coversSide_11 : decode cS_coversSide 11 = .ok (.iload_n 2, 1) := by decide +kernel
theorem dS_coversSide_12 : decode cS_coversSide 12 = .ok (.laload, 1) := by decide +kernel
theorem dS_coversSide_13 : decode cS_coversSide 13 = .ok (.aload_n 1, 1) := by decide +kernel
theorem dS_coversSide_14 : decode cS_coversSide 14 = .ok (.getfield 23, 3) := by decide +kernel
theorem dS_coversSide_17 : decode cS_coversSide 17 = .ok (.iload_n 3, 1) := by decide +kernel
theorem dS_coversSide_18 : decode cS_coversSide 18 = .ok (.laload, 1) := by decide +kernel
theorem dS_coversSide_19 : decode cS_coversSide 19 = .ok (.lcmp, 1) := by decide +kernel
theorem dS_coversSide_20 : decode cS_coversSide 20 = .ok (.ifCond .eq 7, 3) := by decide +kernel
theorem dS_coversSide_23 : decode cS_coversSide 23 = .ok (.iconst 1, 1) := by decide +kernel
theorem dS_coversSide_24 : decode cS_coversSide 24 = .ok (.goto 4, 3) := by decide +kernel
theorem dS_coversSide_27 : decode cS_coversSide 27 = .ok (.iconst 0, 1) := by decide +kernel
theorem dS_coversSide_28 : decode cS_coversSide 28 = .ok (.istore 4, 2) := by decide +kernel
theorem dS_coversSide_30 : decode cS_coversSide 30 = .ok (.iload 4, 2) := by decide +kernel
theorem dS_coversSide_32 : decode cS_coversSide 32 = .ok (.ifCond .eq 12, 3) := by decide +kernel
theorem dS_coversSide_35 : decode cS_coversSide 35 = .ok (.aload_n 1, 1) := by decide +kernel
theorem dS_coversSide_36 : decode cS_coversSide 36 = .ok (.getfield 23, 3) := by decide +kernel
theorem dS_coversSide_39 : decode cS_coversSide 39 = .ok (.iload_n 2, 1) := by decide +kernel
theorem dS_coversSide_40 : decode cS_coversSide 40 = .ok (.laload, 1) := by decide +kernel
theorem dS_coversSide_41 : decode cS_coversSide 41 = .ok (.goto 9, 3) := by decide +kernel
theorem dS_coversSide_44 : decode cS_coversSide 44 = .ok (.aload_n 1, 1) := by decide +kernel
theorem dS_coversSide_45 : decode cS_coversSide 45 = .ok (.getfield 27, 3) := by decide +kernel
theorem dS_coversSide_48 : decode cS_coversSide 48 = .ok (.iload_n 2, 1) := by decide +kernel
theorem dS_coversSide_49 : decode cS_coversSide 49 = .ok (.laload, 1) := by decide +kernel
theorem dS_coversSide_50 : decode cS_coversSide 50 = .ok (.lstore 5, 2) := by decide +kernel
theorem dS_coversSide_52 : decode cS_coversSide 52 = .ok (.iload 4, 2) := by decide +kernel
theorem dS_coversSide_54 : decode cS_coversSide 54 = .ok (.ifCond .eq 12, 3) := by decide +kernel
theorem dS_coversSide_57 : decode cS_coversSide 57 = .ok (.aload_n 1, 1) := by decide +kernel
theorem dS_coversSide_58 : decode cS_coversSide 58 = .ok (.getfield 23, 3) := by decide +kernel
theorem dS_coversSide_61 : decode cS_coversSide 61 = .ok (.iload_n 3, 1) := by decide +kernel
theorem dS_coversSide_62 : decode cS_coversSide 62 = .ok (.laload, 1) := by decide +kernel
theorem dS_coversSide_63 : decode cS_coversSide 63 = .ok (.goto 9, 3) := by decide +kernel
theorem dS_coversSide_66 : decode cS_coversSide 66 = .ok (.aload_n 1, 1) := by decide +kernel
theorem dS_coversSide_67 : decode cS_coversSide 67 = .ok (.getfield 27, 3) := by decide +kernel
theorem dS_coversSide_70 : decode cS_coversSide 70 = .ok (.iload_n 3, 1) := by decide +kernel
theorem dS_coversSide_71 : decode cS_coversSide 71 = .ok (.laload, 1) := by decide +kernel
theorem dS_coversSide_72 : decode cS_coversSide 72 = .ok (.lstore 7, 2) := by decide +kernel
theorem dS_coversSide_74 : decode cS_coversSide 74 = .ok (.lload 5, 2) := by decide +kernel
theorem dS_coversSide_76 : decode cS_coversSide 76 = .ok (.lload 7, 2) := by decide +kernel
theorem dS_coversSide_78 : decode cS_coversSide 78 = .ok (.lcmp, 1) := by decide +kernel
theorem dS_coversSide_79 : decode cS_coversSide 79 = .ok (.ifCond .ne 29, 3) := by decide +kernel
theorem dS_coversSide_82 : decode cS_coversSide 82 = .ok (.aload_n 0, 1) := by decide +kernel
theorem dS_coversSide_83 : decode cS_coversSide 83 = .ok (.aload_n 1, 1) := by decide +kernel
theorem dS_coversSide_84 : decode cS_coversSide 84 = .ok (.getfield 23, 3) := by decide +kernel
theorem dS_coversSide_87 : decode cS_coversSide 87 = .ok (.iload_n 2, 1) := by decide +kernel
theorem dS_coversSide_88 : decode cS_coversSide 88 = .ok (.laload, 1) := by decide +kernel
theorem dS_coversSide_89 : decode cS_coversSide 89 = .ok (.aload_n 1, 1) := by decide +kernel
theorem dS_coversSide_90 : decode cS_coversSide 90 = .ok (.getfield 27, 3) := by decide +kernel
theorem dS_coversSide_93 : decode cS_coversSide 93 = .ok (.iload_n 2, 1) := by decide +kernel
theorem dS_coversSide_94 : decode cS_coversSide 94 = .ok (.laload, 1) := by decide +kernel
theorem dS_coversSide_95 : decode cS_coversSide 95 = .ok (.lconst 0, 1) := by decide +kernel
theorem dS_coversSide_96 : decode cS_coversSide 96 = .ok (.invokevirtual 102, 3) := by decide +kernel
theorem dS_coversSide_99 : decode cS_coversSide 99 = .ok (.ifCond .ne 7, 3) := by decide +kernel
theorem dS_coversSide_102 : decode cS_coversSide 102 = .ok (.iconst 1, 1) := by decide +kernel
theorem dS_coversSide_103 : decode cS_coversSide 103 = .ok (.goto 4, 3) := by decide +kernel
theorem dS_coversSide_106 : decode cS_coversSide 106 = .ok (.iconst 0, 1) := by decide +kernel
theorem dS_coversSide_107 : decode cS_coversSide 107 = .ok (.ireturn, 1) := by decide +kernel
theorem dS_coversSide_108 : decode cS_coversSide 108 = .ok (.lload 5, 2) := by decide +kernel
theorem dS_coversSide_110 : decode cS_coversSide 110 = .ok (.lload 7, 2) := by decide +kernel
theorem dS_coversSide_112 : decode cS_coversSide 112 = .ok (.invokestatic 69, 3) := by decide +kernel
theorem dS_coversSide_115 : decode cS_coversSide 115 = .ok (.lstore 9, 2) := by decide +kernel
theorem dS_coversSide_117 : decode cS_coversSide 117 = .ok (.lload 5, 2) := by decide +kernel
theorem dS_coversSide_119 : decode cS_coversSide 119 = .ok (.lload 7, 2) := by decide +kernel
theorem dS_coversSide_121 : decode cS_coversSide 121 = .ok (.invokestatic 63, 3) := by decide +kernel
theorem dS_coversSide_124 : decode cS_coversSide 124 = .ok (.lstore 11, 2) := by decide +kernel
theorem dS_coversSide_126 : decode cS_coversSide 126 = .ok (.iconst 0, 1) := by decide +kernel
theorem dS_coversSide_127 : decode cS_coversSide 127 = .ok (.istore 13, 2) := by decide +kernel
theorem dS_coversSide_129 : decode cS_coversSide 129 = .ok (.iload 13, 2) := by decide +kernel
theorem dS_coversSide_131 : decode cS_coversSide 131 = .ok (.aload_n 0, 1) := by decide +kernel
theorem dS_coversSide_132 : decode cS_coversSide 132 = .ok (.getfield 34, 3) := by decide +kernel
theorem dS_coversSide_135 : decode cS_coversSide 135 = .ok (.if_icmp .gt 29, 3) := by decide +kernel
theorem dS_coversSide_138 : decode cS_coversSide 138 = .ok (.lload 11, 2) := by decide +kernel
theorem dS_coversSide_140 : decode cS_coversSide 140 = .ok (.lload 9, 2) := by decide +kernel
theorem dS_coversSide_142 : decode cS_coversSide 142 = .ok (.lcmp, 1) := by decide +kernel
theorem dS_coversSide_143 : decode cS_coversSide 143 = .ok (.ifCond .ge 21, 3) := by decide +kernel
theorem dS_coversSide_146 : decode cS_coversSide 146 = .ok (.aload_n 0, 1) := by decide +kernel
theorem dS_coversSide_147 : decode cS_coversSide 147 = .ok (.lload 11, 2) := by decide +kernel
theorem dS_coversSide_149 : decode cS_coversSide 149 = .ok (.iload 4, 2) := by decide +kernel
theorem dS_coversSide_151 : decode cS_coversSide 151 = .ok (.aload_n 1, 1) := by decide +kernel
theorem dS_coversSide_152 : decode cS_coversSide 152 = .ok (.iload_n 2, 1) := by decide +kernel
theorem dS_coversSide_153 : decode cS_coversSide 153 = .ok (.invokevirtual 106, 3) := by decide +kernel
theorem dS_coversSide_156 : decode cS_coversSide 156 = .ok (.lstore 11, 2) := by decide +kernel
theorem dS_coversSide_158 : decode cS_coversSide 158 = .ok (.iinc 13 1, 3) := by decide +kernel
theorem dS_coversSide_161 : decode cS_coversSide 161 = .ok (.goto (-32), 3) := by decide +kernel
theorem dS_coversSide_164 : decode cS_coversSide 164 = .ok (.lload 11, 2) := by decide +kernel
theorem dS_coversSide_166 : decode cS_coversSide 166 = .ok (.lload 9, 2) := by decide +kernel
theorem dS_coversSide_168 : decode cS_coversSide 168 = .ok (.lcmp, 1) := by decide +kernel
theorem dS_coversSide_169 : decode cS_coversSide 169 = .ok (.ifCond .lt 7, 3) := by decide +kernel
theorem dS_coversSide_172 : decode cS_coversSide 172 = .ok (.iconst 1, 1) := by decide +kernel
theorem dS_coversSide_173 : decode cS_coversSide 173 = .ok (.goto 4, 3) := by decide +kernel
theorem dS_coversSide_176 : decode cS_coversSide 176 = .ok (.iconst 0, 1) := by decide +kernel
theorem dS_coversSide_177 : decode cS_coversSide 177 = .ok (.ireturn, 1) := by decide +kernel
def f_S_coversSide_j177 (v : SV) (w : SV) (s0 : Int32) : Option Int32 := rb s0
def f_S_coversSide_j164 (v : SV) (w : SV) (p9 : Int64) (p11 : Int64) : Option Int32 := (if (lg_cmp p11 p9) < 0 then (f_S_coversSide_j177 v w (0 : Int32)) else (f_S_coversSide_j177 v w (1 : Int32)))
def f_S_coversSide_l129 (v : SV) (w : SV) : Nat → Int32 → Int32 → Int64 → Int64 → Int32 → Option Int32
 | 0, _, _, _, _, _ => none
 | n + 1, p2, p4, p9, p11, p13 => (if (sN v) < p13 then (f_S_coversSide_j164 v w p9 p11) else (if 0 ≤ (lg_cmp p11 p9) then (f_S_coversSide_j164 v w p9 p11) else (f_S_coveredFrom v w p11 p4 p2).bind fun u20 => ((f_S_coversSide_l129 v w n) p2 p4 p9 u20 (p13 + 1))))
def f_S_coversSide_j107 (v : SV) (w : SV) (s0 : Int32) : Option Int32 := rb s0
def f_S_coversSide_j72 (v : SV) (w : SV) (p2 : Int32) (p4 : Int32) (p5 : Int64) (s0 : Int64) : Option Int32 := (if (lg_cmp p5 s0) = 0 then (ld 48 (sX w) p2).bind fun u14 => (ld 48 (sY w) p2).bind fun u15 => (f_S_compareToSides v u14 u15 (0 : Int64)).bind fun u16 => (if u16 = 0 then (f_S_coversSide_j107 v w (1 : Int32)) else (f_S_coversSide_j107 v w (0 : Int32))) else (some (if s0 < p5 then p5 else s0)).bind fun u12 => (some (if s0 < p5 then s0 else p5)).bind fun u13 => (f_S_coversSide_l129 v w 64 p2 p4 u12 u13 (0 : Int32)))
def f_S_coversSide_j50 (v : SV) (w : SV) (p2 : Int32) (p3 : Int32) (p4 : Int32) (s0 : Int64) : Option Int32 := (if p4 = 0 then (ld 48 (sY w) p3).bind fun u9 => (f_S_coversSide_j72 v w p2 p4 s0 u9) else (ld 48 (sX w) p3).bind fun u10 => (f_S_coversSide_j72 v w p2 p4 s0 u10))
def f_S_coversSide_j28 (v : SV) (w : SV) (p2 : Int32) (p3 : Int32) (s0 : Int32) : Option Int32 := (if s0 = 0 then (ld 48 (sY w) p2).bind fun u6 => (f_S_coversSide_j50 v w p2 p3 s0 u6) else (ld 48 (sX w) p2).bind fun u7 => (f_S_coversSide_j50 v w p2 p3 s0 u7))
def f_S_coversSide (v : SV) (w : SV) (x2 : Int32) : Option Int32 := (ld 48 (sE w) x2).bind fun u1 => (ld 48 (sX w) x2).bind fun u2 => (ld 48 (sX w) u1).bind fun u3 => (if (lg_cmp u2 u3) = 0 then (f_S_coversSide_j28 v w x2 u1 (0 : Int32)) else (f_S_coversSide_j28 v w x2 u1 (1 : Int32)))
set_option maxHeartbeats 4000000 in
set_option maxRecDepth 100000 in
theorem k_S_coversSide (l : Launch) (dC : Nat → ClassId) (dI : Nat → Nat → Nat) (cL cI : ClassId) (a ax ay ae : Nat) (v : SV) (o ox oy oe : Nat) (w : SV) (x2 : Int32) (r : Int32) (h : f_S_coversSide v w x2 = some r) : Met l yS_coversSide wsS_coversSide ({ frames := 4, cells := 0, slots := 0, locals := 129 }) (rd_Pc [.ref a, .ref o, .int x2] (fun H => va_P (dC, dI) cls3 (shW cL cI a ax ay ae v) H ∧ va_P (dC, dI) cls3 (shW cL cI o ox oy oe w) H) (dC, dI) cls3 [(cL, .long), (cI, .int)]) (vp_Si (fun z => z = r)) 0 0 (fun _ => False) := by
  refine Met.ofW (cc := cS_coversSide) (maxL := 14) (ret := (some .boolean)) (by decide) rfl ?_
  intro p e s m args below meth c s₁ B hml hv
  obtain ⟨rfl, ⟨hPa, hPo⟩, hK⟩ := hv
  have hx := B.exec
  have hb := B.bytes
  have hr := B.returns
  have hw : ∀ w ∈ wG, w.before ([.ref a, .ref o, .int x2] : List Value).toArray s = true := fun w hq => atoms_spec (ws := wsS_coversSide) B.pre w (List.mem_cons_of_mem _ hq)
  have hown : s.vm.findClass R_S = some m.cls := findClass_of_methodNamed B.named
  have hlocks := B.notSynchronized
  have hl := lv_entry ([.ref a, .ref o, .int x2] : List Value) (n := 14) (Nat.le_of_ble_eq_true rfl)
  rw [lg_entry_eq]
  generalize (lg_sl ([.ref a, .ref o, .int x2] : List Value) ++ List.replicate (14 - (lg_sl ([.ref a, .ref o, .int x2] : List Value)).length) Slot.unset).toArray = ls at hl ⊢
  have hl : lv_has ls 14 [(0, .ref a), (1, .ref o), (2, .int x2)] := hl
  have k177 : ∀ (s0 : Int32), f_S_coversSide_j177 v w s0 = some r →  ∀ (ls : Array Slot), lv_has ls 14 [] → W p l e (headSpec wsS_coversSide ({ frames := 4, cells := 0, slots := 0, locals := 129 })).room s m ([.ref a, .ref o, .int x2] : List Value).toArray below meth c s.heap [] 0 0 (MQ below (vp_Si (fun z => z = r)) ([.ref a, .ref o, .int x2] : List Value).toArray s 0 0 (fun _ => False)) (F0 m 177 ls [.int s0]) := by
    intro s0 h  ls hl
    unfold f_S_coversSide_j177 at h
    obtain ⟨hz, hr9⟩ := rb_of h
    exact W.zret hx hb hr hz (fun t ht hW => ⟨_, rfl, hr9, ht⟩) nil_locs dS_coversSide_177
  have k164 : ∀ (p9 : Int64) (p11 : Int64), f_S_coversSide_j164 v w p9 p11 = some r →  ∀ (ls : Array Slot), lv_has ls 14 [(9, .long p9), (11, .long p11)] → W p l e (headSpec wsS_coversSide ({ frames := 4, cells := 0, slots := 0, locals := 129 })).room s m ([.ref a, .ref o, .int x2] : List Value).toArray below meth c s.heap [] 0 0 (MQ below (vp_Si (fun z => z = r)) ([.ref a, .ref o, .int x2] : List Value).toArray s 0 0 (fun _ => False)) (F0 m 164 ls []) := by
    intro p9 p11 h  ls hl
    unfold f_S_coversSide_j164 at h
    refine lv_lload hx hb dS_coversSide_164 (lv_at hl 1 rfl) ?_
    refine lv_lload hx hb dS_coversSide_166 (lv_at hl 0 rfl) ?_
    refine W.lcmp hx hb dS_coversSide_168 ?_
    refine lv_if_lt (tgt := 176) hx hb dS_coversSide_169 (by decide) (fun c21 => ?_) (fun c21 => ?_)
    · have h := it_t c21 h
      refine lv_iconst (v := 0) hx hb dS_coversSide_176 (by decide) ?_
      exact k177 (0 : Int32) h ls (lv_sub hl [] rfl)
    · have h := it_f c21 h
      refine lv_iconst (v := 1) hx hb dS_coversSide_172 (by decide) ?_
      refine lv_goto (tgt := 177) hx hb dS_coversSide_173 (by decide) ?_
      exact k177 (1 : Int32) h ls (lv_sub hl [] rfl)
  have k129 : ∀ (n129 : Nat), ∀ (p2 : Int32) (p4 : Int32) (p9 : Int64) (p11 : Int64) (p13 : Int32), f_S_coversSide_l129 v w n129 p2 p4 p9 p11 p13 = some r →  ∀ (ls : Array Slot), lv_has ls 14 [(0, .ref a), (1, .ref o), (2, .int p2), (4, .int p4), (9, .long p9), (11, .long p11), (13, .int p13)] → W p l e (headSpec wsS_coversSide ({ frames := 4, cells := 0, slots := 0, locals := 129 })).room s m ([.ref a, .ref o, .int x2] : List Value).toArray below meth c s.heap [] 0 0 (MQ below (vp_Si (fun z => z = r)) ([.ref a, .ref o, .int x2] : List Value).toArray s 0 0 (fun _ => False)) (F0 m 129 ls []) := by
    intro n129
    induction n129 with
    | zero => intro p2 p4 p9 p11 p13 h; exact absurd h (by simp [f_S_coversSide_l129])
    | succ n129 ih129 =>
      intro p2 p4 p9 p11 p13 h  ls hl
      rw [f_S_coversSide_l129] at h
      refine lv_iload hx hb dS_coversSide_129 (lv_at hl 6 rfl) ?_
      refine lv_aload_n hx hb dS_coversSide_131 rfl (lv_at hl 0 rfl) ?_
      refine va_get (D := (dC, dI)) (ci := 0) (v := .int (sN v)) (C := R_S) (T := T_S) (N := 8) hx hb hw in_S hown hK hPa 0 rfl rfl 6 (by decide) (hw _ w_52) (fun _ h9 => h9) rfl dS_coversSide_132 ?_
      refine lv_icmp_gt (tgt := 164) hx hb dS_coversSide_135 (by decide) (fun c18 => ?_) (fun c18 => ?_)
      · have h := it_t c18 h
        exact k164 p9 p11 h ls (lv_sub hl [4, 5] rfl)
      · have h := it_f c18 h
        refine lv_lload hx hb dS_coversSide_138 (lv_at hl 5 rfl) ?_
        refine lv_lload hx hb dS_coversSide_140 (lv_at hl 4 rfl) ?_
        refine W.lcmp hx hb dS_coversSide_142 ?_
        refine lv_if_ge (tgt := 164) hx hb dS_coversSide_143 (by decide) (fun c19 => ?_) (fun c19 => ?_)
        · have h := it_t c19 h
          exact k164 p9 p11 h ls (lv_sub hl [4, 5] rfl)
        · have h := it_f c19 h
          refine lv_aload_n hx hb dS_coversSide_146 rfl (lv_at hl 0 rfl) ?_
          refine lv_lload hx hb dS_coversSide_147 (lv_at hl 5 rfl) ?_
          refine lv_iload hx hb dS_coversSide_149 (lv_at hl 3 rfl) ?_
          refine lv_aload_n hx hb dS_coversSide_151 rfl (lv_at hl 1 rfl) ?_
          refine lv_iload_n hx hb dS_coversSide_152 rfl (lv_at hl 2 rfl) ?_
          obtain ⟨u20, hu20, h⟩ := ob_some h
          refine vp_callSl (va_Run.run (va_runV (As := [.long p11, .int p4, .ref o, .int p2]) (rest := []) ⟨hx, hb, hml, hown, hw⟩ (k_S_coveredFrom l dC dI cL cI a ax ay ae v o ox oy oe w p11 p4 p2 u20 hu20) (cwV 4 hw (gV w_435 w_437 wp_5 w_7 w_438) rfl rfl rfl (by decide +kernel) ⟨Nat.le_of_ble_eq_true rfl, Nat.le_of_ble_eq_true rfl⟩) ⟨rd_blind, va_recv hK hPa (ci := 0) (q0 := 0) rfl rfl, rd_pre ⟨hPa, hPo⟩ hK⟩ rfl rfl hl.1 rfl (lv_room (Nat.le_of_ble_eq_true rfl)) dS_coversSide_153 ⟨Nat.le_of_ble_eq_true rfl, Nat.le_of_ble_eq_true rfl⟩)) (fun z hz => ?_)
          rw [hz]; clear hz
          refine lv_lstore (lv' := [(11, .long u20), (0, .ref a), (1, .ref o), (2, .int p2), (4, .int p4), (9, .long p9), (13, .int p13)]) hx hb dS_coversSide_156 hl (by decide) rfl (fun ls hl => ?_)
          refine lv_iinc (v := p13 + 1) (lv' := [(13, .int (p13 + 1)), (11, .long u20), (0, .ref a), (1, .ref o), (2, .int p2), (4, .int p4), (9, .long p9)]) hx hb dS_coversSide_158 hl (k := 6) rfl rfl (by decide) rfl (fun ls hl => ?_)
          refine lv_goto (tgt := 129) hx hb dS_coversSide_161 (by decide) ?_
          exact ih129 p2 p4 p9 u20 (p13 + 1) h ls (lv_sub hl [2, 3, 4, 5, 6, 1, 0] rfl)
  have k107 : ∀ (s0 : Int32), f_S_coversSide_j107 v w s0 = some r →  ∀ (ls : Array Slot), lv_has ls 14 [] → W p l e (headSpec wsS_coversSide ({ frames := 4, cells := 0, slots := 0, locals := 129 })).room s m ([.ref a, .ref o, .int x2] : List Value).toArray below meth c s.heap [] 0 0 (MQ below (vp_Si (fun z => z = r)) ([.ref a, .ref o, .int x2] : List Value).toArray s 0 0 (fun _ => False)) (F0 m 107 ls [.int s0]) := by
    intro s0 h  ls hl
    unfold f_S_coversSide_j107 at h
    obtain ⟨hz, hr9⟩ := rb_of h
    exact W.zret hx hb hr hz (fun t ht hW => ⟨_, rfl, hr9, ht⟩) nil_locs dS_coversSide_107
  have k72 : ∀ (p2 : Int32) (p4 : Int32) (p5 : Int64) (s0 : Int64), f_S_coversSide_j72 v w p2 p4 p5 s0 = some r →  ∀ (ls : Array Slot), lv_has ls 14 [(0, .ref a), (1, .ref o), (2, .int p2), (4, .int p4), (5, .long p5)] → W p l e (headSpec wsS_coversSide ({ frames := 4, cells := 0, slots := 0, locals := 129 })).room s m ([.ref a, .ref o, .int x2] : List Value).toArray below meth c s.heap [] 0 0 (MQ below (vp_Si (fun z => z = r)) ([.ref a, .ref o, .int x2] : List Value).toArray s 0 0 (fun _ => False)) (F0 m 72 ls [.long s0]) := by
    intro p2 p4 p5 s0 h  ls hl
    unfold f_S_coversSide_j72 at h
    refine lv_lstore (lv' := [(7, .long s0), (0, .ref a), (1, .ref o), (2, .int p2), (4, .int p4), (5, .long p5)]) hx hb dS_coversSide_72 hl (by decide) rfl (fun ls hl => ?_)
    refine lv_lload hx hb dS_coversSide_74 (lv_at hl 5 rfl) ?_
    refine lv_lload hx hb dS_coversSide_76 (lv_at hl 0 rfl) ?_
    refine W.lcmp hx hb dS_coversSide_78 ?_
    refine lv_if_ne (tgt := 108) hx hb dS_coversSide_79 (by decide) (fun c11 => ?_) (fun c11 => ?_)
    · have h := it_f c11 h
      refine lv_lload hx hb dS_coversSide_108 (lv_at hl 5 rfl) ?_
      refine lv_lload hx hb dS_coversSide_110 (lv_at hl 0 rfl) ?_
      obtain ⟨u12, hu12, h⟩ := ob_some h
      refine va_mmax_long hx hb (hml.trans hl.1.symm) hown (hw _ w_391) (hw _ w_282) (hw _ w_11) (hw _ wm_max_J) (Nat.le_of_ble_eq_true rfl) (Nat.le_of_ble_eq_true rfl) (Nat.le_of_ble_eq_true rfl) (Nat.le_of_ble_eq_true rfl) dS_coversSide_112 ?_
      rw [Option.some.inj hu12]
      refine lv_lstore (lv' := [(9, .long u12), (7, .long s0), (0, .ref a), (1, .ref o), (2, .int p2), (4, .int p4), (5, .long p5)]) hx hb dS_coversSide_115 hl (by decide) rfl (fun ls hl => ?_)
      refine lv_lload hx hb dS_coversSide_117 (lv_at hl 6 rfl) ?_
      refine lv_lload hx hb dS_coversSide_119 (lv_at hl 1 rfl) ?_
      obtain ⟨u13, hu13, h⟩ := ob_some h
      refine va_mmin_long hx hb (hml.trans hl.1.symm) hown (hw _ w_390) (hw _ w_279) (hw _ w_11) (hw _ wm_min_J) (Nat.le_of_ble_eq_true rfl) (Nat.le_of_ble_eq_true rfl) (Nat.le_of_ble_eq_true rfl) (Nat.le_of_ble_eq_true rfl) dS_coversSide_121 ?_
      rw [Option.some.inj hu13]
      refine lv_lstore (lv' := [(11, .long u13), (9, .long u12), (7, .long s0), (0, .ref a), (1, .ref o), (2, .int p2), (4, .int p4), (5, .long p5)]) hx hb dS_coversSide_124 hl (by decide) rfl (fun ls hl => ?_)
      refine lv_iconst (v := 0) hx hb dS_coversSide_126 (by decide) ?_
      refine lv_istore (lv' := [(13, .int (0 : Int32)), (11, .long u13), (9, .long u12), (7, .long s0), (0, .ref a), (1, .ref o), (2, .int p2), (4, .int p4), (5, .long p5)]) hx hb dS_coversSide_127 hl (by decide) rfl (fun ls hl => ?_)
      exact k129 64 p2 p4 u12 u13 (0 : Int32) h ls (lv_sub hl [4, 5, 6, 7, 2, 1, 0] rfl)
    · have h := it_t c11 h
      refine lv_aload_n hx hb dS_coversSide_82 rfl (lv_at hl 1 rfl) ?_
      refine lv_aload_n hx hb dS_coversSide_83 rfl (lv_at hl 2 rfl) ?_
      refine va_get (D := (dC, dI)) (ci := 0) (v := .ref ox) (C := R_S) (T := T_S) (N := 8) hx hb hw in_S hown hK hPo 0 rfl rfl 3 (by decide) (hw _ w_46) (fun _ h9 => h9) rfl dS_coversSide_84 ?_
      refine lv_iload_n hx hb dS_coversSide_87 rfl (lv_at hl 3 rfl) ?_
      obtain ⟨u14, hu14, h⟩ := ob_some h
      obtain ⟨hiu14, eu14⟩ := ld_of hu14
      refine va_lald hx hb hK hPo 1 0 rfl rfl hiu14 dS_coversSide_88 ?_
      rw [eu14]
      refine lv_aload_n hx hb dS_coversSide_89 rfl (lv_at hl 2 rfl) ?_
      refine va_get (D := (dC, dI)) (ci := 0) (v := .ref oy) (C := R_S) (T := T_S) (N := 8) hx hb hw in_S hown hK hPo 0 rfl rfl 4 (by decide) (hw _ w_48) (fun _ h9 => h9) rfl dS_coversSide_90 ?_
      refine lv_iload_n hx hb dS_coversSide_93 rfl (lv_at hl 3 rfl) ?_
      obtain ⟨u15, hu15, h⟩ := ob_some h
      obtain ⟨hiu15, eu15⟩ := ld_of hu15
      refine va_lald hx hb hK hPo 2 0 rfl rfl hiu15 dS_coversSide_94 ?_
      rw [eu15]
      refine lv_lconst (v := 0) hx hb dS_coversSide_95 (by decide) ?_
      obtain ⟨u16, hu16, h⟩ := ob_some h
      refine vp_callSi (va_Run.run (va_runV (As := [.long u14, .long u15, .long (0 : Int64)]) (rest := []) ⟨hx, hb, hml, hown, hw⟩ (k_S_compareToSides l dC dI cL cI a ax ay ae v u14 u15 (0 : Int64) u16 hu16) (cwV 3 hw (gV w_434 w_320 w_321 w_7 w_322) rfl rfl rfl (by decide +kernel) ⟨Nat.le_of_ble_eq_true rfl, Nat.le_of_ble_eq_true rfl⟩) ⟨rd_blind, va_recv hK hPa (ci := 0) (q0 := 0) rfl rfl, rd_pre hPa hK⟩ rfl rfl hl.1 rfl (lv_room (Nat.le_of_ble_eq_true rfl)) dS_coversSide_96 ⟨Nat.le_of_ble_eq_true rfl, Nat.le_of_ble_eq_true rfl⟩)) (fun z hz => ?_)
      rw [hz]; clear hz
      refine lv_if_ne (tgt := 106) hx hb dS_coversSide_99 (by decide) (fun c17 => ?_) (fun c17 => ?_)
      · have h := it_f c17 h
        refine lv_iconst (v := 0) hx hb dS_coversSide_106 (by decide) ?_
        exact k107 (0 : Int32) h ls (lv_sub hl [] rfl)
      · have h := it_t c17 h
        refine lv_iconst (v := 1) hx hb dS_coversSide_102 (by decide) ?_
        refine lv_goto (tgt := 107) hx hb dS_coversSide_103 (by decide) ?_
        exact k107 (1 : Int32) h ls (lv_sub hl [] rfl)
  have k50 : ∀ (p2 : Int32) (p3 : Int32) (p4 : Int32) (s0 : Int64), f_S_coversSide_j50 v w p2 p3 p4 s0 = some r →  ∀ (ls : Array Slot), lv_has ls 14 [(0, .ref a), (1, .ref o), (2, .int p2), (3, .int p3), (4, .int p4)] → W p l e (headSpec wsS_coversSide ({ frames := 4, cells := 0, slots := 0, locals := 129 })).room s m ([.ref a, .ref o, .int x2] : List Value).toArray below meth c s.heap [] 0 0 (MQ below (vp_Si (fun z => z = r)) ([.ref a, .ref o, .int x2] : List Value).toArray s 0 0 (fun _ => False)) (F0 m 50 ls [.long s0]) := by
    intro p2 p3 p4 s0 h  ls hl
    unfold f_S_coversSide_j50 at h
    refine lv_lstore (lv' := [(5, .long s0), (0, .ref a), (1, .ref o), (2, .int p2), (3, .int p3), (4, .int p4)]) hx hb dS_coversSide_50 hl (by decide) rfl (fun ls hl => ?_)
    refine lv_iload hx hb dS_coversSide_52 (lv_at hl 5 rfl) ?_
    refine lv_if_eq (tgt := 66) hx hb dS_coversSide_54 (by decide) (fun c8 => ?_) (fun c8 => ?_)
    · have h := it_t c8 h
      refine lv_aload_n hx hb dS_coversSide_66 rfl (lv_at hl 2 rfl) ?_
      refine va_get (D := (dC, dI)) (ci := 0) (v := .ref oy) (C := R_S) (T := T_S) (N := 8) hx hb hw in_S hown hK hPo 0 rfl rfl 4 (by decide) (hw _ w_48) (fun _ h9 => h9) rfl dS_coversSide_67 ?_
      refine lv_iload_n hx hb dS_coversSide_70 rfl (lv_at hl 4 rfl) ?_
      obtain ⟨u9, hu9, h⟩ := ob_some h
      obtain ⟨hiu9, eu9⟩ := ld_of hu9
      refine va_lald hx hb hK hPo 2 0 rfl rfl hiu9 dS_coversSide_71 ?_
      rw [eu9]
      exact k72 p2 p4 s0 u9 h ls (lv_sub hl [1, 2, 3, 5, 0] rfl)
    · have h := it_f c8 h
      refine lv_aload_n hx hb dS_coversSide_57 rfl (lv_at hl 2 rfl) ?_
      refine va_get (D := (dC, dI)) (ci := 0) (v := .ref ox) (C := R_S) (T := T_S) (N := 8) hx hb hw in_S hown hK hPo 0 rfl rfl 3 (by decide) (hw _ w_46) (fun _ h9 => h9) rfl dS_coversSide_58 ?_
      refine lv_iload_n hx hb dS_coversSide_61 rfl (lv_at hl 4 rfl) ?_
      obtain ⟨u10, hu10, h⟩ := ob_some h
      obtain ⟨hiu10, eu10⟩ := ld_of hu10
      refine va_lald hx hb hK hPo 1 0 rfl rfl hiu10 dS_coversSide_62 ?_
      rw [eu10]
      refine lv_goto (tgt := 72) hx hb dS_coversSide_63 (by decide) ?_
      exact k72 p2 p4 s0 u10 h ls (lv_sub hl [1, 2, 3, 5, 0] rfl)
  have k28 : ∀ (p2 : Int32) (p3 : Int32) (s0 : Int32), f_S_coversSide_j28 v w p2 p3 s0 = some r →  ∀ (ls : Array Slot), lv_has ls 14 [(0, .ref a), (1, .ref o), (2, .int p2), (3, .int p3)] → W p l e (headSpec wsS_coversSide ({ frames := 4, cells := 0, slots := 0, locals := 129 })).room s m ([.ref a, .ref o, .int x2] : List Value).toArray below meth c s.heap [] 0 0 (MQ below (vp_Si (fun z => z = r)) ([.ref a, .ref o, .int x2] : List Value).toArray s 0 0 (fun _ => False)) (F0 m 28 ls [.int s0]) := by
    intro p2 p3 s0 h  ls hl
    unfold f_S_coversSide_j28 at h
    refine lv_istore (lv' := [(4, .int s0), (0, .ref a), (1, .ref o), (2, .int p2), (3, .int p3)]) hx hb dS_coversSide_28 hl (by decide) rfl (fun ls hl => ?_)
    refine lv_iload hx hb dS_coversSide_30 (lv_at hl 0 rfl) ?_
    refine lv_if_eq (tgt := 44) hx hb dS_coversSide_32 (by decide) (fun c5 => ?_) (fun c5 => ?_)
    · have h := it_t c5 h
      refine lv_aload_n hx hb dS_coversSide_44 rfl (lv_at hl 2 rfl) ?_
      refine va_get (D := (dC, dI)) (ci := 0) (v := .ref oy) (C := R_S) (T := T_S) (N := 8) hx hb hw in_S hown hK hPo 0 rfl rfl 4 (by decide) (hw _ w_48) (fun _ h9 => h9) rfl dS_coversSide_45 ?_
      refine lv_iload_n hx hb dS_coversSide_48 rfl (lv_at hl 3 rfl) ?_
      obtain ⟨u6, hu6, h⟩ := ob_some h
      obtain ⟨hiu6, eu6⟩ := ld_of hu6
      refine va_lald hx hb hK hPo 2 0 rfl rfl hiu6 dS_coversSide_49 ?_
      rw [eu6]
      exact k50 p2 p3 s0 u6 h ls (lv_sub hl [1, 2, 3, 4, 0] rfl)
    · have h := it_f c5 h
      refine lv_aload_n hx hb dS_coversSide_35 rfl (lv_at hl 2 rfl) ?_
      refine va_get (D := (dC, dI)) (ci := 0) (v := .ref ox) (C := R_S) (T := T_S) (N := 8) hx hb hw in_S hown hK hPo 0 rfl rfl 3 (by decide) (hw _ w_46) (fun _ h9 => h9) rfl dS_coversSide_36 ?_
      refine lv_iload_n hx hb dS_coversSide_39 rfl (lv_at hl 3 rfl) ?_
      obtain ⟨u7, hu7, h⟩ := ob_some h
      obtain ⟨hiu7, eu7⟩ := ld_of hu7
      refine va_lald hx hb hK hPo 1 0 rfl rfl hiu7 dS_coversSide_40 ?_
      rw [eu7]
      refine lv_goto (tgt := 50) hx hb dS_coversSide_41 (by decide) ?_
      exact k50 p2 p3 s0 u7 h ls (lv_sub hl [1, 2, 3, 4, 0] rfl)
  unfold f_S_coversSide at h
  refine lv_aload_n hx hb dS_coversSide_0 rfl (lv_at hl 1 rfl) ?_
  refine va_get (D := (dC, dI)) (ci := 0) (v := .ref oe) (C := R_S) (T := T_S) (N := 8) hx hb hw in_S hown hK hPo 0 rfl rfl 5 (by decide) (hw _ w_50) (fun _ h9 => h9) rfl dS_coversSide_1 ?_
  refine lv_iload_n hx hb dS_coversSide_4 rfl (lv_at hl 2 rfl) ?_
  obtain ⟨u1, hu1, h⟩ := ob_some h
  obtain ⟨hiu1, eu1⟩ := ld_of hu1
  refine va_iald hx hb hK hPo 3 1 rfl rfl hiu1 dS_coversSide_5 ?_
  rw [eu1]
  refine lv_istore_n (lv' := [(3, .int u1), (0, .ref a), (1, .ref o), (2, .int x2)]) hx hb dS_coversSide_6 rfl hl (by decide) rfl (fun ls hl => ?_)
  refine lv_aload_n hx hb dS_coversSide_7 rfl (lv_at hl 2 rfl) ?_
  refine va_get (D := (dC, dI)) (ci := 0) (v := .ref ox) (C := R_S) (T := T_S) (N := 8) hx hb hw in_S hown hK hPo 0 rfl rfl 3 (by decide) (hw _ w_46) (fun _ h9 => h9) rfl dS_coversSide_8 ?_
  refine lv_iload_n hx hb dS_coversSide_11 rfl (lv_at hl 3 rfl) ?_
  obtain ⟨u2, hu2, h⟩ := ob_some h
  obtain ⟨hiu2, eu2⟩ := ld_of hu2
  refine va_lald hx hb hK hPo 1 0 rfl rfl hiu2 dS_coversSide_12 ?_
  rw [eu2]
  refine lv_aload_n hx hb dS_coversSide_13 rfl (lv_at hl 2 rfl) ?_
  refine va_get (D := (dC, dI)) (ci := 0) (v := .ref ox) (C := R_S) (T := T_S) (N := 8) hx hb hw in_S hown hK hPo 0 rfl rfl 3 (by decide) (hw _ w_46) (fun _ h9 => h9) rfl dS_coversSide_14 ?_
  refine lv_iload_n hx hb dS_coversSide_17 rfl (lv_at hl 0 rfl) ?_
  obtain ⟨u3, hu3, h⟩ := ob_some h
  obtain ⟨hiu3, eu3⟩ := ld_of hu3
  refine va_lald hx hb hK hPo 1 0 rfl rfl hiu3 dS_coversSide_18 ?_
  rw [eu3]
  refine W.lcmp hx hb dS_coversSide_19 ?_
  refine lv_if_eq (tgt := 27) hx hb dS_coversSide_20 (by decide) (fun c4 => ?_) (fun c4 => ?_)
  · have h := it_t c4 h
    refine lv_iconst (v := 0) hx hb dS_coversSide_27 (by decide) ?_
    exact k28 x2 u1 (0 : Int32) h ls (lv_sub hl [1, 2, 3, 0] rfl)
  · have h := it_f c4 h
    refine lv_iconst (v := 1) hx hb dS_coversSide_23 (by decide) ?_
    refine lv_goto (tgt := 28) hx hb dS_coversSide_24 (by decide) ?_
    exact k28 x2 u1 (1 : Int32) h ls (lv_sub hl [1, 2, 3, 0] rfl)
theorem dP_coversAll_0 : decode cP_coversAll 0 = .ok (.iconst 0, 1) := by decide +kernel
theorem dP_coversAll_1 : decode cP_coversAll 1 = .ok (.istore_n 2, 1) := by decide +kernel
theorem dP_coversAll_2 : decode cP_coversAll 2 = .ok (.iload_n 2, 1) := by decide +kernel
theorem dP_coversAll_3 : decode cP_coversAll 3 = .ok (.aload_n 1, 1) := by decide +kernel
theorem dP_coversAll_4 : decode cP_coversAll 4 = .ok (.getfield 29, 3) := by decide +kernel
theorem dP_coversAll_7 : decode cP_coversAll 7 = .ok (.if_icmp .ge 20, 3) := by decide +kernel
theorem dP_coversAll_10 : decode cP_coversAll 10 = .ok (.aload_n 0, 1) := by decide +kernel
theorem dP_coversAll_11 : decode cP_coversAll 11 = .ok (.aload_n 1, 1) := by decide +kernel
theorem dP_coversAll_12 : decode cP_coversAll 12 = .ok (.iload_n 2, 1) := by decide +kernel
theorem dP_coversAll_13 : decode cP_coversAll 13 = .ok (.invokevirtual 82, 3) := by decide +kernel
theorem dP_coversAll_16 : decode cP_coversAll 16 = .ok (.ifCond .ne 5, 3) := by decide +kernel
theorem dP_coversAll_19 : decode cP_coversAll 19 = .ok (.iconst 0, 1) := by decide +kernel
theorem dP_coversAll_20 : decode cP_coversAll 20 = .ok (.ireturn, 1) := by decide +kernel
theorem dP_coversAll_21 : decode cP_coversAll 21 = .ok (.iinc 2 1, 3) := by decide +kernel
theorem dP_coversAll_24 : decode cP_coversAll 24 = .ok (.goto (-22), 3) := by decide +kernel
theorem dP_coversAll_27 : decode cP_coversAll 27 = .ok (.iconst 1, 1) := by decide +kernel
theorem dP_coversAll_28 : decode cP_coversAll 28 = .ok (.ireturn, 1) := by decide +kernel
def f_P_coversAll_l2 (v : SV) (w : SV) : Nat → Int32 → Option Int32
 | 0, _ => none
 | n + 1, p2 => (if (sN w) ≤ p2 then rb (1 : Int32) else (f_S_coversSide v w p2).bind fun u2 => (if u2 = 0 then rb (0 : Int32) else ((f_P_coversAll_l2 v w n) (p2 + 1))))
def f_P_coversAll (v : SV) (w : SV) : Option Int32 := (f_P_coversAll_l2 v w 64 (0 : Int32))
set_option maxHeartbeats 4000000 in
set_option maxRecDepth 100000 in
theorem k_P_coversAll (l : Launch) (dC : Nat → ClassId) (dI : Nat → Nat → Nat) (cL cI : ClassId) (a ax ay ae : Nat) (v : SV) (o ox oy oe : Nat) (w : SV) (r : Int32) (h : f_P_coversAll v w = some r) : Met l yP_coversAll wsP_coversAll ({ frames := 5, cells := 0, slots := 0, locals := 162 }) (rd_Pc [.ref a, .ref o] (fun H => va_P (dC, dI) cls3 (shW cL cI a ax ay ae v) H ∧ va_P (dC, dI) cls3 (shW cL cI o ox oy oe w) H) (dC, dI) cls3 [(cL, .long), (cI, .int)]) (vp_Si (fun z => z = r)) 0 0 (fun _ => False) := by
  refine Met.ofW (cc := cP_coversAll) (maxL := 3) (ret := (some .boolean)) (by decide) rfl ?_
  intro p e s m args below meth c s₁ B hml hv
  obtain ⟨rfl, ⟨hPa, hPo⟩, hK⟩ := hv
  have hx := B.exec
  have hb := B.bytes
  have hr := B.returns
  have hw : ∀ w ∈ wG, w.before ([.ref a, .ref o] : List Value).toArray s = true := fun w hq => atoms_spec (ws := wsP_coversAll) B.pre w (List.mem_cons_of_mem _ hq)
  have hown : s.vm.findClass R_P = some m.cls := findClass_of_methodNamed B.named
  have hlocks := B.notSynchronized
  have hl := lv_entry ([.ref a, .ref o] : List Value) (n := 3) (Nat.le_of_ble_eq_true rfl)
  rw [lg_entry_eq]
  generalize (lg_sl ([.ref a, .ref o] : List Value) ++ List.replicate (3 - (lg_sl ([.ref a, .ref o] : List Value)).length) Slot.unset).toArray = ls at hl ⊢
  have hl : lv_has ls 3 [(0, .ref a), (1, .ref o)] := hl
  have k2 : ∀ (n2 : Nat), ∀ (p2 : Int32), f_P_coversAll_l2 v w n2 p2 = some r →  ∀ (ls : Array Slot), lv_has ls 3 [(0, .ref a), (1, .ref o), (2, .int p2)] → W p l e (headSpec wsP_coversAll ({ frames := 5, cells := 0, slots := 0, locals := 162 })).room s m ([.ref a, .ref o] : List Value).toArray below meth c s.heap [] 0 0 (MQ below (vp_Si (fun z => z = r)) ([.ref a, .ref o] : List Value).toArray s 0 0 (fun _ => False)) (F0 m 2 ls []) := by
    intro n2
    induction n2 with
    | zero => intro p2 h; exact absurd h (by simp [f_P_coversAll_l2])
    | succ n2 ih2 =>
      intro p2 h  ls hl
      rw [f_P_coversAll_l2] at h
      refine lv_iload_n hx hb dP_coversAll_2 rfl (lv_at hl 2 rfl) ?_
      refine lv_aload_n hx hb dP_coversAll_3 rfl (lv_at hl 1 rfl) ?_
      refine va_get (D := (dC, dI)) (ci := 0) (v := .int (sN w)) (C := R_S) (T := T_S) (N := 8) hx hb hw in_S hown hK hPo 0 rfl rfl 6 (by decide) (hw _ w_53) (fun _ h9 => h9) rfl dP_coversAll_4 ?_
      refine lv_icmp_ge (tgt := 27) hx hb dP_coversAll_7 (by decide) (fun c1 => ?_) (fun c1 => ?_)
      · have h := it_t c1 h
        refine lv_iconst (v := 1) hx hb dP_coversAll_27 (by decide) ?_
        obtain ⟨hz, hr9⟩ := rb_of h
        exact W.zret hx hb hr hz (fun t ht hW => ⟨_, rfl, hr9, ht⟩) nil_locs dP_coversAll_28
      · have h := it_f c1 h
        refine lv_aload_n hx hb dP_coversAll_10 rfl (lv_at hl 0 rfl) ?_
        refine lv_aload_n hx hb dP_coversAll_11 rfl (lv_at hl 1 rfl) ?_
        refine lv_iload_n hx hb dP_coversAll_12 rfl (lv_at hl 2 rfl) ?_
        obtain ⟨u2, hu2, h⟩ := ob_some h
        refine vp_callSi (va_Run.run (va_runV (As := [.ref o, .int p2]) (rest := []) ⟨hx, hb, hml, hown, hw⟩ (k_S_coversSide l dC dI cL cI a ax ay ae v o ox oy oe w p2 u2 hu2) (cwV 2 hw (gV w_430 w_431 w_432 w_7 w_433) rfl rfl rfl (by decide +kernel) ⟨Nat.le_of_ble_eq_true rfl, Nat.le_of_ble_eq_true rfl⟩) ⟨rd_blind, va_recv hK hPa (ci := 0) (q0 := 0) rfl rfl, rd_pre ⟨hPa, hPo⟩ hK⟩ rfl rfl hl.1 rfl (lv_room (Nat.le_of_ble_eq_true rfl)) dP_coversAll_13 ⟨Nat.le_of_ble_eq_true rfl, Nat.le_of_ble_eq_true rfl⟩)) (fun z hz => ?_)
        rw [hz]; clear hz
        refine lv_if_ne (tgt := 21) hx hb dP_coversAll_16 (by decide) (fun c3 => ?_) (fun c3 => ?_)
        · have h := it_f c3 h
          refine lv_iinc (v := p2 + 1) (lv' := [(2, .int (p2 + 1)), (0, .ref a), (1, .ref o)]) hx hb dP_coversAll_21 hl (k := 2) rfl rfl (by decide) rfl (fun ls hl => ?_)
          refine lv_goto (tgt := 2) hx hb dP_coversAll_24 (by decide) ?_
          exact ih2 (p2 + 1) h ls (lv_sub hl [1, 2, 0] rfl)
        · have h := it_t c3 h
          refine lv_iconst (v := 0) hx hb dP_coversAll_19 (by decide) ?_
          obtain ⟨hz, hr9⟩ := rb_of h
          exact W.zret hx hb hr hz (fun t ht hW => ⟨_, rfl, hr9, ht⟩) nil_locs dP_coversAll_20
  unfold f_P_coversAll at h
  refine lv_iconst (v := 0) hx hb dP_coversAll_0 (by decide) ?_
  refine lv_istore_n (lv' := [(2, .int (0 : Int32)), (0, .ref a), (1, .ref o)]) hx hb dP_coversAll_1 rfl hl (by decide) rfl (fun ls hl => ?_)
  exact k2 64 (0 : Int32) h ls (lv_sub hl [1, 2, 0] rfl)
theorem dP_haveOneCore_0 : decode cP_haveOneCore 0 = .ok (.aload_n 0, 1) := by decide +kernel
theorem dP_haveOneCore_1 : decode cP_haveOneCore 1 = .ok (.getfield 75, 3) := by decide +kernel
theorem dP_haveOneCore_4 : decode cP_haveOneCore 4 = .ok (.aload_n 1, 1) := by decide +kernel
theorem dP_haveOneCore_5 : decode cP_haveOneCore 5 = .ok (.getfield 75, 3) := by decide +kernel
theorem dP_haveOneCore_8 : decode cP_haveOneCore 8 = .ok (.if_icmp .ne 23, 3) := by decide +kernel
theorem dP_haveOneCore_11 : decode cP_haveOneCore 11 = .ok (.aload_n 0, 1) := by decide +kernel
theorem dP_haveOneCore_12 : decode cP_haveOneCore 12 = .ok (.aload_n 1, 1) := by decide +kernel
theorem dP_haveOneCore_13 : decode cP_haveOneCore 13 = .ok (.invokestatic 79, 3) := by decide +kernel
theorem dP_haveOneCore_16 : decode cP_haveOneCore 16 = .ok (.ifCond .eq 15, 3) := by decide +kernel
theorem dP_haveOneCore_19 : decode cP_haveOneCore 19 = .ok (.aload_n 1, 1) := by decide +kernel
theorem dP_haveOneCore_20 : decode cP_haveOneCore 20 = .ok (.aload_n 0, 1) := by decide +kernel
theorem dP_haveOneCore_21 : decode cP_haveOneCore 21 = .ok (.invokestatic 79, 3) := by decide +kernel
theorem dP_haveOneCore_24 : decode cP_haveOneCore 24 = .ok (.ifCond .eq 7, 3) := by decide +kernel
theorem dP_haveOneCore_27 : decode cP_haveOneCore 27 = .ok (.iconst 1, 1) := by decide +kernel
theorem dP_haveOneCore_28 : decode cP_haveOneCore 28 = .ok (.goto 4, 3) := by decide +kernel
theorem dP_haveOneCore_31 : decode cP_haveOneCore 31 = .ok (.iconst 0, 1) := by decide +kernel
theorem dP_haveOneCore_32 : decode cP_haveOneCore 32 = .ok (.ireturn, 1) := by decide +kernel
def f_P_haveOneCore_j32 (v : SV) (w : SV) (s0 : Int32) : Option Int32 := rb s0
def f_P_haveOneCore_j31 (v : SV) (w : SV) : Option Int32 := (f_P_haveOneCore_j32 v w (0 : Int32))
def f_P_haveOneCore (v : SV) (w : SV) : Option Int32 := (if (sB v) = (sB w) then (f_P_coversAll v w).bind fun u2 => (if u2 = 0 then (f_P_haveOneCore_j31 v w) else (f_P_coversAll w v).bind fun u4 => (if u4 = 0 then (f_P_haveOneCore_j31 v w) else (f_P_haveOneCore_j32 v w (1 : Int32)))) else (f_P_haveOneCore_j31 v w))
set_option maxHeartbeats 4000000 in
set_option maxRecDepth 100000 in
theorem k_P_haveOneCore (l : Launch) (dC : Nat → ClassId) (dI : Nat → Nat → Nat) (cL cI : ClassId) (a ax ay ae : Nat) (v : SV) (o ox oy oe : Nat) (w : SV) (r : Int32) (h : f_P_haveOneCore v w = some r) : Met l yP_haveOneCore wsP_haveOneCore ({ frames := 6, cells := 0, slots := 0, locals := 184 }) (rd_Pc [.ref a, .ref o] (fun H => va_P (dC, dI) cls3 (shW cL cI a ax ay ae v) H ∧ va_P (dC, dI) cls3 (shW cL cI o ox oy oe w) H) (dC, dI) cls3 [(cL, .long), (cI, .int)]) (vp_Si (fun z => z = r)) 0 0 (fun _ => False) := by
  refine Met.ofW (cc := cP_haveOneCore) (maxL := 2) (ret := (some .boolean)) (by decide) rfl ?_
  intro p e s m args below meth c s₁ B hml hv
  obtain ⟨rfl, ⟨hPa, hPo⟩, hK⟩ := hv
  have hx := B.exec
  have hb := B.bytes
  have hr := B.returns
  have hw : ∀ w ∈ wG, w.before ([.ref a, .ref o] : List Value).toArray s = true := fun w hq => atoms_spec (ws := wsP_haveOneCore) B.pre w (List.mem_cons_of_mem _ hq)
  have hown : s.vm.findClass R_P = some m.cls := findClass_of_methodNamed B.named
  have hlocks := B.notSynchronized
  have hl := lv_entry ([.ref a, .ref o] : List Value) (n := 2) (Nat.le_of_ble_eq_true rfl)
  rw [lg_entry_eq]
  generalize (lg_sl ([.ref a, .ref o] : List Value) ++ List.replicate (2 - (lg_sl ([.ref a, .ref o] : List Value)).length) Slot.unset).toArray = ls at hl ⊢
  have hl : lv_has ls 2 [(0, .ref a), (1, .ref o)] := hl
  have k32 : ∀ (s0 : Int32), f_P_haveOneCore_j32 v w s0 = some r →  ∀ (ls : Array Slot), lv_has ls 2 [] → W p l e (headSpec wsP_haveOneCore ({ frames := 6, cells := 0, slots := 0, locals := 184 })).room s m ([.ref a, .ref o] : List Value).toArray below meth c s.heap [] 0 0 (MQ below (vp_Si (fun z => z = r)) ([.ref a, .ref o] : List Value).toArray s 0 0 (fun _ => False)) (F0 m 32 ls [.int s0]) := by
    intro s0 h  ls hl
    unfold f_P_haveOneCore_j32 at h
    obtain ⟨hz, hr9⟩ := rb_of h
    exact W.zret hx hb hr hz (fun t ht hW => ⟨_, rfl, hr9, ht⟩) nil_locs dP_haveOneCore_32
  have k31 : f_P_haveOneCore_j31 v w = some r →  ∀ (ls : Array Slot), lv_has ls 2 [] → W p l e (headSpec wsP_haveOneCore ({ frames := 6, cells := 0, slots := 0, locals := 184 })).room s m ([.ref a, .ref o] : List Value).toArray below meth c s.heap [] 0 0 (MQ below (vp_Si (fun z => z = r)) ([.ref a, .ref o] : List Value).toArray s 0 0 (fun _ => False)) (F0 m 31 ls []) := by
    intro  h  ls hl
    unfold f_P_haveOneCore_j31 at h
    refine lv_iconst (v := 0) hx hb dP_haveOneCore_31 (by decide) ?_
    exact k32 (0 : Int32) h ls (lv_sub hl [] rfl)
  unfold f_P_haveOneCore at h
  refine lv_aload_n hx hb dP_haveOneCore_0 rfl (lv_at hl 0 rfl) ?_
  refine va_get (D := (dC, dI)) (ci := 0) (v := .int (sB v)) (C := R_S) (T := T_S) (N := 8) hx hb hw in_S hown hK hPa 0 rfl rfl 1 (by decide) (hw _ w_43) (fun _ h9 => h9) rfl dP_haveOneCore_1 ?_
  refine lv_aload_n hx hb dP_haveOneCore_4 rfl (lv_at hl 1 rfl) ?_
  refine va_get (D := (dC, dI)) (ci := 0) (v := .int (sB w)) (C := R_S) (T := T_S) (N := 8) hx hb hw in_S hown hK hPo 0 rfl rfl 1 (by decide) (hw _ w_43) (fun _ h9 => h9) rfl dP_haveOneCore_5 ?_
  refine lv_icmp_ne (tgt := 31) hx hb dP_haveOneCore_8 (by decide) (fun c1 => ?_) (fun c1 => ?_)
  · have h := it_f c1 h
    exact k31 h ls (lv_sub hl [] rfl)
  · have h := it_t c1 h
    refine lv_aload_n hx hb dP_haveOneCore_11 rfl (lv_at hl 0 rfl) ?_
    refine lv_aload_n hx hb dP_haveOneCore_12 rfl (lv_at hl 1 rfl) ?_
    obtain ⟨u2, hu2, h⟩ := ob_some h
    refine vp_callSi (va_Run.run (va_runS (As := [.ref a, .ref o]) (rest := []) ⟨hx, hb, hml, hown, hw⟩ (k_P_coversAll l dC dI cL cI a ax ay ae v o ox oy oe w u2 hu2) (va_cwS 2 hw (gS w_427 w_428 w_10 w_429) rfl rfl rfl (by decide +kernel) ⟨Nat.le_of_ble_eq_true rfl, Nat.le_of_ble_eq_true rfl⟩) ⟨rd_blind, rd_pre ⟨hPa, hPo⟩ hK⟩ rfl rfl hl.1 rfl (lv_room (Nat.le_of_ble_eq_true rfl)) dP_haveOneCore_13 ⟨Nat.le_of_ble_eq_true rfl, Nat.le_of_ble_eq_true rfl⟩)) (fun z hz => ?_)
    rw [hz]; clear hz
    refine lv_if_eq (tgt := 31) hx hb dP_haveOneCore_16 (by decide) (fun c3 => ?_) (fun c3 => ?_)
    · have h := it_t c3 h
      exact k31 h ls (lv_sub hl [] rfl)
    · have h := it_f c3 h
      refine lv_aload_n hx hb dP_haveOneCore_19 rfl (lv_at hl 1 rfl) ?_
      refine lv_aload_n hx hb dP_haveOneCore_20 rfl (lv_at hl 0 rfl) ?_
      obtain ⟨u4, hu4, h⟩ := ob_some h
      refine vp_callSi (va_Run.run (va_runS (As := [.ref o, .ref a]) (rest := []) ⟨hx, hb, hml, hown, hw⟩ (k_P_coversAll l dC dI cL cI o ox oy oe w a ax ay ae v u4 hu4) (va_cwS 2 hw (gS w_427 w_428 w_10 w_429) rfl rfl rfl (by decide +kernel) ⟨Nat.le_of_ble_eq_true rfl, Nat.le_of_ble_eq_true rfl⟩) ⟨rd_blind, rd_pre ⟨hPo, hPa⟩ hK⟩ rfl rfl hl.1 rfl (lv_room (Nat.le_of_ble_eq_true rfl)) dP_haveOneCore_21 ⟨Nat.le_of_ble_eq_true rfl, Nat.le_of_ble_eq_true rfl⟩)) (fun z hz => ?_)
      rw [hz]; clear hz
      refine lv_if_eq (tgt := 31) hx hb dP_haveOneCore_24 (by decide) (fun c5 => ?_) (fun c5 => ?_)
      · have h := it_t c5 h
        exact k31 h ls (lv_sub hl [] rfl)
      · have h := it_f c5 h
        refine lv_iconst (v := 1) hx hb dP_haveOneCore_27 (by decide) ?_
        refine lv_goto (tgt := 32) hx hb dP_haveOneCore_28 (by decide) ?_
        exact k32 (1 : Int32) h ls (lv_sub hl [] rfl)
end
section
/-! ShapeForms: isPlace, isLength -/
theorem dF_isPlace_0 : decode cF_isPlace 0 = .ok (.lload_n 0, 1) := by decide +kernel
theorem dF_isPlace_1 : decode cF_isPlace 1 = .ok (.ldc2_w 139, 3) := by decide +kernel
theorem dF_isPlace_4 : decode cF_isPlace 4 = .ok (.lcmp, 1) := by decide +kernel
theorem dF_isPlace_5 : decode cF_isPlace 5 = .ok (.ifCond .lt 31, 3) := by decide +kernel
theorem dF_isPlace_8 : decode cF_isPlace 8 = .ok (.lload_n 0, 1) := by decide +kernel
theorem dF_isPlace_9 : decode cF_isPlace 9 = .ok (.ldc2_w 141, 3) := by decide +kernel
theorem dF_isPlace_12 : decode cF_isPlace 12 = .ok (.lcmp, 1) := by decide +kernel
theorem dF_isPlace_13 : decode cF_isPlace 13 = .ok (.ifCond .gt 23, 3) := by decide +kernel
theorem dF_isPlace_16 : decode cF_isPlace 16 = .ok (.lload_n 2, 1) := by decide +kernel
theorem dF_isPlace_17 : decode cF_isPlace 17 = .ok (.ldc2_w 139, 3) := by decide +kernel
theorem dF_isPlace_20 : decode cF_isPlace 20 = .ok (.lcmp, 1) := by decide +kernel
theorem dF_isPlace_21 : decode cF_isPlace 21 = .ok (.ifCond .lt 15, 3) := by decide +kernel
theorem dF_isPlace_24 : decode cF_isPlace 24 = .ok (.lload_n 2, 1) := by decide +kernel
theorem dF_isPlace_25 : decode cF_isPlace 25 = .ok (.ldc2_w 141, 3) := by decide +kernel
theorem dF_isPlace_28 : decode cF_isPlace 28 = .ok (.lcmp, 1) := by decide +kernel
theorem dF_isPlace_29 : decode cF_isPlace 29 = .ok (.ifCond .gt 7, 3) := by decide +kernel
theorem dF_isPlace_32 : decode cF_isPlace 32 = .ok (.iconst 1, 1) := by decide +kernel
theorem dF_isPlace_33 : decode cF_isPlace 33 = .ok (.goto 4, 3) := by decide +kernel
theorem dF_isPlace_36 : decode cF_isPlace 36 = .ok (.iconst 0, 1) := by decide +kernel
theorem dF_isPlace_37 : decode cF_isPlace 37 = .ok (.ireturn, 1) := by decide +kernel
def f_F_isPlace_j37 (s0 : Int32) : Option Int32 := rb s0
def f_F_isPlace_j36 : Option Int32 := (f_F_isPlace_j37 (0 : Int32))
def f_F_isPlace (x0 : Int64) (x2 : Int64) : Option Int32 := (if (lg_cmp x0 (-500000000 : Int64)) < 0 then f_F_isPlace_j36 else (if 0 < (lg_cmp x0 (500000000 : Int64)) then f_F_isPlace_j36 else (if (lg_cmp x2 (-500000000 : Int64)) < 0 then f_F_isPlace_j36 else (if 0 < (lg_cmp x2 (500000000 : Int64)) then f_F_isPlace_j36 else (f_F_isPlace_j37 (1 : Int32))))))
set_option maxHeartbeats 4000000 in
set_option maxRecDepth 100000 in
theorem k_F_isPlace (l : Launch) (dC : Nat → ClassId) (dI : Nat → Nat → Nat) (cL cI : ClassId) (x0 : Int64) (x2 : Int64) (r : Int32) (h : f_F_isPlace x0 x2 = some r) : Met l yF_isPlace wsF_isPlace ({ frames := 0, cells := 0, slots := 0, locals := 0 }) (rd_Pc [.long x0, .long x2] (fun _ => True) (dC, dI) cls3 [(cL, .long), (cI, .int)]) (vp_Si (fun z => z = r)) 0 0 (fun _ => False) := by
  refine Met.ofW (cc := cF_isPlace) (maxL := 4) (ret := (some .boolean)) (by decide) rfl ?_
  intro p e s m args below meth c s₁ B hml hv
  obtain ⟨rfl, hF, hK⟩ := hv
  have hx := B.exec
  have hb := B.bytes
  have hr := B.returns
  have hw : ∀ w ∈ wG, w.before ([.long x0, .long x2] : List Value).toArray s = true := fun w hq => atoms_spec (ws := wsF_isPlace) B.pre w (List.mem_cons_of_mem _ hq)
  have hown : s.vm.findClass R_F = some m.cls := findClass_of_methodNamed B.named
  have hlocks := B.notSynchronized
  have hl := lv_entry ([.long x0, .long x2] : List Value) (n := 4) (Nat.le_of_ble_eq_true rfl)
  rw [lg_entry_eq]
  generalize (lg_sl ([.long x0, .long x2] : List Value) ++ List.replicate (4 - (lg_sl ([.long x0, .long x2] : List Value)).length) Slot.unset).toArray = ls at hl ⊢
  have hl : lv_has ls 4 [(0, .long x0), (2, .long x2)] := hl
  have k37 : ∀ (s0 : Int32), f_F_isPlace_j37 s0 = some r →  ∀ (ls : Array Slot), lv_has ls 4 [] → W p l e (headSpec wsF_isPlace ({ frames := 0, cells := 0, slots := 0, locals := 0 })).room s m ([.long x0, .long x2] : List Value).toArray below meth c s.heap [] 0 0 (MQ below (vp_Si (fun z => z = r)) ([.long x0, .long x2] : List Value).toArray s 0 0 (fun _ => False)) (F0 m 37 ls [.int s0]) := by
    intro s0 h  ls hl
    unfold f_F_isPlace_j37 at h
    obtain ⟨hz, hr9⟩ := rb_of h
    exact W.zret hx hb hr hz (fun t ht hW => ⟨_, rfl, hr9, ht⟩) nil_locs dF_isPlace_37
  have k36 : f_F_isPlace_j36 = some r →  ∀ (ls : Array Slot), lv_has ls 4 [] → W p l e (headSpec wsF_isPlace ({ frames := 0, cells := 0, slots := 0, locals := 0 })).room s m ([.long x0, .long x2] : List Value).toArray below meth c s.heap [] 0 0 (MQ below (vp_Si (fun z => z = r)) ([.long x0, .long x2] : List Value).toArray s 0 0 (fun _ => False)) (F0 m 36 ls []) := by
    intro  h  ls hl
    unfold f_F_isPlace_j36 at h
    refine lv_iconst (v := 0) hx hb dF_isPlace_36 (by decide) ?_
    exact k37 (0 : Int32) h ls (lv_sub hl [] rfl)
  unfold f_F_isPlace at h
  refine lv_lload_n hx hb dF_isPlace_0 rfl (lv_at hl 0 rfl) ?_
  refine lv_ldc2 (v := (-500000000)) hx hb hown (hw _ w_92) dF_isPlace_1 ?_
  refine W.lcmp hx hb dF_isPlace_4 ?_
  refine lv_if_lt (tgt := 36) hx hb dF_isPlace_5 (by decide) (fun c1 => ?_) (fun c1 => ?_)
  · have h := it_t c1 h
    exact k36 h ls (lv_sub hl [] rfl)
  · have h := it_f c1 h
    refine lv_lload_n hx hb dF_isPlace_8 rfl (lv_at hl 0 rfl) ?_
    refine lv_ldc2 (v := 500000000) hx hb hown (hw _ w_93) dF_isPlace_9 ?_
    refine W.lcmp hx hb dF_isPlace_12 ?_
    refine lv_if_gt (tgt := 36) hx hb dF_isPlace_13 (by decide) (fun c2 => ?_) (fun c2 => ?_)
    · have h := it_t c2 h
      exact k36 h ls (lv_sub hl [] rfl)
    · have h := it_f c2 h
      refine lv_lload_n hx hb dF_isPlace_16 rfl (lv_at hl 1 rfl) ?_
      refine lv_ldc2 (v := (-500000000)) hx hb hown (hw _ w_92) dF_isPlace_17 ?_
      refine W.lcmp hx hb dF_isPlace_20 ?_
      refine lv_if_lt (tgt := 36) hx hb dF_isPlace_21 (by decide) (fun c3 => ?_) (fun c3 => ?_)
      · have h := it_t c3 h
        exact k36 h ls (lv_sub hl [] rfl)
      · have h := it_f c3 h
        refine lv_lload_n hx hb dF_isPlace_24 rfl (lv_at hl 1 rfl) ?_
        refine lv_ldc2 (v := 500000000) hx hb hown (hw _ w_93) dF_isPlace_25 ?_
        refine W.lcmp hx hb dF_isPlace_28 ?_
        refine lv_if_gt (tgt := 36) hx hb dF_isPlace_29 (by decide) (fun c4 => ?_) (fun c4 => ?_)
        · have h := it_t c4 h
          exact k36 h ls (lv_sub hl [] rfl)
        · have h := it_f c4 h
          refine lv_iconst (v := 1) hx hb dF_isPlace_32 (by decide) ?_
          refine lv_goto (tgt := 37) hx hb dF_isPlace_33 (by decide) ?_
          exact k37 (1 : Int32) h ls (lv_sub hl [] rfl)
theorem dF_isLength_0 : decode cF_isLength 0 = .ok (.lload_n 0, 1) := by decide +kernel
theorem dF_isLength_1 : decode cF_isLength 1 = .ok (.lconst 0, 1) := by decide +kernel
theorem dF_isLength_2 : decode cF_isLength 2 = .ok (.lcmp, 1) := by decide +kernel
theorem dF_isLength_3 : decode cF_isLength 3 = .ok (.ifCond .lt 15, 3) := by decide +kernel
theorem dF_isLength_6 : decode cF_isLength 6 = .ok (.lload_n 0, 1) := by decide +kernel
theorem dF_isLength_7 : decode cF_isLength 7 = .ok (.ldc2_w 82, 3) := by decide +kernel
theorem dF_isLength_10 : decode cF_isLength 10 = .ok (.lcmp, 1) := by decide +kernel
theorem dF_isLength_11 : decode cF_isLength 11 = .ok (.ifCond .gt 7, 3) := by decide +kernel
theorem dF_isLength_14 : decode cF_isLength 14 = .ok (.iconst 1, 1) := by decide +kernel
theorem dF_isLength_15 : decode cF_isLength 15 = .ok (.goto 4, 3) := by decide +kernel
theorem dF_isLength_18 : decode cF_isLength 18 = .ok (.iconst 0, 1) := by decide +kernel
theorem dF_isLength_19 : decode cF_isLength 19 = .ok (.ireturn, 1) := by decide +kernel
def f_F_isLength_j19 (s0 : Int32) : Option Int32 := rb s0
def f_F_isLength_j18 : Option Int32 := (f_F_isLength_j19 (0 : Int32))
def f_F_isLength (x0 : Int64) : Option Int32 := (if (lg_cmp x0 (0 : Int64)) < 0 then f_F_isLength_j18 else (if 0 < (lg_cmp x0 (1000000000 : Int64)) then f_F_isLength_j18 else (f_F_isLength_j19 (1 : Int32))))
set_option maxHeartbeats 4000000 in
set_option maxRecDepth 100000 in
theorem k_F_isLength (l : Launch) (dC : Nat → ClassId) (dI : Nat → Nat → Nat) (cL cI : ClassId) (x0 : Int64) (r : Int32) (h : f_F_isLength x0 = some r) : Met l yF_isLength wsF_isLength ({ frames := 0, cells := 0, slots := 0, locals := 0 }) (rd_Pc [.long x0] (fun _ => True) (dC, dI) cls3 [(cL, .long), (cI, .int)]) (vp_Si (fun z => z = r)) 0 0 (fun _ => False) := by
  refine Met.ofW (cc := cF_isLength) (maxL := 2) (ret := (some .boolean)) (by decide) rfl ?_
  intro p e s m args below meth c s₁ B hml hv
  obtain ⟨rfl, hF, hK⟩ := hv
  have hx := B.exec
  have hb := B.bytes
  have hr := B.returns
  have hw : ∀ w ∈ wG, w.before ([.long x0] : List Value).toArray s = true := fun w hq => atoms_spec (ws := wsF_isLength) B.pre w (List.mem_cons_of_mem _ hq)
  have hown : s.vm.findClass R_F = some m.cls := findClass_of_methodNamed B.named
  have hlocks := B.notSynchronized
  have hl := lv_entry ([.long x0] : List Value) (n := 2) (Nat.le_of_ble_eq_true rfl)
  rw [lg_entry_eq]
  generalize (lg_sl ([.long x0] : List Value) ++ List.replicate (2 - (lg_sl ([.long x0] : List Value)).length) Slot.unset).toArray = ls at hl ⊢
  have hl : lv_has ls 2 [(0, .long x0)] := hl
  have k19 : ∀ (s0 : Int32), f_F_isLength_j19 s0 = some r →  ∀ (ls : Array Slot), lv_has ls 2 [] → W p l e (headSpec wsF_isLength ({ frames := 0, cells := 0, slots := 0, locals := 0 })).room s m ([.long x0] : List Value).toArray below meth c s.heap [] 0 0 (MQ below (vp_Si (fun z => z = r)) ([.long x0] : List Value).toArray s 0 0 (fun _ => False)) (F0 m 19 ls [.int s0]) := by
    intro s0 h  ls hl
    unfold f_F_isLength_j19 at h
    obtain ⟨hz, hr9⟩ := rb_of h
    exact W.zret hx hb hr hz (fun t ht hW => ⟨_, rfl, hr9, ht⟩) nil_locs dF_isLength_19
  have k18 : f_F_isLength_j18 = some r →  ∀ (ls : Array Slot), lv_has ls 2 [] → W p l e (headSpec wsF_isLength ({ frames := 0, cells := 0, slots := 0, locals := 0 })).room s m ([.long x0] : List Value).toArray below meth c s.heap [] 0 0 (MQ below (vp_Si (fun z => z = r)) ([.long x0] : List Value).toArray s 0 0 (fun _ => False)) (F0 m 18 ls []) := by
    intro  h  ls hl
    unfold f_F_isLength_j18 at h
    refine lv_iconst (v := 0) hx hb dF_isLength_18 (by decide) ?_
    exact k19 (0 : Int32) h ls (lv_sub hl [] rfl)
  unfold f_F_isLength at h
  refine lv_lload_n hx hb dF_isLength_0 rfl (lv_at hl 0 rfl) ?_
  refine lv_lconst (v := 0) hx hb dF_isLength_1 (by decide) ?_
  refine W.lcmp hx hb dF_isLength_2 ?_
  refine lv_if_lt (tgt := 18) hx hb dF_isLength_3 (by decide) (fun c1 => ?_) (fun c1 => ?_)
  · have h := it_t c1 h
    exact k18 h ls (lv_sub hl [] rfl)
  · have h := it_f c1 h
    refine lv_lload_n hx hb dF_isLength_6 rfl (lv_at hl 0 rfl) ?_
    refine lv_ldc2 (v := 1000000000) hx hb hown (hw _ w_168) dF_isLength_7 ?_
    refine W.lcmp hx hb dF_isLength_10 ?_
    refine lv_if_gt (tgt := 18) hx hb dF_isLength_11 (by decide) (fun c2 => ?_) (fun c2 => ?_)
    · have h := it_t c2 h
      exact k18 h ls (lv_sub hl [] rfl)
    · have h := it_f c2 h
      refine lv_iconst (v := 1) hx hb dF_isLength_14 (by decide) ?_
      refine lv_goto (tgt := 19) hx hb dF_isLength_15 (by decide) ?_
      exact k19 (1 : Int32) h ls (lv_sub hl [] rfl)
end
section
/-! the reference's object as a value: its fields in their order; its cells; calls of methods that write it -/
abbrev MV : Type := Int32 × Int32 × (Nat → Int32) × (Nat → Int64) × (Nat → Int64) × (Nat → Int64) × (Nat → Int32) × (Nat → Int32) × (Nat → Int32) × (Nat → Int64) × (Nat → Int64) × (Nat → Int64) × (Nat → Int64) × (Nat → Int32) × (Nat → Int64)
def md_thrown (v : MV) : Int32 := v.1
def md_shapes (v : MV) : Int32 := v.2.1
def md_kinds (v : MV) : Nat → Int32 := v.2.2.1
def md_radii (v : MV) : Nat → Int64 := v.2.2.2.1
def md_cornerX (v : MV) : Nat → Int64 := v.2.2.2.2.1
def md_cornerY (v : MV) : Nat → Int64 := v.2.2.2.2.2.1
def md_many (v : MV) : Nat → Int32 := v.2.2.2.2.2.2.1
def md_ends (v : MV) : Nat → Int32 := v.2.2.2.2.2.2.2.1
def md_rings (v : MV) : Nat → Int32 := v.2.2.2.2.2.2.2.2.1
def md_ax (v : MV) : Nat → Int64 := v.2.2.2.2.2.2.2.2.2.1
def md_ay (v : MV) : Nat → Int64 := v.2.2.2.2.2.2.2.2.2.2.1
def md_bx (v : MV) : Nat → Int64 := v.2.2.2.2.2.2.2.2.2.2.2.1
def md_by (v : MV) : Nat → Int64 := v.2.2.2.2.2.2.2.2.2.2.2.2.1
def md_size (v : MV) : Nat → Int32 := v.2.2.2.2.2.2.2.2.2.2.2.2.2.1
def md_digits (v : MV) : Nat → Int64 := v.2.2.2.2.2.2.2.2.2.2.2.2.2.2
def ms_thrown (v : MV) (x : Int32) : MV := (x, v.2.1, v.2.2.1, v.2.2.2.1, v.2.2.2.2.1, v.2.2.2.2.2.1, v.2.2.2.2.2.2.1, v.2.2.2.2.2.2.2.1, v.2.2.2.2.2.2.2.2.1, v.2.2.2.2.2.2.2.2.2.1, v.2.2.2.2.2.2.2.2.2.2.1, v.2.2.2.2.2.2.2.2.2.2.2.1, v.2.2.2.2.2.2.2.2.2.2.2.2.1, v.2.2.2.2.2.2.2.2.2.2.2.2.2.1, v.2.2.2.2.2.2.2.2.2.2.2.2.2.2)
def ms_shapes (v : MV) (x : Int32) : MV := (v.1, x, v.2.2.1, v.2.2.2.1, v.2.2.2.2.1, v.2.2.2.2.2.1, v.2.2.2.2.2.2.1, v.2.2.2.2.2.2.2.1, v.2.2.2.2.2.2.2.2.1, v.2.2.2.2.2.2.2.2.2.1, v.2.2.2.2.2.2.2.2.2.2.1, v.2.2.2.2.2.2.2.2.2.2.2.1, v.2.2.2.2.2.2.2.2.2.2.2.2.1, v.2.2.2.2.2.2.2.2.2.2.2.2.2.1, v.2.2.2.2.2.2.2.2.2.2.2.2.2.2)
def ms_kinds (v : MV) (x : Nat → Int32) : MV := (v.1, v.2.1, x, v.2.2.2.1, v.2.2.2.2.1, v.2.2.2.2.2.1, v.2.2.2.2.2.2.1, v.2.2.2.2.2.2.2.1, v.2.2.2.2.2.2.2.2.1, v.2.2.2.2.2.2.2.2.2.1, v.2.2.2.2.2.2.2.2.2.2.1, v.2.2.2.2.2.2.2.2.2.2.2.1, v.2.2.2.2.2.2.2.2.2.2.2.2.1, v.2.2.2.2.2.2.2.2.2.2.2.2.2.1, v.2.2.2.2.2.2.2.2.2.2.2.2.2.2)
def ms_radii (v : MV) (x : Nat → Int64) : MV := (v.1, v.2.1, v.2.2.1, x, v.2.2.2.2.1, v.2.2.2.2.2.1, v.2.2.2.2.2.2.1, v.2.2.2.2.2.2.2.1, v.2.2.2.2.2.2.2.2.1, v.2.2.2.2.2.2.2.2.2.1, v.2.2.2.2.2.2.2.2.2.2.1, v.2.2.2.2.2.2.2.2.2.2.2.1, v.2.2.2.2.2.2.2.2.2.2.2.2.1, v.2.2.2.2.2.2.2.2.2.2.2.2.2.1, v.2.2.2.2.2.2.2.2.2.2.2.2.2.2)
def ms_cornerX (v : MV) (x : Nat → Int64) : MV := (v.1, v.2.1, v.2.2.1, v.2.2.2.1, x, v.2.2.2.2.2.1, v.2.2.2.2.2.2.1, v.2.2.2.2.2.2.2.1, v.2.2.2.2.2.2.2.2.1, v.2.2.2.2.2.2.2.2.2.1, v.2.2.2.2.2.2.2.2.2.2.1, v.2.2.2.2.2.2.2.2.2.2.2.1, v.2.2.2.2.2.2.2.2.2.2.2.2.1, v.2.2.2.2.2.2.2.2.2.2.2.2.2.1, v.2.2.2.2.2.2.2.2.2.2.2.2.2.2)
def ms_cornerY (v : MV) (x : Nat → Int64) : MV := (v.1, v.2.1, v.2.2.1, v.2.2.2.1, v.2.2.2.2.1, x, v.2.2.2.2.2.2.1, v.2.2.2.2.2.2.2.1, v.2.2.2.2.2.2.2.2.1, v.2.2.2.2.2.2.2.2.2.1, v.2.2.2.2.2.2.2.2.2.2.1, v.2.2.2.2.2.2.2.2.2.2.2.1, v.2.2.2.2.2.2.2.2.2.2.2.2.1, v.2.2.2.2.2.2.2.2.2.2.2.2.2.1, v.2.2.2.2.2.2.2.2.2.2.2.2.2.2)
def ms_many (v : MV) (x : Nat → Int32) : MV := (v.1, v.2.1, v.2.2.1, v.2.2.2.1, v.2.2.2.2.1, v.2.2.2.2.2.1, x, v.2.2.2.2.2.2.2.1, v.2.2.2.2.2.2.2.2.1, v.2.2.2.2.2.2.2.2.2.1, v.2.2.2.2.2.2.2.2.2.2.1, v.2.2.2.2.2.2.2.2.2.2.2.1, v.2.2.2.2.2.2.2.2.2.2.2.2.1, v.2.2.2.2.2.2.2.2.2.2.2.2.2.1, v.2.2.2.2.2.2.2.2.2.2.2.2.2.2)
def ms_ends (v : MV) (x : Nat → Int32) : MV := (v.1, v.2.1, v.2.2.1, v.2.2.2.1, v.2.2.2.2.1, v.2.2.2.2.2.1, v.2.2.2.2.2.2.1, x, v.2.2.2.2.2.2.2.2.1, v.2.2.2.2.2.2.2.2.2.1, v.2.2.2.2.2.2.2.2.2.2.1, v.2.2.2.2.2.2.2.2.2.2.2.1, v.2.2.2.2.2.2.2.2.2.2.2.2.1, v.2.2.2.2.2.2.2.2.2.2.2.2.2.1, v.2.2.2.2.2.2.2.2.2.2.2.2.2.2)
def ms_rings (v : MV) (x : Nat → Int32) : MV := (v.1, v.2.1, v.2.2.1, v.2.2.2.1, v.2.2.2.2.1, v.2.2.2.2.2.1, v.2.2.2.2.2.2.1, v.2.2.2.2.2.2.2.1, x, v.2.2.2.2.2.2.2.2.2.1, v.2.2.2.2.2.2.2.2.2.2.1, v.2.2.2.2.2.2.2.2.2.2.2.1, v.2.2.2.2.2.2.2.2.2.2.2.2.1, v.2.2.2.2.2.2.2.2.2.2.2.2.2.1, v.2.2.2.2.2.2.2.2.2.2.2.2.2.2)
def ms_ax (v : MV) (x : Nat → Int64) : MV := (v.1, v.2.1, v.2.2.1, v.2.2.2.1, v.2.2.2.2.1, v.2.2.2.2.2.1, v.2.2.2.2.2.2.1, v.2.2.2.2.2.2.2.1, v.2.2.2.2.2.2.2.2.1, x, v.2.2.2.2.2.2.2.2.2.2.1, v.2.2.2.2.2.2.2.2.2.2.2.1, v.2.2.2.2.2.2.2.2.2.2.2.2.1, v.2.2.2.2.2.2.2.2.2.2.2.2.2.1, v.2.2.2.2.2.2.2.2.2.2.2.2.2.2)
def ms_ay (v : MV) (x : Nat → Int64) : MV := (v.1, v.2.1, v.2.2.1, v.2.2.2.1, v.2.2.2.2.1, v.2.2.2.2.2.1, v.2.2.2.2.2.2.1, v.2.2.2.2.2.2.2.1, v.2.2.2.2.2.2.2.2.1, v.2.2.2.2.2.2.2.2.2.1, x, v.2.2.2.2.2.2.2.2.2.2.2.1, v.2.2.2.2.2.2.2.2.2.2.2.2.1, v.2.2.2.2.2.2.2.2.2.2.2.2.2.1, v.2.2.2.2.2.2.2.2.2.2.2.2.2.2)
def ms_bx (v : MV) (x : Nat → Int64) : MV := (v.1, v.2.1, v.2.2.1, v.2.2.2.1, v.2.2.2.2.1, v.2.2.2.2.2.1, v.2.2.2.2.2.2.1, v.2.2.2.2.2.2.2.1, v.2.2.2.2.2.2.2.2.1, v.2.2.2.2.2.2.2.2.2.1, v.2.2.2.2.2.2.2.2.2.2.1, x, v.2.2.2.2.2.2.2.2.2.2.2.2.1, v.2.2.2.2.2.2.2.2.2.2.2.2.2.1, v.2.2.2.2.2.2.2.2.2.2.2.2.2.2)
def ms_by (v : MV) (x : Nat → Int64) : MV := (v.1, v.2.1, v.2.2.1, v.2.2.2.1, v.2.2.2.2.1, v.2.2.2.2.2.1, v.2.2.2.2.2.2.1, v.2.2.2.2.2.2.2.1, v.2.2.2.2.2.2.2.2.1, v.2.2.2.2.2.2.2.2.2.1, v.2.2.2.2.2.2.2.2.2.2.1, v.2.2.2.2.2.2.2.2.2.2.2.1, x, v.2.2.2.2.2.2.2.2.2.2.2.2.2.1, v.2.2.2.2.2.2.2.2.2.2.2.2.2.2)
def ms_size (v : MV) (x : Nat → Int32) : MV := (v.1, v.2.1, v.2.2.1, v.2.2.2.1, v.2.2.2.2.1, v.2.2.2.2.2.1, v.2.2.2.2.2.2.1, v.2.2.2.2.2.2.2.1, v.2.2.2.2.2.2.2.2.1, v.2.2.2.2.2.2.2.2.2.1, v.2.2.2.2.2.2.2.2.2.2.1, v.2.2.2.2.2.2.2.2.2.2.2.1, v.2.2.2.2.2.2.2.2.2.2.2.2.1, x, v.2.2.2.2.2.2.2.2.2.2.2.2.2.2)
def ms_digits (v : MV) (x : Nat → Int64) : MV := (v.1, v.2.1, v.2.2.1, v.2.2.2.1, v.2.2.2.2.1, v.2.2.2.2.2.1, v.2.2.2.2.2.2.1, v.2.2.2.2.2.2.2.1, v.2.2.2.2.2.2.2.2.1, v.2.2.2.2.2.2.2.2.2.1, v.2.2.2.2.2.2.2.2.2.2.1, v.2.2.2.2.2.2.2.2.2.2.2.1, v.2.2.2.2.2.2.2.2.2.2.2.2.1, v.2.2.2.2.2.2.2.2.2.2.2.2.2.1, x)
def mdW (cL cI : ClassId) (q : Nat → Nat) (v : MV) : va_W := [(q 0, .inr (2, [.int (md_thrown v), .int (md_shapes v), .ref (q 1), .ref (q 2), .ref (q 3), .ref (q 4), .ref (q 5), .ref (q 6), .ref (q 7), .ref (q 8), .ref (q 9), .ref (q 10), .ref (q 11), .ref (q 12), .ref (q 13)])), (q 1, .inl (cI, 40, .inl (md_kinds v))), (q 2, .inl (cL, 40, .inr (.inl (md_radii v)))), (q 3, .inl (cL, 1920, .inr (.inl (md_cornerX v)))), (q 4, .inl (cL, 1920, .inr (.inl (md_cornerY v)))), (q 5, .inl (cI, 40, .inl (md_many v))), (q 6, .inl (cI, 640, .inl (md_ends v))), (q 7, .inl (cI, 40, .inl (md_rings v))), (q 8, .inl (cL, 96, .inr (.inl (md_ax v)))), (q 9, .inl (cL, 96, .inr (.inl (md_ay v)))), (q 10, .inl (cL, 96, .inr (.inl (md_bx v)))), (q 11, .inl (cL, 96, .inr (.inl (md_by v)))), (q 12, .inl (cI, 2, .inl (md_size v))), (q 13, .inl (cL, 8, .inr (.inl (md_digits v))))]
def inQ (q : Nat → Nat) : Nat → Prop := fun x => ∃ k, k < 14 ∧ x = q k
def in4 (a ax ay ae : Nat) : Nat → Prop := fun x => x = a ∨ x = ax ∨ x = ay ∨ x = ae
def ss_form (v : SV) (x : Int32) : SV := (x, v.2.1, v.2.2.1, v.2.2.2.1, v.2.2.2.2.1, v.2.2.2.2.2.1, v.2.2.2.2.2.2.1, v.2.2.2.2.2.2.2)
def ss_filled (v : SV) (x : Int32) : SV := (v.1, x, v.2.2.1, v.2.2.2.1, v.2.2.2.2.1, v.2.2.2.2.2.1, v.2.2.2.2.2.2.1, v.2.2.2.2.2.2.2)
def ss_radius (v : SV) (x : Int64) : SV := (v.1, v.2.1, x, v.2.2.2.1, v.2.2.2.2.1, v.2.2.2.2.2.1, v.2.2.2.2.2.2.1, v.2.2.2.2.2.2.2)
def ss_xs (v : SV) (x : Nat → Int64) : SV := (v.1, v.2.1, v.2.2.1, x, v.2.2.2.2.1, v.2.2.2.2.2.1, v.2.2.2.2.2.2.1, v.2.2.2.2.2.2.2)
def ss_ys (v : SV) (x : Nat → Int64) : SV := (v.1, v.2.1, v.2.2.1, v.2.2.2.1, x, v.2.2.2.2.2.1, v.2.2.2.2.2.2.1, v.2.2.2.2.2.2.2)
def ss_ends (v : SV) (x : Nat → Int32) : SV := (v.1, v.2.1, v.2.2.1, v.2.2.2.1, v.2.2.2.2.1, x, v.2.2.2.2.2.2.1, v.2.2.2.2.2.2.2)
def ss_count (v : SV) (x : Int32) : SV := (v.1, v.2.1, v.2.2.1, v.2.2.2.1, v.2.2.2.2.1, v.2.2.2.2.2.1, x, v.2.2.2.2.2.2.2)
def ss_open (v : SV) (x : Int32) : SV := (v.1, v.2.1, v.2.2.1, v.2.2.2.1, v.2.2.2.2.1, v.2.2.2.2.2.1, v.2.2.2.2.2.2.1, x)
/-- two worlds of the same addresses are apart alike -/
theorem va_D_adr {A : Nat → Prop} {w w' : va_W} (h : va_D A w) (e : w.map Prod.fst = w'.map Prod.fst) : va_D A w' := by
  have at' : ∀ (k : Nat) (q : Nat × va_E), w'[k]? = some q → ∃ q', w[k]? = some q' ∧ q'.1 = q.1 := by
    intro k q hq
    have h1 : (w'.map Prod.fst)[k]? = some q.1 := by rw [List.getElem?_map, hq]; rfl
    rw [← e, List.getElem?_map] at h1
    cases hk : w[k]? with
    | none => rw [hk] at h1; cases h1
    | some q' => rw [hk] at h1; exact ⟨q', rfl, Option.some.inj h1⟩
  refine ⟨fun i j p q hi hj hpq => ?_, fun k q hk => ?_⟩
  · obtain ⟨p', h1, e1⟩ := at' i p hi
    obtain ⟨q', h2, e2⟩ := at' j q hj
    exact h.1 i j p' q' h1 h2 (by rw [e1, e2, hpq])
  · obtain ⟨q', h1, e1⟩ := at' k q hk
    rw [← e1]; exact h.2 k q' h1
theorem md_D {A : Nat → Prop} {cL cI : ClassId} {q : Nat → Nat} {v : MV} (v' : MV) (h : va_D A (mdW cL cI q v)) : va_D A (mdW cL cI q v') := va_D_adr h rfl
theorem sh_D {A : Nat → Prop} {cL cI : ClassId} {a ax ay ae : Nat} {v : SV} (v' : SV) (h : va_D A (shW cL cI a ax ay ae v)) : va_D A (shW cL cI a ax ay ae v') := va_D_adr h rfl
def ck (n : Nat) (i : Int32) : Option Unit := if (i < 0 ∨ n ≤ i.toNatClampNeg) then none else some ()
theorem ck_of {n : Nat} {i : Int32} {u : Unit} (h : ck n i = some u) : vp_in i n := by
  unfold ck at h
  by_cases c : (i < 0 ∨ n ≤ i.toNatClampNeg)
  · rw [if_pos c] at h; cases h
  · exact c
/-- the end of a method that writes its world: the answer, the new world, nothing else changed -/
def mu_Q (rv : Option Value) (D : va_G) (cl : List vw_C) (ws : va_W) (A : Nat → Prop) : Array Value → State → Outcome → State → Prop := fun _ st oc t => oc = .returned rv ∧ va_P D cl ws t.heap ∧ va_F A st t
section MU
variable {p : Program} {l : Launch} {e : Env} {R : Room} {s : State} {m : MethodId} {args : Array Value} {below : List Frame} {meth : Method} {c : Code} {H : Heap} {locs : List Loc} {cells slots : Nat} {Q : State → Prop}
theorem mu_call {rv : Option Value} {D : va_G} {cl : List vw_C} {ws : va_W} {A A0 : Nat → Prop} {H0 : Heap} {a : Array Value} {pc : Nat} {ls : Array Slot} {st0 rest : List Value} (hr : va_Run p l e R s m args below meth c H locs cells slots 0 0 (F0 m pc ls st0) rest (mu_Q rv D cl ws A a) A) (hS : va_S A0 H0 H locs) (hA : ∀ q, A q → A0 q)
    (kk : ∀ (H1 : Heap) (locs1 : List Loc), va_P D cl ws H1 → va_S A0 H0 H1 locs1 → H.size ≤ H1.size → (∀ q : Nat, q < H.size → ¬ A q → H1[q]? = H[q]?) → W p l e R s m args below meth c H1 locs1 cells slots Q (F0 m (pc + 3) ls (rv.toList ++ rest))) : W p l e R s m args below meth c H locs cells slots Q (F0 m pc ls st0) := by
  intro T hT X
  obtain ⟨v, st₀, t, T', L, h0, X', hL, e1, e2, ⟨hv, hp, hz, hk⟩, st⟩ := hr T hT X
  cases hv
  rw [h0] at hz hk
  obtain ⟨t2, a1, b1⟩ := kk T'.heap (locs ++ L) (by rw [e1]; exact hp)
    ⟨Nat.le_trans hS.1 (by rw [e1]; exact hz), fun q h1 h2 => by rw [e1, hk q (Nat.lt_of_lt_of_le h1 hS.1) (fun z => h2 (hA q z))]; exact hS.2.1 q h1 h2, fun q hq => by
      rcases List.mem_append.mp hq with h | h
      · exact hS.2.2 q h
      · exact hA _ (hL q h)⟩ (by rw [e1]; exact hz) (fun q h1 h2 => by rw [e1]; exact hk q h1 h2) T' rfl X'
  exact ⟨t2, st t2 a1, b1⟩
theorem wd_room {W9 pc : Nat} {ls : Array Slot} {rest st : List Value} (h : (st.map fun v => v.category).sum ≤ W9) : 2 * (F0 m pc ls rest).monitorRoom + (st.map fun v => v.category).sum ≤ W9 := by
  show 2 * 0 + _ ≤ W9
  omega
/-- a call with more on the stack below it than eight words -/
theorem wd_runV {y : MethodName} {bytes cc : ByteArray} {maxL nL mc ms n index : Nat} {ret : Option FieldType} {ws : List Cond} {rm : Room} {Pc : Array Value → State → Prop} {Qc : Array Value → State → Outcome → State → Prop} {free : Addr → Prop} {Ts : List Cond} {own C : String} {b : Addr} {As rest : List Value} {g : JFrame} (W9 : Nat)
    (S : CallFix p m c cc nL s args Ts own) (hM : Met l y ws rm Pc Qc mc ms free) (cw : CallW R s args own C index y bytes maxL ret ws rm mc ms n) (hlo : W9 + (maxL + 11) + rm.locals ≤ R.locals) (hp : PreV s H C b Pc As)
    (hg : g.method = m) (hn : As.length = n) (hsize : g.locals.size = nL) (hstack : g.stack = As.reverse ++ .ref b :: rest) (hW : 2 * g.monitorRoom + (rest.map fun v => v.category).sum ≤ W9) (hdg : decode cc g.pc = .ok (.invokevirtual index, 3)) (hf : cells + mc ≤ R.cells ∧ slots + ms ≤ R.slots) :
    va_Run p l e R s m args below meth c H locs cells slots mc ms g rest (Qc (Value.ref b :: As).toArray) (free) := by
  obtain ⟨⟨hrc, hrs, hfr, -, hws, hcw, hcode, hini, hy, hlen, hl⟩, hin, hse⟩ := cw
  have hK : Back l R p e below s args y 3 W9 (PreOf R mc ms Pc) (PostOf Qc mc ms free) := back_of (bytes := bytes) (maxL := maxL) (ret := ret) hM hp.1 hrc hrs hfr hlo hws hcw (fun a' U hW => word_at hW (Or.inl (by first | rfl | simp [Cond.onTables, Cond.keeps, Cond.steady])) hini)
  obtain ⟨hx, hb, hml, ho, -⟩ := S
  obtain ⟨-, ⟨cellB, hcB, hoB, hclB⟩, hPc⟩ := hp
  intro T hT X
  obtain ⟨v, vm₁, ⟨U', l2, c2, s2⟩, hW₁, X', ⟨g', mk, t, L, e1, e2, hq, h1, hL, h2, h3⟩, st⟩ := callV X hx (C := C) (bytes := bytes) (maxL := maxL) (ret := ret) ho hl hin hse hcode hy hK (by rw [hT]; exact hcB) hoB hclB hg (hsize.trans hml.symm) (argsL := As) (rest := rest) (fun sig h => hn.trans (hlen sig h)) hstack hW (by rw [hb]; exact hdg)
    (fun vm₁ hW₁ => ⟨hf.1, hf.2, hPc (T.setVm vm₁) hT hW₁⟩)
  dsimp only [Pt.U, Pt.locs, Pt.cells, Pt.slots] at X' e1 e2 h1 h2 h3 st
  subst h1; subst h2; subst h3
  exact ⟨v, (T.setVm vm₁).calling g' mk (Value.ref b :: As).toArray, t, U', L, hT, X', hL, e1, e2, hq, st⟩
theorem wd_runS {y : MethodName} {bytes cc : ByteArray} {maxL nL mc ms n index : Nat} {ret : Option FieldType} {ws : List Cond} {rm : Room} {Pc : Array Value → State → Prop} {Qc : Array Value → State → Outcome → State → Prop} {free : Addr → Prop} {Ts : List Cond} {own : String} {As rest : List Value} {g : JFrame} (W9 : Nat)
    (S : CallFix p m c cc nL s args Ts own) (hM : Met l y ws rm Pc Qc mc ms free) (cw : CallB R s args own index y bytes maxL ret ws rm mc ms n ∧ (Cond.static y).before args s = true) (hlo : W9 + (maxL + 11) + rm.locals ≤ R.locals) (hp : PreS s H Pc As)
    (hg : g.method = m) (hn : As.length = n) (hsize : g.locals.size = nL) (hstack : g.stack = As.reverse ++ rest) (hW : 2 * g.monitorRoom + (rest.map fun v => v.category).sum ≤ W9) (hdg : decode cc g.pc = .ok (.invokestatic index, 3)) (hf : cells + mc ≤ R.cells ∧ slots + ms ≤ R.slots) :
    va_Run p l e R s m args below meth c H locs cells slots mc ms g rest (Qc As.toArray) (free) := by
  obtain ⟨⟨hrc, hrs, hfr, -, hws, hcw, hcode, hini, hy, hlen, hl⟩, hstt⟩ := cw
  have hK : Back l R p e below s args y 3 W9 (PreOf R mc ms Pc) (PostOf Qc mc ms free) := back_of (bytes := bytes) (maxL := maxL) (ret := ret) hM hp.1 hrc hrs hfr hlo hws hcw (fun a' U hW => word_at hW (Or.inl (by first | rfl | simp [Cond.onTables, Cond.keeps, Cond.steady])) hini)
  obtain ⟨hx, hb, hml, ho, -⟩ := S
  have hPc := hp.2
  intro T hT X
  obtain ⟨v, vm₁, ⟨U', l2, c2, s2⟩, hW₁, X', ⟨g', mk, t, L, e1, e2, hq, h1, hL, h2, h3⟩, st⟩ := callS X hx (bytes := bytes) (maxL := maxL) (ret := ret) ho hl hstt hini hcode hy hK hg (hsize.trans hml.symm) (argsL := As) (rest := rest) (fun sig h => hn.trans (hlen sig h)) hstack hW (by rw [hb]; exact hdg)
    (fun vm₁ hW₁ => ⟨hf.1, hf.2, hPc (T.setVm vm₁) hT hW₁⟩)
  dsimp only [Pt.U, Pt.locs, Pt.cells, Pt.slots] at X' e1 e2 h1 h2 h3 st
  subst h1; subst h2; subst h3
  exact ⟨v, (T.setVm vm₁).calling g' mk As.toArray, t, U', L, hT, X', hL, e1, e2, hq, st⟩
end MU
end
section
/-! the reference: reading methods, laid by program -/
theorem dM_isPlace_0 : decode cM_isPlace 0 = .ok (.lload_n 0, 1) := by decide +kernel
theorem dM_isPlace_1 : decode cM_isPlace 1 = .ok (.ldc2_w 54, 3) := by decide +kernel
theorem dM_isPlace_4 : decode cM_isPlace 4 = .ok (.lcmp, 1) := by decide +kernel
theorem dM_isPlace_5 : decode cM_isPlace 5 = .ok (.ifCond .lt 31, 3) := by decide +kernel
theorem dM_isPlace_8 : decode cM_isPlace 8 = .ok (.lload_n 0, 1) := by decide +kernel
theorem dM_isPlace_9 : decode cM_isPlace 9 = .ok (.ldc2_w 56, 3) := by decide +kernel
theorem dM_isPlace_12 : decode cM_isPlace 12 = .ok (.lcmp, 1) := by decide +kernel
theorem dM_isPlace_13 : decode cM_isPlace 13 = .ok (.ifCond .gt 23, 3) := by decide +kernel
theorem dM_isPlace_16 : decode cM_isPlace 16 = .ok (.lload_n 2, 1) := by decide +kernel
theorem dM_isPlace_17 : decode cM_isPlace 17 = .ok (.ldc2_w 54, 3) := by decide +kernel
theorem dM_isPlace_20 : decode cM_isPlace 20 = .ok (.lcmp, 1) := by decide +kernel
theorem dM_isPlace_21 : decode cM_isPlace 21 = .ok (.ifCond .lt 15, 3) := by decide +kernel
theorem dM_isPlace_24 : decode cM_isPlace 24 = .ok (.lload_n 2, 1) := by decide +kernel
theorem dM_isPlace_25 : decode cM_isPlace 25 = .ok (.ldc2_w 56, 3) := by decide +kernel
theorem dM_isPlace_28 : decode cM_isPlace 28 = .ok (.lcmp, 1) := by decide +kernel
theorem dM_isPlace_29 : decode cM_isPlace 29 = .ok (.ifCond .gt 7, 3) := by decide +kernel
theorem dM_isPlace_32 : decode cM_isPlace 32 = .ok (.iconst 1, 1) := by decide +kernel
theorem dM_isPlace_33 : decode cM_isPlace 33 = .ok (.goto 4, 3) := by decide +kernel
theorem dM_isPlace_36 : decode cM_isPlace 36 = .ok (.iconst 0, 1) := by decide +kernel
theorem dM_isPlace_37 : decode cM_isPlace 37 = .ok (.ireturn, 1) := by decide +kernel
def f_M_isPlace_j37 (s0 : Int32) : Option Int32 := rb s0
def f_M_isPlace_j36 : Option Int32 := (f_M_isPlace_j37 (0 : Int32))
def f_M_isPlace (x0 : Int64) (x2 : Int64) : Option Int32 := (if (lg_cmp x0 (-500000000 : Int64)) < 0 then f_M_isPlace_j36 else (if 0 < (lg_cmp x0 (500000000 : Int64)) then f_M_isPlace_j36 else (if (lg_cmp x2 (-500000000 : Int64)) < 0 then f_M_isPlace_j36 else (if 0 < (lg_cmp x2 (500000000 : Int64)) then f_M_isPlace_j36 else (f_M_isPlace_j37 (1 : Int32))))))
set_option maxHeartbeats 4000000 in
set_option maxRecDepth 100000 in
theorem k_M_isPlace (l : Launch) (dC : Nat → ClassId) (dI : Nat → Nat → Nat) (cL cI : ClassId) (x0 : Int64) (x2 : Int64) (r : Int32) (h : f_M_isPlace x0 x2 = some r) : Met l yM_isPlace wsM_isPlace ({ frames := 0, cells := 0, slots := 0, locals := 0 }) (rd_Pc [.long x0, .long x2] (fun _ => True) (dC, dI) cls3 [(cL, .long), (cI, .int)]) (vp_Si (fun z => z = r)) 0 0 (fun _ => False) := by
  refine Met.ofW (cc := cM_isPlace) (maxL := 4) (ret := (some .boolean)) (by decide) rfl ?_
  intro p e s m args below meth c s₁ B hml hv
  obtain ⟨rfl, hF, hK⟩ := hv
  have hx := B.exec
  have hb := B.bytes
  have hr := B.returns
  have hw : ∀ w ∈ wG, w.before ([.long x0, .long x2] : List Value).toArray s = true := fun w hq => atoms_spec (ws := wsM_isPlace) B.pre w (List.mem_cons_of_mem _ hq)
  have hown : s.vm.findClass R_M = some m.cls := findClass_of_methodNamed B.named
  have hlocks := B.notSynchronized
  have hl := lv_entry ([.long x0, .long x2] : List Value) (n := 4) (Nat.le_of_ble_eq_true rfl)
  rw [lg_entry_eq]
  generalize (lg_sl ([.long x0, .long x2] : List Value) ++ List.replicate (4 - (lg_sl ([.long x0, .long x2] : List Value)).length) Slot.unset).toArray = ls at hl ⊢
  have hl : lv_has ls 4 [(0, .long x0), (2, .long x2)] := hl
  have k37 : ∀ (s0 : Int32), f_M_isPlace_j37 s0 = some r →  ∀ (ls : Array Slot), lv_has ls 4 [] → W p l e (headSpec wsM_isPlace ({ frames := 0, cells := 0, slots := 0, locals := 0 })).room s m ([.long x0, .long x2] : List Value).toArray below meth c s.heap [] 0 0 (MQ below (vp_Si (fun z => z = r)) ([.long x0, .long x2] : List Value).toArray s 0 0 (fun _ => False)) (F0 m 37 ls [.int s0]) := by
    intro s0 h  ls hl
    unfold f_M_isPlace_j37 at h
    obtain ⟨hz, hr9⟩ := rb_of h
    exact W.zret hx hb hr hz (fun t ht hW => ⟨_, rfl, hr9, ht⟩) nil_locs dM_isPlace_37
  have k36 : f_M_isPlace_j36 = some r →  ∀ (ls : Array Slot), lv_has ls 4 [] → W p l e (headSpec wsM_isPlace ({ frames := 0, cells := 0, slots := 0, locals := 0 })).room s m ([.long x0, .long x2] : List Value).toArray below meth c s.heap [] 0 0 (MQ below (vp_Si (fun z => z = r)) ([.long x0, .long x2] : List Value).toArray s 0 0 (fun _ => False)) (F0 m 36 ls []) := by
    intro  h  ls hl
    unfold f_M_isPlace_j36 at h
    refine lv_iconst (v := 0) hx hb dM_isPlace_36 (by decide) ?_
    exact k37 (0 : Int32) h ls (lv_sub hl [] rfl)
  unfold f_M_isPlace at h
  refine lv_lload_n hx hb dM_isPlace_0 rfl (lv_at hl 0 rfl) ?_
  refine lv_ldc2 (v := (-500000000)) hx hb hown (hw _ w_502) dM_isPlace_1 ?_
  refine W.lcmp hx hb dM_isPlace_4 ?_
  refine lv_if_lt (tgt := 36) hx hb dM_isPlace_5 (by decide) (fun c1 => ?_) (fun c1 => ?_)
  · have h := it_t c1 h
    exact k36 h ls (lv_sub hl [] rfl)
  · have h := it_f c1 h
    refine lv_lload_n hx hb dM_isPlace_8 rfl (lv_at hl 0 rfl) ?_
    refine lv_ldc2 (v := 500000000) hx hb hown (hw _ w_503) dM_isPlace_9 ?_
    refine W.lcmp hx hb dM_isPlace_12 ?_
    refine lv_if_gt (tgt := 36) hx hb dM_isPlace_13 (by decide) (fun c2 => ?_) (fun c2 => ?_)
    · have h := it_t c2 h
      exact k36 h ls (lv_sub hl [] rfl)
    · have h := it_f c2 h
      refine lv_lload_n hx hb dM_isPlace_16 rfl (lv_at hl 1 rfl) ?_
      refine lv_ldc2 (v := (-500000000)) hx hb hown (hw _ w_502) dM_isPlace_17 ?_
      refine W.lcmp hx hb dM_isPlace_20 ?_
      refine lv_if_lt (tgt := 36) hx hb dM_isPlace_21 (by decide) (fun c3 => ?_) (fun c3 => ?_)
      · have h := it_t c3 h
        exact k36 h ls (lv_sub hl [] rfl)
      · have h := it_f c3 h
        refine lv_lload_n hx hb dM_isPlace_24 rfl (lv_at hl 1 rfl) ?_
        refine lv_ldc2 (v := 500000000) hx hb hown (hw _ w_503) dM_isPlace_25 ?_
        refine W.lcmp hx hb dM_isPlace_28 ?_
        refine lv_if_gt (tgt := 36) hx hb dM_isPlace_29 (by decide) (fun c4 => ?_) (fun c4 => ?_)
        · have h := it_t c4 h
          exact k36 h ls (lv_sub hl [] rfl)
        · have h := it_f c4 h
          refine lv_iconst (v := 1) hx hb dM_isPlace_32 (by decide) ?_
          refine lv_goto (tgt := 37) hx hb dM_isPlace_33 (by decide) ?_
          exact k37 (1 : Int32) h ls (lv_sub hl [] rfl)
theorem dM_isRadius_0 : decode cM_isRadius 0 = .ok (.lload_n 0, 1) := by decide +kernel
theorem dM_isRadius_1 : decode cM_isRadius 1 = .ok (.lconst 0, 1) := by decide +kernel
theorem dM_isRadius_2 : decode cM_isRadius 2 = .ok (.lcmp, 1) := by decide +kernel
theorem dM_isRadius_3 : decode cM_isRadius 3 = .ok (.ifCond .lt 15, 3) := by decide +kernel
theorem dM_isRadius_6 : decode cM_isRadius 6 = .ok (.lload_n 0, 1) := by decide +kernel
theorem dM_isRadius_7 : decode cM_isRadius 7 = .ok (.ldc2_w 58, 3) := by decide +kernel
theorem dM_isRadius_10 : decode cM_isRadius 10 = .ok (.lcmp, 1) := by decide +kernel
theorem dM_isRadius_11 : decode cM_isRadius 11 = .ok (.ifCond .gt 7, 3) := by decide +kernel
theorem dM_isRadius_14 : decode cM_isRadius 14 = .ok (.iconst 1, 1) := by decide +kernel
theorem dM_isRadius_15 : decode cM_isRadius 15 = .ok (.goto 4, 3) := by decide +kernel
theorem dM_isRadius_18 : decode cM_isRadius 18 = .ok (.iconst 0, 1) := by decide +kernel
theorem dM_isRadius_19 : decode cM_isRadius 19 = .ok (.ireturn, 1) := by decide +kernel
def f_M_isRadius_j19 (s0 : Int32) : Option Int32 := rb s0
def f_M_isRadius_j18 : Option Int32 := (f_M_isRadius_j19 (0 : Int32))
def f_M_isRadius (x0 : Int64) : Option Int32 := (if (lg_cmp x0 (0 : Int64)) < 0 then f_M_isRadius_j18 else (if 0 < (lg_cmp x0 (1000000000 : Int64)) then f_M_isRadius_j18 else (f_M_isRadius_j19 (1 : Int32))))
set_option maxHeartbeats 4000000 in
set_option maxRecDepth 100000 in
theorem k_M_isRadius (l : Launch) (dC : Nat → ClassId) (dI : Nat → Nat → Nat) (cL cI : ClassId) (x0 : Int64) (r : Int32) (h : f_M_isRadius x0 = some r) : Met l yM_isRadius wsM_isRadius ({ frames := 0, cells := 0, slots := 0, locals := 0 }) (rd_Pc [.long x0] (fun _ => True) (dC, dI) cls3 [(cL, .long), (cI, .int)]) (vp_Si (fun z => z = r)) 0 0 (fun _ => False) := by
  refine Met.ofW (cc := cM_isRadius) (maxL := 2) (ret := (some .boolean)) (by decide) rfl ?_
  intro p e s m args below meth c s₁ B hml hv
  obtain ⟨rfl, hF, hK⟩ := hv
  have hx := B.exec
  have hb := B.bytes
  have hr := B.returns
  have hw : ∀ w ∈ wG, w.before ([.long x0] : List Value).toArray s = true := fun w hq => atoms_spec (ws := wsM_isRadius) B.pre w (List.mem_cons_of_mem _ hq)
  have hown : s.vm.findClass R_M = some m.cls := findClass_of_methodNamed B.named
  have hlocks := B.notSynchronized
  have hl := lv_entry ([.long x0] : List Value) (n := 2) (Nat.le_of_ble_eq_true rfl)
  rw [lg_entry_eq]
  generalize (lg_sl ([.long x0] : List Value) ++ List.replicate (2 - (lg_sl ([.long x0] : List Value)).length) Slot.unset).toArray = ls at hl ⊢
  have hl : lv_has ls 2 [(0, .long x0)] := hl
  have k19 : ∀ (s0 : Int32), f_M_isRadius_j19 s0 = some r →  ∀ (ls : Array Slot), lv_has ls 2 [] → W p l e (headSpec wsM_isRadius ({ frames := 0, cells := 0, slots := 0, locals := 0 })).room s m ([.long x0] : List Value).toArray below meth c s.heap [] 0 0 (MQ below (vp_Si (fun z => z = r)) ([.long x0] : List Value).toArray s 0 0 (fun _ => False)) (F0 m 19 ls [.int s0]) := by
    intro s0 h  ls hl
    unfold f_M_isRadius_j19 at h
    obtain ⟨hz, hr9⟩ := rb_of h
    exact W.zret hx hb hr hz (fun t ht hW => ⟨_, rfl, hr9, ht⟩) nil_locs dM_isRadius_19
  have k18 : f_M_isRadius_j18 = some r →  ∀ (ls : Array Slot), lv_has ls 2 [] → W p l e (headSpec wsM_isRadius ({ frames := 0, cells := 0, slots := 0, locals := 0 })).room s m ([.long x0] : List Value).toArray below meth c s.heap [] 0 0 (MQ below (vp_Si (fun z => z = r)) ([.long x0] : List Value).toArray s 0 0 (fun _ => False)) (F0 m 18 ls []) := by
    intro  h  ls hl
    unfold f_M_isRadius_j18 at h
    refine lv_iconst (v := 0) hx hb dM_isRadius_18 (by decide) ?_
    exact k19 (0 : Int32) h ls (lv_sub hl [] rfl)
  unfold f_M_isRadius at h
  refine lv_lload_n hx hb dM_isRadius_0 rfl (lv_at hl 0 rfl) ?_
  refine lv_lconst (v := 0) hx hb dM_isRadius_1 (by decide) ?_
  refine W.lcmp hx hb dM_isRadius_2 ?_
  refine lv_if_lt (tgt := 18) hx hb dM_isRadius_3 (by decide) (fun c1 => ?_) (fun c1 => ?_)
  · have h := it_t c1 h
    exact k18 h ls (lv_sub hl [] rfl)
  · have h := it_f c1 h
    refine lv_lload_n hx hb dM_isRadius_6 rfl (lv_at hl 0 rfl) ?_
    refine lv_ldc2 (v := 1000000000) hx hb hown (hw _ w_507) dM_isRadius_7 ?_
    refine W.lcmp hx hb dM_isRadius_10 ?_
    refine lv_if_gt (tgt := 18) hx hb dM_isRadius_11 (by decide) (fun c2 => ?_) (fun c2 => ?_)
    · have h := it_t c2 h
      exact k18 h ls (lv_sub hl [] rfl)
    · have h := it_f c2 h
      refine lv_iconst (v := 1) hx hb dM_isRadius_14 (by decide) ?_
      refine lv_goto (tgt := 19) hx hb dM_isRadius_15 (by decide) ?_
      exact k19 (1 : Int32) h ls (lv_sub hl [] rfl)
theorem dM_thrown_0 : decode cM_thrown 0 = .ok (.aload_n 0, 1) := by decide +kernel
theorem dM_thrown_1 : decode cM_thrown 1 = .ok (.getfield 50, 3) := by decide +kernel
theorem dM_thrown_4 : decode cM_thrown 4 = .ok (.ireturn, 1) := by decide +kernel
def f_M_thrown (v : MV) : Option Int32 := some (md_thrown v)
set_option maxHeartbeats 4000000 in
set_option maxRecDepth 100000 in
theorem k_M_thrown (l : Launch) (dC : Nat → ClassId) (dI : Nat → Nat → Nat) (cL cI : ClassId) (qm : Nat → Nat) (v : MV) (r : Int32) (h : f_M_thrown v = some r) : Met l yM_thrown wsM_thrown ({ frames := 0, cells := 0, slots := 0, locals := 0 }) (rd_Pc [.ref (qm 0)] (fun H => va_P (dC, dI) cls3 (mdW cL cI qm v) H) (dC, dI) cls3 [(cL, .long), (cI, .int)]) (vp_Si (fun z => z = r)) 0 0 (fun _ => False) := by
  refine Met.ofW (cc := cM_thrown) (maxL := 1) (ret := (some .int)) (by decide) rfl ?_
  intro p e s m args below meth c s₁ B hml hv
  obtain ⟨rfl, hPm, hK⟩ := hv
  have hx := B.exec
  have hb := B.bytes
  have hr := B.returns
  have hw : ∀ w ∈ wG, w.before ([.ref (qm 0)] : List Value).toArray s = true := fun w hq => atoms_spec (ws := wsM_thrown) B.pre w (List.mem_cons_of_mem _ hq)
  have hown : s.vm.findClass R_M = some m.cls := findClass_of_methodNamed B.named
  have hlocks := B.notSynchronized
  have hl := lv_entry ([.ref (qm 0)] : List Value) (n := 1) (Nat.le_of_ble_eq_true rfl)
  rw [lg_entry_eq]
  generalize (lg_sl ([.ref (qm 0)] : List Value) ++ List.replicate (1 - (lg_sl ([.ref (qm 0)] : List Value)).length) Slot.unset).toArray = ls at hl ⊢
  have hl : lv_has ls 1 [(0, .ref (qm 0))] := hl
  unfold f_M_thrown at h
  refine lv_aload_n hx hb dM_thrown_0 rfl (lv_at hl 0 rfl) ?_
  refine va_get (D := (dC, dI)) (ci := 2) (v := .int (md_thrown v)) (C := R_M) (T := T_M) (N := 15) hx hb hw in_M hown hK hPm 0 rfl rfl 0 (by decide) (hw _ w_445) (fun _ h9 => h9) rfl dM_thrown_1 ?_
  exact W.iret hx hb hr (fun t ht hW => ⟨_, rfl, Option.some.inj h, ht⟩) nil_locs dM_thrown_4
theorem dM_isShape_0 : decode cM_isShape 0 = .ok (.iload_n 1, 1) := by decide +kernel
theorem dM_isShape_1 : decode cM_isShape 1 = .ok (.ifCond .lt 15, 3) := by decide +kernel
theorem dM_isShape_4 : decode cM_isShape 4 = .ok (.iload_n 1, 1) := by decide +kernel
theorem dM_isShape_5 : decode cM_isShape 5 = .ok (.aload_n 0, 1) := by decide +kernel
theorem dM_isShape_6 : decode cM_isShape 6 = .ok (.getfield 60, 3) := by decide +kernel
theorem dM_isShape_9 : decode cM_isShape 9 = .ok (.if_icmp .ge 7, 3) := by decide +kernel
theorem dM_isShape_12 : decode cM_isShape 12 = .ok (.iconst 1, 1) := by decide +kernel
theorem dM_isShape_13 : decode cM_isShape 13 = .ok (.goto 4, 3) := by decide +kernel
theorem dM_isShape_16 : decode cM_isShape 16 = .ok (.iconst 0, 1) := by decide +kernel
theorem dM_isShape_17 : decode cM_isShape 17 = .ok (.ireturn, 1) := by decide +kernel
def f_M_isShape_j17 (v : MV) (s0 : Int32) : Option Int32 := rb s0
def f_M_isShape_j16 (v : MV) : Option Int32 := (f_M_isShape_j17 v (0 : Int32))
def f_M_isShape (v : MV) (x1 : Int32) : Option Int32 := (if x1 < 0 then (f_M_isShape_j16 v) else (if (md_shapes v) ≤ x1 then (f_M_isShape_j16 v) else (f_M_isShape_j17 v (1 : Int32))))
set_option maxHeartbeats 4000000 in
set_option maxRecDepth 100000 in
theorem k_M_isShape (l : Launch) (dC : Nat → ClassId) (dI : Nat → Nat → Nat) (cL cI : ClassId) (qm : Nat → Nat) (v : MV) (x1 : Int32) (r : Int32) (h : f_M_isShape v x1 = some r) : Met l yM_isShape wsM_isShape ({ frames := 0, cells := 0, slots := 0, locals := 0 }) (rd_Pc [.ref (qm 0), .int x1] (fun H => va_P (dC, dI) cls3 (mdW cL cI qm v) H) (dC, dI) cls3 [(cL, .long), (cI, .int)]) (vp_Si (fun z => z = r)) 0 0 (fun _ => False) := by
  refine Met.ofW (cc := cM_isShape) (maxL := 2) (ret := (some .boolean)) (by decide) rfl ?_
  intro p e s m args below meth c s₁ B hml hv
  obtain ⟨rfl, hPm, hK⟩ := hv
  have hx := B.exec
  have hb := B.bytes
  have hr := B.returns
  have hw : ∀ w ∈ wG, w.before ([.ref (qm 0), .int x1] : List Value).toArray s = true := fun w hq => atoms_spec (ws := wsM_isShape) B.pre w (List.mem_cons_of_mem _ hq)
  have hown : s.vm.findClass R_M = some m.cls := findClass_of_methodNamed B.named
  have hlocks := B.notSynchronized
  have hl := lv_entry ([.ref (qm 0), .int x1] : List Value) (n := 2) (Nat.le_of_ble_eq_true rfl)
  rw [lg_entry_eq]
  generalize (lg_sl ([.ref (qm 0), .int x1] : List Value) ++ List.replicate (2 - (lg_sl ([.ref (qm 0), .int x1] : List Value)).length) Slot.unset).toArray = ls at hl ⊢
  have hl : lv_has ls 2 [(0, .ref (qm 0)), (1, .int x1)] := hl
  have k17 : ∀ (s0 : Int32), f_M_isShape_j17 v s0 = some r →  ∀ (ls : Array Slot), lv_has ls 2 [] → W p l e (headSpec wsM_isShape ({ frames := 0, cells := 0, slots := 0, locals := 0 })).room s m ([.ref (qm 0), .int x1] : List Value).toArray below meth c s.heap [] 0 0 (MQ below (vp_Si (fun z => z = r)) ([.ref (qm 0), .int x1] : List Value).toArray s 0 0 (fun _ => False)) (F0 m 17 ls [.int s0]) := by
    intro s0 h  ls hl
    unfold f_M_isShape_j17 at h
    obtain ⟨hz, hr9⟩ := rb_of h
    exact W.zret hx hb hr hz (fun t ht hW => ⟨_, rfl, hr9, ht⟩) nil_locs dM_isShape_17
  have k16 : f_M_isShape_j16 v = some r →  ∀ (ls : Array Slot), lv_has ls 2 [] → W p l e (headSpec wsM_isShape ({ frames := 0, cells := 0, slots := 0, locals := 0 })).room s m ([.ref (qm 0), .int x1] : List Value).toArray below meth c s.heap [] 0 0 (MQ below (vp_Si (fun z => z = r)) ([.ref (qm 0), .int x1] : List Value).toArray s 0 0 (fun _ => False)) (F0 m 16 ls []) := by
    intro  h  ls hl
    unfold f_M_isShape_j16 at h
    refine lv_iconst (v := 0) hx hb dM_isShape_16 (by decide) ?_
    exact k17 (0 : Int32) h ls (lv_sub hl [] rfl)
  unfold f_M_isShape at h
  refine lv_iload_n hx hb dM_isShape_0 rfl (lv_at hl 1 rfl) ?_
  refine lv_if_lt (tgt := 16) hx hb dM_isShape_1 (by decide) (fun c1 => ?_) (fun c1 => ?_)
  · have h := it_t c1 h
    exact k16 h ls (lv_sub hl [] rfl)
  · have h := it_f c1 h
    refine lv_iload_n hx hb dM_isShape_4 rfl (lv_at hl 1 rfl) ?_
    refine lv_aload_n hx hb dM_isShape_5 rfl (lv_at hl 0 rfl) ?_
    refine va_get (D := (dC, dI)) (ci := 2) (v := .int (md_shapes v)) (C := R_M) (T := T_M) (N := 15) hx hb hw in_M hown hK hPm 0 rfl rfl 1 (by decide) (hw _ w_446) (fun _ h9 => h9) rfl dM_isShape_6 ?_
    refine lv_icmp_ge (tgt := 16) hx hb dM_isShape_9 (by decide) (fun c2 => ?_) (fun c2 => ?_)
    · have h := it_t c2 h
      exact k16 h ls (lv_sub hl [] rfl)
    · have h := it_f c2 h
      refine lv_iconst (v := 1) hx hb dM_isShape_12 (by decide) ?_
      refine lv_goto (tgt := 17) hx hb dM_isShape_13 (by decide) ?_
      exact k17 (1 : Int32) h ls (lv_sub hl [] rfl)
theorem dM_closed_0 : decode cM_closed 0 = .ok (.aload_n 0, 1) := by decide +kernel
theorem dM_closed_1 : decode cM_closed 1 = .ok (.getfield 29, 3) := by decide +kernel
theorem dM_closed_4 : decode cM_closed 4 = .ok (.iload_n 1, 1) := by decide +kernel
theorem dM_closed_5 : decode cM_closed 5 = .ok (.iaload, 1) := by decide +kernel
theorem dM_closed_6 : decode cM_closed 6 = .ok (.ifCond .ne 7, 3) := by decide +kernel
theorem dM_closed_9 : decode cM_closed 9 = .ok (.iconst 0, 1) := by decide +kernel
theorem dM_closed_10 : decode cM_closed 10 = .ok (.goto 21, 3) := by decide +kernel
theorem dM_closed_13 : decode cM_closed 13 = .ok (.aload_n 0, 1) := by decide +kernel
theorem dM_closed_14 : decode cM_closed 14 = .ok (.getfield 26, 3) := by decide +kernel
theorem dM_closed_17 : decode cM_closed 17 = .ok (.bipush 16, 2) := by decide +kernel
theorem dM_closed_19 : decode cM_closed 19 = .ok (.iload_n 1, 1) := by decide +kernel
theorem dM_closed_20 : decode cM_closed 20 = .ok (.imul, 1) := by decide +kernel
theorem dM_closed_21 : decode cM_closed 21 = .ok (.aload_n 0, 1) := by decide +kernel
theorem dM_closed_22 : decode cM_closed 22 = .ok (.getfield 29, 3) := by decide +kernel
theorem dM_closed_25 : decode cM_closed 25 = .ok (.iload_n 1, 1) := by decide +kernel
theorem dM_closed_26 : decode cM_closed 26 = .ok (.iaload, 1) := by decide +kernel
theorem dM_closed_27 : decode cM_closed 27 = .ok (.iadd, 1) := by decide +kernel
theorem dM_closed_28 : decode cM_closed 28 = .ok (.iconst 1, 1) := by decide +kernel
theorem dM_closed_29 : decode cM_closed 29 = .ok (.isub, 1) := by decide +kernel
theorem dM_closed_30 : decode cM_closed 30 = .ok (.iaload, 1) := by decide +kernel
theorem dM_closed_31 : decode cM_closed 31 = .ok (.ireturn, 1) := by decide +kernel
def f_M_closed_j31 (v : MV) (s0 : Int32) : Option Int32 := some s0
def f_M_closed (v : MV) (x1 : Int32) : Option Int32 := (ld 40 (md_rings v) x1).bind fun u1 => (if u1 = 0 then (f_M_closed_j31 v (0 : Int32)) else (ld 40 (md_rings v) x1).bind fun u3 => (ld 640 (md_ends v) ((((16 : Int32) * x1) + u3) - (1 : Int32))).bind fun u4 => (f_M_closed_j31 v u4))
set_option maxHeartbeats 4000000 in
set_option maxRecDepth 100000 in
theorem k_M_closed (l : Launch) (dC : Nat → ClassId) (dI : Nat → Nat → Nat) (cL cI : ClassId) (qm : Nat → Nat) (v : MV) (x1 : Int32) (r : Int32) (h : f_M_closed v x1 = some r) : Met l yM_closed wsM_closed ({ frames := 0, cells := 0, slots := 0, locals := 0 }) (rd_Pc [.ref (qm 0), .int x1] (fun H => va_P (dC, dI) cls3 (mdW cL cI qm v) H) (dC, dI) cls3 [(cL, .long), (cI, .int)]) (vp_Si (fun z => z = r)) 0 0 (fun _ => False) := by
  refine Met.ofW (cc := cM_closed) (maxL := 2) (ret := (some .int)) (by decide) rfl ?_
  intro p e s m args below meth c s₁ B hml hv
  obtain ⟨rfl, hPm, hK⟩ := hv
  have hx := B.exec
  have hb := B.bytes
  have hr := B.returns
  have hw : ∀ w ∈ wG, w.before ([.ref (qm 0), .int x1] : List Value).toArray s = true := fun w hq => atoms_spec (ws := wsM_closed) B.pre w (List.mem_cons_of_mem _ hq)
  have hown : s.vm.findClass R_M = some m.cls := findClass_of_methodNamed B.named
  have hlocks := B.notSynchronized
  have hl := lv_entry ([.ref (qm 0), .int x1] : List Value) (n := 2) (Nat.le_of_ble_eq_true rfl)
  rw [lg_entry_eq]
  generalize (lg_sl ([.ref (qm 0), .int x1] : List Value) ++ List.replicate (2 - (lg_sl ([.ref (qm 0), .int x1] : List Value)).length) Slot.unset).toArray = ls at hl ⊢
  have hl : lv_has ls 2 [(0, .ref (qm 0)), (1, .int x1)] := hl
  have k31 : ∀ (s0 : Int32), f_M_closed_j31 v s0 = some r →  ∀ (ls : Array Slot), lv_has ls 2 [] → W p l e (headSpec wsM_closed ({ frames := 0, cells := 0, slots := 0, locals := 0 })).room s m ([.ref (qm 0), .int x1] : List Value).toArray below meth c s.heap [] 0 0 (MQ below (vp_Si (fun z => z = r)) ([.ref (qm 0), .int x1] : List Value).toArray s 0 0 (fun _ => False)) (F0 m 31 ls [.int s0]) := by
    intro s0 h  ls hl
    unfold f_M_closed_j31 at h
    exact W.iret hx hb hr (fun t ht hW => ⟨_, rfl, Option.some.inj h, ht⟩) nil_locs dM_closed_31
  unfold f_M_closed at h
  refine lv_aload_n hx hb dM_closed_0 rfl (lv_at hl 0 rfl) ?_
  refine va_get (D := (dC, dI)) (ci := 2) (v := .ref (qm 7)) (C := R_M) (T := T_M) (N := 15) hx hb hw in_M hown hK hPm 0 rfl rfl 8 (by decide) (hw _ w_453) (fun _ h9 => h9) rfl dM_closed_1 ?_
  refine lv_iload_n hx hb dM_closed_4 rfl (lv_at hl 1 rfl) ?_
  obtain ⟨u1, hu1, h⟩ := ob_some h
  obtain ⟨hiu1, eu1⟩ := ld_of hu1
  refine va_iald hx hb hK hPm 7 1 rfl rfl hiu1 dM_closed_5 ?_
  rw [eu1]
  refine lv_if_ne (tgt := 13) hx hb dM_closed_6 (by decide) (fun c2 => ?_) (fun c2 => ?_)
  · have h := it_f c2 h
    refine lv_aload_n hx hb dM_closed_13 rfl (lv_at hl 0 rfl) ?_
    refine va_get (D := (dC, dI)) (ci := 2) (v := .ref (qm 6)) (C := R_M) (T := T_M) (N := 15) hx hb hw in_M hown hK hPm 0 rfl rfl 7 (by decide) (hw _ w_452) (fun _ h9 => h9) rfl dM_closed_14 ?_
    refine lv_bipush (v := 16) hx hb dM_closed_17 (by decide) ?_
    refine lv_iload_n hx hb dM_closed_19 rfl (lv_at hl 1 rfl) ?_
    refine lv_imul hx hb dM_closed_20 ?_
    refine lv_aload_n hx hb dM_closed_21 rfl (lv_at hl 0 rfl) ?_
    refine va_get (D := (dC, dI)) (ci := 2) (v := .ref (qm 7)) (C := R_M) (T := T_M) (N := 15) hx hb hw in_M hown hK hPm 0 rfl rfl 8 (by decide) (hw _ w_453) (fun _ h9 => h9) rfl dM_closed_22 ?_
    refine lv_iload_n hx hb dM_closed_25 rfl (lv_at hl 1 rfl) ?_
    obtain ⟨u3, hu3, h⟩ := ob_some h
    obtain ⟨hiu3, eu3⟩ := ld_of hu3
    refine va_iald hx hb hK hPm 7 1 rfl rfl hiu3 dM_closed_26 ?_
    rw [eu3]
    refine lv_iadd hx hb dM_closed_27 ?_
    refine lv_iconst (v := 1) hx hb dM_closed_28 (by decide) ?_
    refine lv_isub hx hb dM_closed_29 ?_
    obtain ⟨u4, hu4, h⟩ := ob_some h
    obtain ⟨hiu4, eu4⟩ := ld_of hu4
    refine va_iald hx hb hK hPm 6 1 rfl rfl hiu4 dM_closed_30 ?_
    rw [eu4]
    exact k31 u4 h ls (lv_sub hl [] rfl)
  · have h := it_t c2 h
    refine lv_iconst (v := 0) hx hb dM_closed_9 (by decide) ?_
    refine lv_goto (tgt := 31) hx hb dM_closed_10 (by decide) ?_
    exact k31 (0 : Int32) h ls (lv_sub hl [] rfl)
theorem dM_isWhole_0 : decode cM_isWhole 0 = .ok (.aload_n 0, 1) := by decide +kernel
theorem dM_isWhole_1 : decode cM_isWhole 1 = .ok (.getfield 7, 3) := by decide +kernel
theorem dM_isWhole_4 : decode cM_isWhole 4 = .ok (.iload_n 1, 1) := by decide +kernel
theorem dM_isWhole_5 : decode cM_isWhole 5 = .ok (.iaload, 1) := by decide +kernel
theorem dM_isWhole_6 : decode cM_isWhole 6 = .ok (.iconst 2, 1) := by decide +kernel
theorem dM_isWhole_7 : decode cM_isWhole 7 = .ok (.if_icmp .ne 32, 3) := by decide +kernel
theorem dM_isWhole_10 : decode cM_isWhole 10 = .ok (.aload_n 0, 1) := by decide +kernel
theorem dM_isWhole_11 : decode cM_isWhole 11 = .ok (.getfield 29, 3) := by decide +kernel
theorem dM_isWhole_14 : decode cM_isWhole 14 = .ok (.iload_n 1, 1) := by decide +kernel
theorem dM_isWhole_15 : decode cM_isWhole 15 = .ok (.iaload, 1) := by decide +kernel
theorem dM_isWhole_16 : decode cM_isWhole 16 = .ok (.ifCond .le 21, 3) := by decide +kernel
theorem dM_isWhole_19 : decode cM_isWhole 19 = .ok (.aload_n 0, 1) := by decide +kernel
theorem dM_isWhole_20 : decode cM_isWhole 20 = .ok (.iload_n 1, 1) := by decide +kernel
theorem dM_isWhole_21 : decode cM_isWhole 21 = .ok (.invokevirtual 63, 3) := by decide +kernel
theorem dM_isWhole_24 : decode cM_isWhole 24 = .ok (.aload_n 0, 1) := by decide +kernel
theorem dM_isWhole_25 : decode cM_isWhole 25 = .ok (.getfield 23, 3) := by decide +kernel
theorem dM_isWhole_28 : decode cM_isWhole 28 = .ok (.iload_n 1, 1) := by decide +kernel
theorem dM_isWhole_29 : decode cM_isWhole 29 = .ok (.iaload, 1) := by decide +kernel
theorem dM_isWhole_30 : decode cM_isWhole 30 = .ok (.if_icmp .ne 7, 3) := by decide +kernel
theorem dM_isWhole_33 : decode cM_isWhole 33 = .ok (.iconst 1, 1) := by decide +kernel
theorem dM_isWhole_34 : decode cM_isWhole 34 = .ok (.goto 4, 3) := by decide +kernel
theorem dM_isWhole_37 : decode cM_isWhole 37 = .ok (.iconst 0, 1) := by decide +kernel
theorem dM_isWhole_38 : decode cM_isWhole 38 = .ok (.ireturn, 1) := by decide +kernel
theorem dM_isWhole_39 : decode cM_isWhole 39 = .ok (.aload_n 0, 1) := by decide +kernel
theorem dM_isWhole_40 : decode cM_isWhole 40 = .ok (.getfield 7, 3) := by decide +kernel
theorem dM_isWhole_43 : decode cM_isWhole 43 = .ok (.iload_n 1, 1) := by decide +kernel
theorem dM_isWhole_44 : decode cM_isWhole 44 = .ok (.iaload, 1) := by decide +kernel
theorem dM_isWhole_45 : decode cM_isWhole 45 = .ok (.iconst 3, 1) := by decide +kernel
theorem dM_isWhole_46 : decode cM_isWhole 46 = .ok (.if_icmp .ne 12, 3) := by decide +kernel
theorem dM_isWhole_49 : decode cM_isWhole 49 = .ok (.aload_n 0, 1) := by decide +kernel
theorem dM_isWhole_50 : decode cM_isWhole 50 = .ok (.getfield 23, 3) := by decide +kernel
theorem dM_isWhole_53 : decode cM_isWhole 53 = .ok (.iload_n 1, 1) := by decide +kernel
theorem dM_isWhole_54 : decode cM_isWhole 54 = .ok (.iaload, 1) := by decide +kernel
theorem dM_isWhole_55 : decode cM_isWhole 55 = .ok (.ifCond .le 7, 3) := by decide +kernel
theorem dM_isWhole_58 : decode cM_isWhole 58 = .ok (.iconst 1, 1) := by decide +kernel
theorem dM_isWhole_59 : decode cM_isWhole 59 = .ok (.goto 4, 3) := by decide +kernel
theorem dM_isWhole_62 : decode cM_isWhole 62 = .ok (.iconst 0, 1) := by decide +kernel
theorem dM_isWhole_63 : decode cM_isWhole 63 = .ok (.ireturn, 1) := by decide +kernel
def f_M_isWhole_j63 (v : MV) (s0 : Int32) : Option Int32 := rb s0
def f_M_isWhole_j58 (v : MV) : Option Int32 := (f_M_isWhole_j63 v (1 : Int32))
def f_M_isWhole_j38 (v : MV) (s0 : Int32) : Option Int32 := rb s0
def f_M_isWhole_j37 (v : MV) : Option Int32 := (f_M_isWhole_j38 v (0 : Int32))
def f_M_isWhole (v : MV) (x1 : Int32) : Option Int32 := (ld 40 (md_kinds v) x1).bind fun u1 => (if u1 = (2 : Int32) then (ld 40 (md_rings v) x1).bind fun u7 => (if u7 ≤ 0 then (f_M_isWhole_j37 v) else (f_M_closed v x1).bind fun u9 => (ld 40 (md_many v) x1).bind fun u10 => (if u9 = u10 then (f_M_isWhole_j38 v (1 : Int32)) else (f_M_isWhole_j37 v))) else (ld 40 (md_kinds v) x1).bind fun u3 => (if u3 = (3 : Int32) then (ld 40 (md_many v) x1).bind fun u5 => (if u5 ≤ 0 then (f_M_isWhole_j63 v (0 : Int32)) else (f_M_isWhole_j58 v)) else (f_M_isWhole_j58 v)))
set_option maxHeartbeats 4000000 in
set_option maxRecDepth 100000 in
theorem k_M_isWhole (l : Launch) (dC : Nat → ClassId) (dI : Nat → Nat → Nat) (cL cI : ClassId) (qm : Nat → Nat) (v : MV) (x1 : Int32) (r : Int32) (h : f_M_isWhole v x1 = some r) : Met l yM_isWhole wsM_isWhole ({ frames := 1, cells := 0, slots := 0, locals := 21 }) (rd_Pc [.ref (qm 0), .int x1] (fun H => va_P (dC, dI) cls3 (mdW cL cI qm v) H) (dC, dI) cls3 [(cL, .long), (cI, .int)]) (vp_Si (fun z => z = r)) 0 0 (fun _ => False) := by
  refine Met.ofW (cc := cM_isWhole) (maxL := 2) (ret := (some .boolean)) (by decide) rfl ?_
  intro p e s m args below meth c s₁ B hml hv
  obtain ⟨rfl, hPm, hK⟩ := hv
  have hx := B.exec
  have hb := B.bytes
  have hr := B.returns
  have hw : ∀ w ∈ wG, w.before ([.ref (qm 0), .int x1] : List Value).toArray s = true := fun w hq => atoms_spec (ws := wsM_isWhole) B.pre w (List.mem_cons_of_mem _ hq)
  have hown : s.vm.findClass R_M = some m.cls := findClass_of_methodNamed B.named
  have hlocks := B.notSynchronized
  have hl := lv_entry ([.ref (qm 0), .int x1] : List Value) (n := 2) (Nat.le_of_ble_eq_true rfl)
  rw [lg_entry_eq]
  generalize (lg_sl ([.ref (qm 0), .int x1] : List Value) ++ List.replicate (2 - (lg_sl ([.ref (qm 0), .int x1] : List Value)).length) Slot.unset).toArray = ls at hl ⊢
  have hl : lv_has ls 2 [(0, .ref (qm 0)), (1, .int x1)] := hl
  have k63 : ∀ (s0 : Int32), f_M_isWhole_j63 v s0 = some r →  ∀ (ls : Array Slot), lv_has ls 2 [] → W p l e (headSpec wsM_isWhole ({ frames := 1, cells := 0, slots := 0, locals := 21 })).room s m ([.ref (qm 0), .int x1] : List Value).toArray below meth c s.heap [] 0 0 (MQ below (vp_Si (fun z => z = r)) ([.ref (qm 0), .int x1] : List Value).toArray s 0 0 (fun _ => False)) (F0 m 63 ls [.int s0]) := by
    intro s0 h  ls hl
    unfold f_M_isWhole_j63 at h
    obtain ⟨hz, hr9⟩ := rb_of h
    exact W.zret hx hb hr hz (fun t ht hW => ⟨_, rfl, hr9, ht⟩) nil_locs dM_isWhole_63
  have k58 : f_M_isWhole_j58 v = some r →  ∀ (ls : Array Slot), lv_has ls 2 [] → W p l e (headSpec wsM_isWhole ({ frames := 1, cells := 0, slots := 0, locals := 21 })).room s m ([.ref (qm 0), .int x1] : List Value).toArray below meth c s.heap [] 0 0 (MQ below (vp_Si (fun z => z = r)) ([.ref (qm 0), .int x1] : List Value).toArray s 0 0 (fun _ => False)) (F0 m 58 ls []) := by
    intro  h  ls hl
    unfold f_M_isWhole_j58 at h
    refine lv_iconst (v := 1) hx hb dM_isWhole_58 (by decide) ?_
    refine lv_goto (tgt := 63) hx hb dM_isWhole_59 (by decide) ?_
    exact k63 (1 : Int32) h ls (lv_sub hl [] rfl)
  have k38 : ∀ (s0 : Int32), f_M_isWhole_j38 v s0 = some r →  ∀ (ls : Array Slot), lv_has ls 2 [] → W p l e (headSpec wsM_isWhole ({ frames := 1, cells := 0, slots := 0, locals := 21 })).room s m ([.ref (qm 0), .int x1] : List Value).toArray below meth c s.heap [] 0 0 (MQ below (vp_Si (fun z => z = r)) ([.ref (qm 0), .int x1] : List Value).toArray s 0 0 (fun _ => False)) (F0 m 38 ls [.int s0]) := by
    intro s0 h  ls hl
    unfold f_M_isWhole_j38 at h
    obtain ⟨hz, hr9⟩ := rb_of h
    exact W.zret hx hb hr hz (fun t ht hW => ⟨_, rfl, hr9, ht⟩) nil_locs dM_isWhole_38
  have k37 : f_M_isWhole_j37 v = some r →  ∀ (ls : Array Slot), lv_has ls 2 [] → W p l e (headSpec wsM_isWhole ({ frames := 1, cells := 0, slots := 0, locals := 21 })).room s m ([.ref (qm 0), .int x1] : List Value).toArray below meth c s.heap [] 0 0 (MQ below (vp_Si (fun z => z = r)) ([.ref (qm 0), .int x1] : List Value).toArray s 0 0 (fun _ => False)) (F0 m 37 ls []) := by
    intro  h  ls hl
    unfold f_M_isWhole_j37 at h
    refine lv_iconst (v := 0) hx hb dM_isWhole_37 (by decide) ?_
    exact k38 (0 : Int32) h ls (lv_sub hl [] rfl)
  unfold f_M_isWhole at h
  refine lv_aload_n hx hb dM_isWhole_0 rfl (lv_at hl 0 rfl) ?_
  refine va_get (D := (dC, dI)) (ci := 2) (v := .ref (qm 1)) (C := R_M) (T := T_M) (N := 15) hx hb hw in_M hown hK hPm 0 rfl rfl 2 (by decide) (hw _ w_447) (fun _ h9 => h9) rfl dM_isWhole_1 ?_
  refine lv_iload_n hx hb dM_isWhole_4 rfl (lv_at hl 1 rfl) ?_
  obtain ⟨u1, hu1, h⟩ := ob_some h
  obtain ⟨hiu1, eu1⟩ := ld_of hu1
  refine va_iald hx hb hK hPm 1 1 rfl rfl hiu1 dM_isWhole_5 ?_
  rw [eu1]
  refine lv_iconst (v := 2) hx hb dM_isWhole_6 (by decide) ?_
  refine lv_icmp_ne (tgt := 39) hx hb dM_isWhole_7 (by decide) (fun c2 => ?_) (fun c2 => ?_)
  · have h := it_f c2 h
    refine lv_aload_n hx hb dM_isWhole_39 rfl (lv_at hl 0 rfl) ?_
    refine va_get (D := (dC, dI)) (ci := 2) (v := .ref (qm 1)) (C := R_M) (T := T_M) (N := 15) hx hb hw in_M hown hK hPm 0 rfl rfl 2 (by decide) (hw _ w_447) (fun _ h9 => h9) rfl dM_isWhole_40 ?_
    refine lv_iload_n hx hb dM_isWhole_43 rfl (lv_at hl 1 rfl) ?_
    obtain ⟨u3, hu3, h⟩ := ob_some h
    obtain ⟨hiu3, eu3⟩ := ld_of hu3
    refine va_iald hx hb hK hPm 1 1 rfl rfl hiu3 dM_isWhole_44 ?_
    rw [eu3]
    refine lv_iconst (v := 3) hx hb dM_isWhole_45 (by decide) ?_
    refine lv_icmp_ne (tgt := 58) hx hb dM_isWhole_46 (by decide) (fun c4 => ?_) (fun c4 => ?_)
    · have h := it_f c4 h
      exact k58 h ls (lv_sub hl [] rfl)
    · have h := it_t c4 h
      refine lv_aload_n hx hb dM_isWhole_49 rfl (lv_at hl 0 rfl) ?_
      refine va_get (D := (dC, dI)) (ci := 2) (v := .ref (qm 5)) (C := R_M) (T := T_M) (N := 15) hx hb hw in_M hown hK hPm 0 rfl rfl 6 (by decide) (hw _ w_451) (fun _ h9 => h9) rfl dM_isWhole_50 ?_
      refine lv_iload_n hx hb dM_isWhole_53 rfl (lv_at hl 1 rfl) ?_
      obtain ⟨u5, hu5, h⟩ := ob_some h
      obtain ⟨hiu5, eu5⟩ := ld_of hu5
      refine va_iald hx hb hK hPm 5 1 rfl rfl hiu5 dM_isWhole_54 ?_
      rw [eu5]
      refine lv_if_le (tgt := 62) hx hb dM_isWhole_55 (by decide) (fun c6 => ?_) (fun c6 => ?_)
      · have h := it_t c6 h
        refine lv_iconst (v := 0) hx hb dM_isWhole_62 (by decide) ?_
        exact k63 (0 : Int32) h ls (lv_sub hl [] rfl)
      · have h := it_f c6 h
        exact k58 h ls (lv_sub hl [] rfl)
  · have h := it_t c2 h
    refine lv_aload_n hx hb dM_isWhole_10 rfl (lv_at hl 0 rfl) ?_
    refine va_get (D := (dC, dI)) (ci := 2) (v := .ref (qm 7)) (C := R_M) (T := T_M) (N := 15) hx hb hw in_M hown hK hPm 0 rfl rfl 8 (by decide) (hw _ w_453) (fun _ h9 => h9) rfl dM_isWhole_11 ?_
    refine lv_iload_n hx hb dM_isWhole_14 rfl (lv_at hl 1 rfl) ?_
    obtain ⟨u7, hu7, h⟩ := ob_some h
    obtain ⟨hiu7, eu7⟩ := ld_of hu7
    refine va_iald hx hb hK hPm 7 1 rfl rfl hiu7 dM_isWhole_15 ?_
    rw [eu7]
    refine lv_if_le (tgt := 37) hx hb dM_isWhole_16 (by decide) (fun c8 => ?_) (fun c8 => ?_)
    · have h := it_t c8 h
      exact k37 h ls (lv_sub hl [] rfl)
    · have h := it_f c8 h
      refine lv_aload_n hx hb dM_isWhole_19 rfl (lv_at hl 0 rfl) ?_
      refine lv_iload_n hx hb dM_isWhole_20 rfl (lv_at hl 1 rfl) ?_
      obtain ⟨u9, hu9, h⟩ := ob_some h
      refine vp_callSi (va_Run.run (va_runV (As := [.int x1]) (rest := []) ⟨hx, hb, hml, hown, hw⟩ (k_M_closed l dC dI cL cI qm v x1 u9 hu9) (cwV 1 hw (gV w_538 w_540 wp_9 w_2 w_541) rfl rfl rfl (by decide +kernel) ⟨Nat.le_of_ble_eq_true rfl, Nat.le_of_ble_eq_true rfl⟩) ⟨rd_blind, va_recv hK hPm (ci := 2) (q0 := 0) rfl rfl, rd_pre hPm hK⟩ rfl rfl hl.1 rfl (lv_room (Nat.le_of_ble_eq_true rfl)) dM_isWhole_21 ⟨Nat.le_of_ble_eq_true rfl, Nat.le_of_ble_eq_true rfl⟩)) (fun z hz => ?_)
      rw [hz]; clear hz
      refine lv_aload_n hx hb dM_isWhole_24 rfl (lv_at hl 0 rfl) ?_
      refine va_get (D := (dC, dI)) (ci := 2) (v := .ref (qm 5)) (C := R_M) (T := T_M) (N := 15) hx hb hw in_M hown hK hPm 0 rfl rfl 6 (by decide) (hw _ w_451) (fun _ h9 => h9) rfl dM_isWhole_25 ?_
      refine lv_iload_n hx hb dM_isWhole_28 rfl (lv_at hl 1 rfl) ?_
      obtain ⟨u10, hu10, h⟩ := ob_some h
      obtain ⟨hiu10, eu10⟩ := ld_of hu10
      refine va_iald hx hb hK hPm 5 1 rfl rfl hiu10 dM_isWhole_29 ?_
      rw [eu10]
      refine lv_icmp_ne (tgt := 37) hx hb dM_isWhole_30 (by decide) (fun c11 => ?_) (fun c11 => ?_)
      · have h := it_f c11 h
        exact k37 h ls (lv_sub hl [] rfl)
      · have h := it_t c11 h
        refine lv_iconst (v := 1) hx hb dM_isWhole_33 (by decide) ?_
        refine lv_goto (tgt := 38) hx hb dM_isWhole_34 (by decide) ?_
        exact k38 (1 : Int32) h ls (lv_sub hl [] rfl)
theorem dM_cross_0 : decode cM_cross 0 = .ok (.lload_n 0, 1) := by decide +kernel
theorem dM_cross_1 : decode cM_cross 1 = .ok (.lload 6, 2) := by decide +kernel
theorem dM_cross_3 : decode cM_cross 3 = .ok (.lmul, 1) := by decide +kernel
theorem dM_cross_4 : decode cM_cross 4 = .ok (.lload_n 2, 1) := by decide +kernel
theorem dM_cross_5 : decode cM_cross 5 = .ok (.lload 4, 2) := by decide +kernel
theorem dM_cross_7 : decode cM_cross 7 = .ok (.lmul, 1) := by decide +kernel
theorem dM_cross_8 : decode cM_cross 8 = .ok (.lsub, 1) := by decide +kernel
theorem dM_cross_9 : decode cM_cross 9 = .ok (.lreturn, 1) := by decide +kernel
def f_M_cross (x0 : Int64) (x2 : Int64) (x4 : Int64) (x6 : Int64) : Option Int64 := some ((x0 * x6) - (x2 * x4))
set_option maxHeartbeats 4000000 in
set_option maxRecDepth 100000 in
theorem k_M_cross (l : Launch) (dC : Nat → ClassId) (dI : Nat → Nat → Nat) (cL cI : ClassId) (x0 : Int64) (x2 : Int64) (x4 : Int64) (x6 : Int64) (r : Int64) (h : f_M_cross x0 x2 x4 x6 = some r) : Met l yM_cross wsM_cross ({ frames := 0, cells := 0, slots := 0, locals := 0 }) (rd_Pc [.long x0, .long x2, .long x4, .long x6] (fun _ => True) (dC, dI) cls3 [(cL, .long), (cI, .int)]) (vp_Sl (fun z => z = r)) 0 0 (fun _ => False) := by
  refine Met.ofW (cc := cM_cross) (maxL := 8) (ret := (some .long)) (by decide) rfl ?_
  intro p e s m args below meth c s₁ B hml hv
  obtain ⟨rfl, hF, hK⟩ := hv
  have hx := B.exec
  have hb := B.bytes
  have hr := B.returns
  have hw : ∀ w ∈ wG, w.before ([.long x0, .long x2, .long x4, .long x6] : List Value).toArray s = true := fun w hq => atoms_spec (ws := wsM_cross) B.pre w (List.mem_cons_of_mem _ hq)
  have hown : s.vm.findClass R_M = some m.cls := findClass_of_methodNamed B.named
  have hlocks := B.notSynchronized
  have hl := lv_entry ([.long x0, .long x2, .long x4, .long x6] : List Value) (n := 8) (Nat.le_of_ble_eq_true rfl)
  rw [lg_entry_eq]
  generalize (lg_sl ([.long x0, .long x2, .long x4, .long x6] : List Value) ++ List.replicate (8 - (lg_sl ([.long x0, .long x2, .long x4, .long x6] : List Value)).length) Slot.unset).toArray = ls at hl ⊢
  have hl : lv_has ls 8 [(0, .long x0), (2, .long x2), (4, .long x4), (6, .long x6)] := hl
  unfold f_M_cross at h
  refine lv_lload_n hx hb dM_cross_0 rfl (lv_at hl 0 rfl) ?_
  refine lv_lload hx hb dM_cross_1 (lv_at hl 3 rfl) ?_
  refine lv_lmul hx hb dM_cross_3 ?_
  refine lv_lload_n hx hb dM_cross_4 rfl (lv_at hl 1 rfl) ?_
  refine lv_lload hx hb dM_cross_5 (lv_at hl 2 rfl) ?_
  refine lv_lmul hx hb dM_cross_7 ?_
  refine lv_lsub hx hb dM_cross_8 ?_
  exact W.lret hx hb hr (fun t ht hW => ⟨_, rfl, Option.some.inj h, ht⟩) nil_locs dM_cross_9
theorem dM_sign_0 : decode cM_sign 0 = .ok (.lload_n 0, 1) := by decide +kernel
theorem dM_sign_1 : decode cM_sign 1 = .ok (.lconst 0, 1) := by decide +kernel
theorem dM_sign_2 : decode cM_sign 2 = .ok (.lcmp, 1) := by decide +kernel
theorem dM_sign_3 : decode cM_sign 3 = .ok (.ifCond .ge 7, 3) := by decide +kernel
theorem dM_sign_6 : decode cM_sign 6 = .ok (.iconst (-1), 1) := by decide +kernel
theorem dM_sign_7 : decode cM_sign 7 = .ok (.goto 14, 3) := by decide +kernel
theorem dM_sign_10 : decode cM_sign 10 = .ok (.lload_n 0, 1) := by decide +kernel
theorem dM_sign_11 : decode cM_sign 11 = .ok (.lconst 0, 1) := by decide +kernel
theorem dM_sign_12 : decode cM_sign 12 = .ok (.lcmp, 1) := by decide +kernel
theorem dM_sign_13 : decode cM_sign 13 = .ok (.ifCond .le 7, 3) := by decide +kernel
theorem dM_sign_16 : decode cM_sign 16 = .ok (.iconst 1, 1) := by decide +kernel
theorem dM_sign_17 : decode cM_sign 17 = .ok (.goto 4, 3) := by decide +kernel
theorem dM_sign_20 : decode cM_sign 20 = .ok (.iconst 0, 1) := by decide +kernel
theorem dM_sign_21 : decode cM_sign 21 = .ok (.ireturn, 1) := by decide +kernel
def f_M_sign_j21 (s0 : Int32) : Option Int32 := some s0
def f_M_sign (x0 : Int64) : Option Int32 := (if 0 ≤ (lg_cmp x0 (0 : Int64)) then (if (lg_cmp x0 (0 : Int64)) ≤ 0 then (f_M_sign_j21 (0 : Int32)) else (f_M_sign_j21 (1 : Int32))) else (f_M_sign_j21 (-1 : Int32)))
set_option maxHeartbeats 4000000 in
set_option maxRecDepth 100000 in
theorem k_M_sign (l : Launch) (dC : Nat → ClassId) (dI : Nat → Nat → Nat) (cL cI : ClassId) (x0 : Int64) (r : Int32) (h : f_M_sign x0 = some r) : Met l yM_sign wsM_sign ({ frames := 0, cells := 0, slots := 0, locals := 0 }) (rd_Pc [.long x0] (fun _ => True) (dC, dI) cls3 [(cL, .long), (cI, .int)]) (vp_Si (fun z => z = r)) 0 0 (fun _ => False) := by
  refine Met.ofW (cc := cM_sign) (maxL := 2) (ret := (some .int)) (by decide) rfl ?_
  intro p e s m args below meth c s₁ B hml hv
  obtain ⟨rfl, hF, hK⟩ := hv
  have hx := B.exec
  have hb := B.bytes
  have hr := B.returns
  have hw : ∀ w ∈ wG, w.before ([.long x0] : List Value).toArray s = true := fun w hq => atoms_spec (ws := wsM_sign) B.pre w (List.mem_cons_of_mem _ hq)
  have hown : s.vm.findClass R_M = some m.cls := findClass_of_methodNamed B.named
  have hlocks := B.notSynchronized
  have hl := lv_entry ([.long x0] : List Value) (n := 2) (Nat.le_of_ble_eq_true rfl)
  rw [lg_entry_eq]
  generalize (lg_sl ([.long x0] : List Value) ++ List.replicate (2 - (lg_sl ([.long x0] : List Value)).length) Slot.unset).toArray = ls at hl ⊢
  have hl : lv_has ls 2 [(0, .long x0)] := hl
  have k21 : ∀ (s0 : Int32), f_M_sign_j21 s0 = some r →  ∀ (ls : Array Slot), lv_has ls 2 [] → W p l e (headSpec wsM_sign ({ frames := 0, cells := 0, slots := 0, locals := 0 })).room s m ([.long x0] : List Value).toArray below meth c s.heap [] 0 0 (MQ below (vp_Si (fun z => z = r)) ([.long x0] : List Value).toArray s 0 0 (fun _ => False)) (F0 m 21 ls [.int s0]) := by
    intro s0 h  ls hl
    unfold f_M_sign_j21 at h
    exact W.iret hx hb hr (fun t ht hW => ⟨_, rfl, Option.some.inj h, ht⟩) nil_locs dM_sign_21
  unfold f_M_sign at h
  refine lv_lload_n hx hb dM_sign_0 rfl (lv_at hl 0 rfl) ?_
  refine lv_lconst (v := 0) hx hb dM_sign_1 (by decide) ?_
  refine W.lcmp hx hb dM_sign_2 ?_
  refine lv_if_ge (tgt := 10) hx hb dM_sign_3 (by decide) (fun c1 => ?_) (fun c1 => ?_)
  · have h := it_t c1 h
    refine lv_lload_n hx hb dM_sign_10 rfl (lv_at hl 0 rfl) ?_
    refine lv_lconst (v := 0) hx hb dM_sign_11 (by decide) ?_
    refine W.lcmp hx hb dM_sign_12 ?_
    refine lv_if_le (tgt := 20) hx hb dM_sign_13 (by decide) (fun c2 => ?_) (fun c2 => ?_)
    · have h := it_t c2 h
      refine lv_iconst (v := 0) hx hb dM_sign_20 (by decide) ?_
      exact k21 (0 : Int32) h ls (lv_sub hl [] rfl)
    · have h := it_f c2 h
      refine lv_iconst (v := 1) hx hb dM_sign_16 (by decide) ?_
      refine lv_goto (tgt := 21) hx hb dM_sign_17 (by decide) ?_
      exact k21 (1 : Int32) h ls (lv_sub hl [] rfl)
  · have h := it_f c1 h
    refine lv_iconst (v := -1) hx hb dM_sign_6 (by decide) ?_
    refine lv_goto (tgt := 21) hx hb dM_sign_7 (by decide) ?_
    exact k21 (-1 : Int32) h ls (lv_sub hl [] rfl)
theorem dM_turnOf_0 : decode cM_turnOf 0 = .ok (.lload 4, 2) := by decide +kernel
theorem dM_turnOf_2 : decode cM_turnOf 2 = .ok (.lload_n 0, 1) := by decide +kernel
theorem dM_turnOf_3 : decode cM_turnOf 3 = .ok (.lsub, 1) := by decide +kernel
theorem dM_turnOf_4 : decode cM_turnOf 4 = .ok (.lload 6, 2) := by decide +kernel
theorem dM_turnOf_6 : decode cM_turnOf 6 = .ok (.lload_n 2, 1) := by decide +kernel
theorem dM_turnOf_7 : decode cM_turnOf 7 = .ok (.lsub, 1) := by decide +kernel
theorem dM_turnOf_8 : decode cM_turnOf 8 = .ok (.lload 8, 2) := by decide +kernel
theorem dM_turnOf_10 : decode cM_turnOf 10 = .ok (.lload_n 0, 1) := by decide +kernel
theorem dM_turnOf_11 : decode cM_turnOf 11 = .ok (.lsub, 1) := by decide +kernel
theorem dM_turnOf_12 : decode cM_turnOf 12 = .ok (.lload 10, 2) := by decide +kernel
theorem dM_turnOf_14 : decode cM_turnOf 14 = .ok (.lload_n 2, 1) := by decide +kernel
theorem dM_turnOf_15 : decode cM_turnOf 15 = .ok (.lsub, 1) := by decide +kernel
theorem dM_turnOf_16 : decode cM_turnOf 16 = .ok (.invokestatic 91, 3) := by decide +kernel
theorem dM_turnOf_19 : decode cM_turnOf 19 = .ok (.invokestatic 95, 3) := by decide +kernel
theorem dM_turnOf_22 : decode cM_turnOf 22 = .ok (.ireturn, 1) := by decide +kernel
def f_M_turnOf (x0 : Int64) (x2 : Int64) (x4 : Int64) (x6 : Int64) (x8 : Int64) (x10 : Int64) : Option Int32 := (f_M_cross (x4 - x0) (x6 - x2) (x8 - x0) (x10 - x2)).bind fun u1 => (f_M_sign u1).bind fun u2 => some u2
set_option maxHeartbeats 4000000 in
set_option maxRecDepth 100000 in
theorem k_M_turnOf (l : Launch) (dC : Nat → ClassId) (dI : Nat → Nat → Nat) (cL cI : ClassId) (x0 : Int64) (x2 : Int64) (x4 : Int64) (x6 : Int64) (x8 : Int64) (x10 : Int64) (r : Int32) (h : f_M_turnOf x0 x2 x4 x6 x8 x10 = some r) : Met l yM_turnOf wsM_turnOf ({ frames := 1, cells := 0, slots := 0, locals := 27 }) (rd_Pc [.long x0, .long x2, .long x4, .long x6, .long x8, .long x10] (fun _ => True) (dC, dI) cls3 [(cL, .long), (cI, .int)]) (vp_Si (fun z => z = r)) 0 0 (fun _ => False) := by
  refine Met.ofW (cc := cM_turnOf) (maxL := 12) (ret := (some .int)) (by decide) rfl ?_
  intro p e s m args below meth c s₁ B hml hv
  obtain ⟨rfl, hF, hK⟩ := hv
  have hx := B.exec
  have hb := B.bytes
  have hr := B.returns
  have hw : ∀ w ∈ wG, w.before ([.long x0, .long x2, .long x4, .long x6, .long x8, .long x10] : List Value).toArray s = true := fun w hq => atoms_spec (ws := wsM_turnOf) B.pre w (List.mem_cons_of_mem _ hq)
  have hown : s.vm.findClass R_M = some m.cls := findClass_of_methodNamed B.named
  have hlocks := B.notSynchronized
  have hl := lv_entry ([.long x0, .long x2, .long x4, .long x6, .long x8, .long x10] : List Value) (n := 12) (Nat.le_of_ble_eq_true rfl)
  rw [lg_entry_eq]
  generalize (lg_sl ([.long x0, .long x2, .long x4, .long x6, .long x8, .long x10] : List Value) ++ List.replicate (12 - (lg_sl ([.long x0, .long x2, .long x4, .long x6, .long x8, .long x10] : List Value)).length) Slot.unset).toArray = ls at hl ⊢
  have hl : lv_has ls 12 [(0, .long x0), (2, .long x2), (4, .long x4), (6, .long x6), (8, .long x8), (10, .long x10)] := hl
  unfold f_M_turnOf at h
  refine lv_lload hx hb dM_turnOf_0 (lv_at hl 2 rfl) ?_
  refine lv_lload_n hx hb dM_turnOf_2 rfl (lv_at hl 0 rfl) ?_
  refine lv_lsub hx hb dM_turnOf_3 ?_
  refine lv_lload hx hb dM_turnOf_4 (lv_at hl 3 rfl) ?_
  refine lv_lload_n hx hb dM_turnOf_6 rfl (lv_at hl 1 rfl) ?_
  refine lv_lsub hx hb dM_turnOf_7 ?_
  refine lv_lload hx hb dM_turnOf_8 (lv_at hl 4 rfl) ?_
  refine lv_lload_n hx hb dM_turnOf_10 rfl (lv_at hl 0 rfl) ?_
  refine lv_lsub hx hb dM_turnOf_11 ?_
  refine lv_lload hx hb dM_turnOf_12 (lv_at hl 5 rfl) ?_
  refine lv_lload_n hx hb dM_turnOf_14 rfl (lv_at hl 1 rfl) ?_
  refine lv_lsub hx hb dM_turnOf_15 ?_
  obtain ⟨u1, hu1, h⟩ := ob_some h
  refine vp_callSl (va_Run.run (va_runS (As := [.long (x4 - x0), .long (x6 - x2), .long (x8 - x0), .long (x10 - x2)]) (rest := []) ⟨hx, hb, hml, hown, hw⟩ (k_M_cross l dC dI cL cI (x4 - x0) (x6 - x2) (x8 - x0) (x10 - x2) u1 hu1) (va_cwS 4 hw (gS w_561 w_562 w_2 w_563) rfl rfl rfl (by decide +kernel) ⟨Nat.le_of_ble_eq_true rfl, Nat.le_of_ble_eq_true rfl⟩) ⟨rd_blind, rd_pre trivial hK⟩ rfl rfl hl.1 rfl (lv_room (Nat.le_of_ble_eq_true rfl)) dM_turnOf_16 ⟨Nat.le_of_ble_eq_true rfl, Nat.le_of_ble_eq_true rfl⟩)) (fun z hz => ?_)
  rw [hz]; clear hz
  obtain ⟨u2, hu2, h⟩ := ob_some h
  refine vp_callSi (va_Run.run (va_runS (As := [.long u1]) (rest := []) ⟨hx, hb, hml, hown, hw⟩ (k_M_sign l dC dI cL cI u1 u2 hu2) (va_cwS 1 hw (gS w_564 w_565 w_2 w_566) rfl rfl rfl (by decide +kernel) ⟨Nat.le_of_ble_eq_true rfl, Nat.le_of_ble_eq_true rfl⟩) ⟨rd_blind, rd_pre trivial hK⟩ rfl rfl hl.1 rfl (lv_room (Nat.le_of_ble_eq_true rfl)) dM_turnOf_19 ⟨Nat.le_of_ble_eq_true rfl, Nat.le_of_ble_eq_true rfl⟩)) (fun z hz => ?_)
  rw [hz]; clear hz
  exact W.iret hx hb hr (fun t ht hW => ⟨_, rfl, Option.some.inj h, ht⟩) nil_locs dM_turnOf_22
theorem dM_between_0 : decode cM_between 0 = .ok (.lload_n 0, 1) := by decide +kernel
theorem dM_between_1 : decode cM_between 1 = .ok (.lload_n 2, 1) := by decide +kernel
theorem dM_between_2 : decode cM_between 2 = .ok (.lcmp, 1) := by decide +kernel
theorem dM_between_3 : decode cM_between 3 = .ok (.ifCond .lt 10, 3) := by decide +kernel
theorem dM_between_6 : decode cM_between 6 = .ok (.lload_n 0, 1) := by decide +kernel
theorem dM_between_7 : decode cM_between 7 = .ok (.lload 4, 2) := by decide +kernel
theorem dM_between_9 : decode cM_between 9 = .ok (.lcmp, 1) := by decide +kernel
theorem dM_between_10 : decode cM_between 10 = .ok (.ifCond .le 16, 3) := by decide +kernel
theorem dM_between_13 : decode cM_between 13 = .ok (.lload_n 0, 1) := by decide +kernel
theorem dM_between_14 : decode cM_between 14 = .ok (.lload 4, 2) := by decide +kernel
theorem dM_between_16 : decode cM_between 16 = .ok (.lcmp, 1) := by decide +kernel
theorem dM_between_17 : decode cM_between 17 = .ok (.ifCond .lt 13, 3) := by decide +kernel
theorem dM_between_20 : decode cM_between 20 = .ok (.lload_n 0, 1) := by decide +kernel
theorem dM_between_21 : decode cM_between 21 = .ok (.lload_n 2, 1) := by decide +kernel
theorem dM_between_22 : decode cM_between 22 = .ok (.lcmp, 1) := by decide +kernel
theorem dM_between_23 : decode cM_between 23 = .ok (.ifCond .gt 7, 3) := by decide +kernel
theorem dM_between_26 : decode cM_between 26 = .ok (.iconst 1, 1) := by decide +kernel
theorem dM_between_27 : decode cM_between 27 = .ok (.goto 4, 3) := by decide +kernel
theorem dM_between_30 : decode cM_between 30 = .ok (.iconst 0, 1) := by decide +kernel
theorem dM_between_31 : decode cM_between 31 = .ok (.ireturn, 1) := by decide +kernel
def f_M_between_j31 (s0 : Int32) : Option Int32 := rb s0
def f_M_between_j30 : Option Int32 := (f_M_between_j31 (0 : Int32))
def f_M_between_j26 : Option Int32 := (f_M_between_j31 (1 : Int32))
def f_M_between_j13 (p0 : Int64) (p2 : Int64) (p4 : Int64) : Option Int32 := (if (lg_cmp p0 p4) < 0 then f_M_between_j30 else (if 0 < (lg_cmp p0 p2) then f_M_between_j30 else f_M_between_j26))
def f_M_between (x0 : Int64) (x2 : Int64) (x4 : Int64) : Option Int32 := (if (lg_cmp x0 x2) < 0 then (f_M_between_j13 x0 x2 x4) else (if (lg_cmp x0 x4) ≤ 0 then f_M_between_j26 else (f_M_between_j13 x0 x2 x4)))
set_option maxHeartbeats 4000000 in
set_option maxRecDepth 100000 in
theorem k_M_between (l : Launch) (dC : Nat → ClassId) (dI : Nat → Nat → Nat) (cL cI : ClassId) (x0 : Int64) (x2 : Int64) (x4 : Int64) (r : Int32) (h : f_M_between x0 x2 x4 = some r) : Met l yM_between wsM_between ({ frames := 0, cells := 0, slots := 0, locals := 0 }) (rd_Pc [.long x0, .long x2, .long x4] (fun _ => True) (dC, dI) cls3 [(cL, .long), (cI, .int)]) (vp_Si (fun z => z = r)) 0 0 (fun _ => False) := by
  refine Met.ofW (cc := cM_between) (maxL := 6) (ret := (some .boolean)) (by decide) rfl ?_
  intro p e s m args below meth c s₁ B hml hv
  obtain ⟨rfl, hF, hK⟩ := hv
  have hx := B.exec
  have hb := B.bytes
  have hr := B.returns
  have hw : ∀ w ∈ wG, w.before ([.long x0, .long x2, .long x4] : List Value).toArray s = true := fun w hq => atoms_spec (ws := wsM_between) B.pre w (List.mem_cons_of_mem _ hq)
  have hown : s.vm.findClass R_M = some m.cls := findClass_of_methodNamed B.named
  have hlocks := B.notSynchronized
  have hl := lv_entry ([.long x0, .long x2, .long x4] : List Value) (n := 6) (Nat.le_of_ble_eq_true rfl)
  rw [lg_entry_eq]
  generalize (lg_sl ([.long x0, .long x2, .long x4] : List Value) ++ List.replicate (6 - (lg_sl ([.long x0, .long x2, .long x4] : List Value)).length) Slot.unset).toArray = ls at hl ⊢
  have hl : lv_has ls 6 [(0, .long x0), (2, .long x2), (4, .long x4)] := hl
  have k31 : ∀ (s0 : Int32), f_M_between_j31 s0 = some r →  ∀ (ls : Array Slot), lv_has ls 6 [] → W p l e (headSpec wsM_between ({ frames := 0, cells := 0, slots := 0, locals := 0 })).room s m ([.long x0, .long x2, .long x4] : List Value).toArray below meth c s.heap [] 0 0 (MQ below (vp_Si (fun z => z = r)) ([.long x0, .long x2, .long x4] : List Value).toArray s 0 0 (fun _ => False)) (F0 m 31 ls [.int s0]) := by
    intro s0 h  ls hl
    unfold f_M_between_j31 at h
    obtain ⟨hz, hr9⟩ := rb_of h
    exact W.zret hx hb hr hz (fun t ht hW => ⟨_, rfl, hr9, ht⟩) nil_locs dM_between_31
  have k30 : f_M_between_j30 = some r →  ∀ (ls : Array Slot), lv_has ls 6 [] → W p l e (headSpec wsM_between ({ frames := 0, cells := 0, slots := 0, locals := 0 })).room s m ([.long x0, .long x2, .long x4] : List Value).toArray below meth c s.heap [] 0 0 (MQ below (vp_Si (fun z => z = r)) ([.long x0, .long x2, .long x4] : List Value).toArray s 0 0 (fun _ => False)) (F0 m 30 ls []) := by
    intro  h  ls hl
    unfold f_M_between_j30 at h
    refine lv_iconst (v := 0) hx hb dM_between_30 (by decide) ?_
    exact k31 (0 : Int32) h ls (lv_sub hl [] rfl)
  have k26 : f_M_between_j26 = some r →  ∀ (ls : Array Slot), lv_has ls 6 [] → W p l e (headSpec wsM_between ({ frames := 0, cells := 0, slots := 0, locals := 0 })).room s m ([.long x0, .long x2, .long x4] : List Value).toArray below meth c s.heap [] 0 0 (MQ below (vp_Si (fun z => z = r)) ([.long x0, .long x2, .long x4] : List Value).toArray s 0 0 (fun _ => False)) (F0 m 26 ls []) := by
    intro  h  ls hl
    unfold f_M_between_j26 at h
    refine lv_iconst (v := 1) hx hb dM_between_26 (by decide) ?_
    refine lv_goto (tgt := 31) hx hb dM_between_27 (by decide) ?_
    exact k31 (1 : Int32) h ls (lv_sub hl [] rfl)
  have k13 : ∀ (p0 : Int64) (p2 : Int64) (p4 : Int64), f_M_between_j13 p0 p2 p4 = some r →  ∀ (ls : Array Slot), lv_has ls 6 [(0, .long p0), (2, .long p2), (4, .long p4)] → W p l e (headSpec wsM_between ({ frames := 0, cells := 0, slots := 0, locals := 0 })).room s m ([.long x0, .long x2, .long x4] : List Value).toArray below meth c s.heap [] 0 0 (MQ below (vp_Si (fun z => z = r)) ([.long x0, .long x2, .long x4] : List Value).toArray s 0 0 (fun _ => False)) (F0 m 13 ls []) := by
    intro p0 p2 p4 h  ls hl
    unfold f_M_between_j13 at h
    refine lv_lload_n hx hb dM_between_13 rfl (lv_at hl 0 rfl) ?_
    refine lv_lload hx hb dM_between_14 (lv_at hl 2 rfl) ?_
    refine W.lcmp hx hb dM_between_16 ?_
    refine lv_if_lt (tgt := 30) hx hb dM_between_17 (by decide) (fun c3 => ?_) (fun c3 => ?_)
    · have h := it_t c3 h
      exact k30 h ls (lv_sub hl [] rfl)
    · have h := it_f c3 h
      refine lv_lload_n hx hb dM_between_20 rfl (lv_at hl 0 rfl) ?_
      refine lv_lload_n hx hb dM_between_21 rfl (lv_at hl 1 rfl) ?_
      refine W.lcmp hx hb dM_between_22 ?_
      refine lv_if_gt (tgt := 30) hx hb dM_between_23 (by decide) (fun c4 => ?_) (fun c4 => ?_)
      · have h := it_t c4 h
        exact k30 h ls (lv_sub hl [] rfl)
      · have h := it_f c4 h
        exact k26 h ls (lv_sub hl [] rfl)
  unfold f_M_between at h
  refine lv_lload_n hx hb dM_between_0 rfl (lv_at hl 0 rfl) ?_
  refine lv_lload_n hx hb dM_between_1 rfl (lv_at hl 1 rfl) ?_
  refine W.lcmp hx hb dM_between_2 ?_
  refine lv_if_lt (tgt := 13) hx hb dM_between_3 (by decide) (fun c1 => ?_) (fun c1 => ?_)
  · have h := it_t c1 h
    exact k13 x0 x2 x4 h ls (lv_sub hl [0, 1, 2] rfl)
  · have h := it_f c1 h
    refine lv_lload_n hx hb dM_between_6 rfl (lv_at hl 0 rfl) ?_
    refine lv_lload hx hb dM_between_7 (lv_at hl 2 rfl) ?_
    refine W.lcmp hx hb dM_between_9 ?_
    refine lv_if_le (tgt := 26) hx hb dM_between_10 (by decide) (fun c2 => ?_) (fun c2 => ?_)
    · have h := it_t c2 h
      exact k26 h ls (lv_sub hl [] rfl)
    · have h := it_f c2 h
      exact k13 x0 x2 x4 h ls (lv_sub hl [0, 1, 2] rfl)
theorem dM_isOn_0 : decode cM_isOn 0 = .ok (.lload_n 0, 1) := by decide +kernel
theorem dM_isOn_1 : decode cM_isOn 1 = .ok (.lload 4, 2) := by decide +kernel
theorem dM_isOn_3 : decode cM_isOn 3 = .ok (.lload 8, 2) := by decide +kernel
theorem dM_isOn_5 : decode cM_isOn 5 = .ok (.invokestatic 99, 3) := by decide +kernel
theorem dM_isOn_8 : decode cM_isOn 8 = .ok (.ifCond .eq 34, 3) := by decide +kernel
theorem dM_isOn_11 : decode cM_isOn 11 = .ok (.lload_n 2, 1) := by decide +kernel
theorem dM_isOn_12 : decode cM_isOn 12 = .ok (.lload 6, 2) := by decide +kernel
theorem dM_isOn_14 : decode cM_isOn 14 = .ok (.lload 10, 2) := by decide +kernel
theorem dM_isOn_16 : decode cM_isOn 16 = .ok (.invokestatic 99, 3) := by decide +kernel
theorem dM_isOn_19 : decode cM_isOn 19 = .ok (.ifCond .eq 23, 3) := by decide +kernel
theorem dM_isOn_22 : decode cM_isOn 22 = .ok (.lload 4, 2) := by decide +kernel
theorem dM_isOn_24 : decode cM_isOn 24 = .ok (.lload 6, 2) := by decide +kernel
theorem dM_isOn_26 : decode cM_isOn 26 = .ok (.lload 8, 2) := by decide +kernel
theorem dM_isOn_28 : decode cM_isOn 28 = .ok (.lload 10, 2) := by decide +kernel
theorem dM_isOn_30 : decode cM_isOn 30 = .ok (.lload_n 0, 1) := by decide +kernel
theorem dM_isOn_31 : decode cM_isOn 31 = .ok (.lload_n 2, 1) := by decide +kernel
theorem dM_isOn_32 : decode cM_isOn 32 = .ok (.invokestatic 103, 3) := by decide +kernel
theorem dM_isOn_35 : decode cM_isOn 35 = .ok (.ifCond .ne 7, 3) := by decide +kernel
theorem dM_isOn_38 : decode cM_isOn 38 = .ok (.iconst 1, 1) := by decide +kernel
theorem dM_isOn_39 : decode cM_isOn 39 = .ok (.goto 4, 3) := by decide +kernel
theorem dM_isOn_42 : decode cM_isOn 42 = .ok (.iconst 0, 1) := by decide +kernel
theorem dM_isOn_43 : decode cM_isOn 43 = .ok (.ireturn, 1) := by decide +kernel
def f_M_isOn_j43 (s0 : Int32) : Option Int32 := rb s0
def f_M_isOn_j42 : Option Int32 := (f_M_isOn_j43 (0 : Int32))
def f_M_isOn (x0 : Int64) (x2 : Int64) (x4 : Int64) (x6 : Int64) (x8 : Int64) (x10 : Int64) : Option Int32 := (f_M_between x0 x4 x8).bind fun u1 => (if u1 = 0 then f_M_isOn_j42 else (f_M_between x2 x6 x10).bind fun u3 => (if u3 = 0 then f_M_isOn_j42 else (f_M_turnOf x4 x6 x8 x10 x0 x2).bind fun u5 => (if u5 = 0 then (f_M_isOn_j43 (1 : Int32)) else f_M_isOn_j42)))
set_option maxHeartbeats 4000000 in
set_option maxRecDepth 100000 in
theorem k_M_isOn (l : Launch) (dC : Nat → ClassId) (dI : Nat → Nat → Nat) (cL cI : ClassId) (x0 : Int64) (x2 : Int64) (x4 : Int64) (x6 : Int64) (x8 : Int64) (x10 : Int64) (r : Int32) (h : f_M_isOn x0 x2 x4 x6 x8 x10 = some r) : Met l yM_isOn wsM_isOn ({ frames := 2, cells := 0, slots := 0, locals := 58 }) (rd_Pc [.long x0, .long x2, .long x4, .long x6, .long x8, .long x10] (fun _ => True) (dC, dI) cls3 [(cL, .long), (cI, .int)]) (vp_Si (fun z => z = r)) 0 0 (fun _ => False) := by
  refine Met.ofW (cc := cM_isOn) (maxL := 12) (ret := (some .boolean)) (by decide) rfl ?_
  intro p e s m args below meth c s₁ B hml hv
  obtain ⟨rfl, hF, hK⟩ := hv
  have hx := B.exec
  have hb := B.bytes
  have hr := B.returns
  have hw : ∀ w ∈ wG, w.before ([.long x0, .long x2, .long x4, .long x6, .long x8, .long x10] : List Value).toArray s = true := fun w hq => atoms_spec (ws := wsM_isOn) B.pre w (List.mem_cons_of_mem _ hq)
  have hown : s.vm.findClass R_M = some m.cls := findClass_of_methodNamed B.named
  have hlocks := B.notSynchronized
  have hl := lv_entry ([.long x0, .long x2, .long x4, .long x6, .long x8, .long x10] : List Value) (n := 12) (Nat.le_of_ble_eq_true rfl)
  rw [lg_entry_eq]
  generalize (lg_sl ([.long x0, .long x2, .long x4, .long x6, .long x8, .long x10] : List Value) ++ List.replicate (12 - (lg_sl ([.long x0, .long x2, .long x4, .long x6, .long x8, .long x10] : List Value)).length) Slot.unset).toArray = ls at hl ⊢
  have hl : lv_has ls 12 [(0, .long x0), (2, .long x2), (4, .long x4), (6, .long x6), (8, .long x8), (10, .long x10)] := hl
  have k43 : ∀ (s0 : Int32), f_M_isOn_j43 s0 = some r →  ∀ (ls : Array Slot), lv_has ls 12 [] → W p l e (headSpec wsM_isOn ({ frames := 2, cells := 0, slots := 0, locals := 58 })).room s m ([.long x0, .long x2, .long x4, .long x6, .long x8, .long x10] : List Value).toArray below meth c s.heap [] 0 0 (MQ below (vp_Si (fun z => z = r)) ([.long x0, .long x2, .long x4, .long x6, .long x8, .long x10] : List Value).toArray s 0 0 (fun _ => False)) (F0 m 43 ls [.int s0]) := by
    intro s0 h  ls hl
    unfold f_M_isOn_j43 at h
    obtain ⟨hz, hr9⟩ := rb_of h
    exact W.zret hx hb hr hz (fun t ht hW => ⟨_, rfl, hr9, ht⟩) nil_locs dM_isOn_43
  have k42 : f_M_isOn_j42 = some r →  ∀ (ls : Array Slot), lv_has ls 12 [] → W p l e (headSpec wsM_isOn ({ frames := 2, cells := 0, slots := 0, locals := 58 })).room s m ([.long x0, .long x2, .long x4, .long x6, .long x8, .long x10] : List Value).toArray below meth c s.heap [] 0 0 (MQ below (vp_Si (fun z => z = r)) ([.long x0, .long x2, .long x4, .long x6, .long x8, .long x10] : List Value).toArray s 0 0 (fun _ => False)) (F0 m 42 ls []) := by
    intro  h  ls hl
    unfold f_M_isOn_j42 at h
    refine lv_iconst (v := 0) hx hb dM_isOn_42 (by decide) ?_
    exact k43 (0 : Int32) h ls (lv_sub hl [] rfl)
  unfold f_M_isOn at h
  refine lv_lload_n hx hb dM_isOn_0 rfl (lv_at hl 0 rfl) ?_
  refine lv_lload hx hb dM_isOn_1 (lv_at hl 2 rfl) ?_
  refine lv_lload hx hb dM_isOn_3 (lv_at hl 4 rfl) ?_
  obtain ⟨u1, hu1, h⟩ := ob_some h
  refine vp_callSi (va_Run.run (va_runS (As := [.long x0, .long x4, .long x8]) (rest := []) ⟨hx, hb, hml, hown, hw⟩ (k_M_between l dC dI cL cI x0 x4 x8 u1 hu1) (va_cwS 3 hw (gS w_581 w_582 w_2 w_583) rfl rfl rfl (by decide +kernel) ⟨Nat.le_of_ble_eq_true rfl, Nat.le_of_ble_eq_true rfl⟩) ⟨rd_blind, rd_pre trivial hK⟩ rfl rfl hl.1 rfl (lv_room (Nat.le_of_ble_eq_true rfl)) dM_isOn_5 ⟨Nat.le_of_ble_eq_true rfl, Nat.le_of_ble_eq_true rfl⟩)) (fun z hz => ?_)
  rw [hz]; clear hz
  refine lv_if_eq (tgt := 42) hx hb dM_isOn_8 (by decide) (fun c2 => ?_) (fun c2 => ?_)
  · have h := it_t c2 h
    exact k42 h ls (lv_sub hl [] rfl)
  · have h := it_f c2 h
    refine lv_lload_n hx hb dM_isOn_11 rfl (lv_at hl 1 rfl) ?_
    refine lv_lload hx hb dM_isOn_12 (lv_at hl 3 rfl) ?_
    refine lv_lload hx hb dM_isOn_14 (lv_at hl 5 rfl) ?_
    obtain ⟨u3, hu3, h⟩ := ob_some h
    refine vp_callSi (va_Run.run (va_runS (As := [.long x2, .long x6, .long x10]) (rest := []) ⟨hx, hb, hml, hown, hw⟩ (k_M_between l dC dI cL cI x2 x6 x10 u3 hu3) (va_cwS 3 hw (gS w_581 w_582 w_2 w_583) rfl rfl rfl (by decide +kernel) ⟨Nat.le_of_ble_eq_true rfl, Nat.le_of_ble_eq_true rfl⟩) ⟨rd_blind, rd_pre trivial hK⟩ rfl rfl hl.1 rfl (lv_room (Nat.le_of_ble_eq_true rfl)) dM_isOn_16 ⟨Nat.le_of_ble_eq_true rfl, Nat.le_of_ble_eq_true rfl⟩)) (fun z hz => ?_)
    rw [hz]; clear hz
    refine lv_if_eq (tgt := 42) hx hb dM_isOn_19 (by decide) (fun c4 => ?_) (fun c4 => ?_)
    · have h := it_t c4 h
      exact k42 h ls (lv_sub hl [] rfl)
    · have h := it_f c4 h
      refine lv_lload hx hb dM_isOn_22 (lv_at hl 2 rfl) ?_
      refine lv_lload hx hb dM_isOn_24 (lv_at hl 3 rfl) ?_
      refine lv_lload hx hb dM_isOn_26 (lv_at hl 4 rfl) ?_
      refine lv_lload hx hb dM_isOn_28 (lv_at hl 5 rfl) ?_
      refine lv_lload_n hx hb dM_isOn_30 rfl (lv_at hl 0 rfl) ?_
      refine lv_lload_n hx hb dM_isOn_31 rfl (lv_at hl 1 rfl) ?_
      obtain ⟨u5, hu5, h⟩ := ob_some h
      refine vp_callSi (va_Run.run (va_runS (As := [.long x4, .long x6, .long x8, .long x10, .long x0, .long x2]) (rest := []) ⟨hx, hb, hml, hown, hw⟩ (k_M_turnOf l dC dI cL cI x4 x6 x8 x10 x0 x2 u5 hu5) (va_cwS 6 hw (gS w_558 w_559 w_2 w_560) rfl rfl rfl (by decide +kernel) ⟨Nat.le_of_ble_eq_true rfl, Nat.le_of_ble_eq_true rfl⟩) ⟨rd_blind, rd_pre trivial hK⟩ rfl rfl hl.1 rfl (lv_room (Nat.le_of_ble_eq_true rfl)) dM_isOn_32 ⟨Nat.le_of_ble_eq_true rfl, Nat.le_of_ble_eq_true rfl⟩)) (fun z hz => ?_)
      rw [hz]; clear hz
      refine lv_if_ne (tgt := 42) hx hb dM_isOn_35 (by decide) (fun c6 => ?_) (fun c6 => ?_)
      · have h := it_f c6 h
        exact k42 h ls (lv_sub hl [] rfl)
      · have h := it_t c6 h
        refine lv_iconst (v := 1) hx hb dM_isOn_38 (by decide) ?_
        refine lv_goto (tgt := 43) hx hb dM_isOn_39 (by decide) ?_
        exact k43 (1 : Int32) h ls (lv_sub hl [] rfl)
theorem dM_meet_0 : decode cM_meet 0 = .ok (.lload_n 0, 1) := by decide +kernel
theorem dM_meet_1 : decode cM_meet 1 = .ok (.lload_n 2, 1) := by decide +kernel
theorem dM_meet_2 : decode cM_meet 2 = .ok (.lload 8, 2) := by decide +kernel
theorem dM_meet_4 : decode cM_meet 4 = .ok (.lload 10, 2) := by decide +kernel
theorem dM_meet_6 : decode cM_meet 6 = .ok (.lload 12, 2) := by decide +kernel
theorem dM_meet_8 : decode cM_meet 8 = .ok (.lload 14, 2) := by decide +kernel
theorem dM_meet_10 : decode cM_meet 10 = .ok (.invokestatic 107, 3) := by decide +kernel
theorem dM_meet_13 : decode cM_meet 13 = .ok (.ifCond .ne 53, 3) := by decide +kernel
theorem dM_meet_16 : decode cM_meet 16 = .ok (.lload 4, 2) := by decide +kernel
theorem dM_meet_18 : decode cM_meet 18 = .ok (.lload 6, 2) := by decide +kernel
theorem dM_meet_20 : decode cM_meet 20 = .ok (.lload 8, 2) := by decide +kernel
theorem dM_meet_22 : decode cM_meet 22 = .ok (.lload 10, 2) := by decide +kernel
theorem dM_meet_24 : decode cM_meet 24 = .ok (.lload 12, 2) := by decide +kernel
theorem dM_meet_26 : decode cM_meet 26 = .ok (.lload 14, 2) := by decide +kernel
theorem dM_meet_28 : decode cM_meet 28 = .ok (.invokestatic 107, 3) := by decide +kernel
theorem dM_meet_31 : decode cM_meet 31 = .ok (.ifCond .ne 35, 3) := by decide +kernel
theorem dM_meet_34 : decode cM_meet 34 = .ok (.lload 8, 2) := by decide +kernel
theorem dM_meet_36 : decode cM_meet 36 = .ok (.lload 10, 2) := by decide +kernel
theorem dM_meet_38 : decode cM_meet 38 = .ok (.lload_n 0, 1) := by decide +kernel
theorem dM_meet_39 : decode cM_meet 39 = .ok (.lload_n 2, 1) := by decide +kernel
theorem dM_meet_40 : decode cM_meet 40 = .ok (.lload 4, 2) := by decide +kernel
theorem dM_meet_42 : decode cM_meet 42 = .ok (.lload 6, 2) := by decide +kernel
theorem dM_meet_44 : decode cM_meet 44 = .ok (.invokestatic 107, 3) := by decide +kernel
theorem dM_meet_47 : decode cM_meet 47 = .ok (.ifCond .ne 19, 3) := by decide +kernel
theorem dM_meet_50 : decode cM_meet 50 = .ok (.lload 12, 2) := by decide +kernel
theorem dM_meet_52 : decode cM_meet 52 = .ok (.lload 14, 2) := by decide +kernel
theorem dM_meet_54 : decode cM_meet 54 = .ok (.lload_n 0, 1) := by decide +kernel
theorem dM_meet_55 : decode cM_meet 55 = .ok (.lload_n 2, 1) := by decide +kernel
theorem dM_meet_56 : decode cM_meet 56 = .ok (.lload 4, 2) := by decide +kernel
theorem dM_meet_58 : decode cM_meet 58 = .ok (.lload 6, 2) := by decide +kernel
theorem dM_meet_60 : decode cM_meet 60 = .ok (.invokestatic 107, 3) := by decide +kernel
theorem dM_meet_63 : decode cM_meet 63 = .ok (.ifCond .eq 7, 3) := by decide +kernel
theorem dM_meet_66 : decode cM_meet 66 = .ok (.iconst 1, 1) := by decide +kernel
theorem dM_meet_67 : decode cM_meet 67 = .ok (.goto 4, 3) := by decide +kernel
theorem dM_meet_70 : decode cM_meet 70 = .ok (.iconst 0, 1) := by decide +kernel
theorem dM_meet_71 : decode cM_meet 71 = .ok (.istore 16, 2) := by decide +kernel
theorem dM_meet_73 : decode cM_meet 73 = .ok (.lload_n 0, 1) := by decide +kernel
theorem dM_meet_74 : decode cM_meet 74 = .ok (.lload_n 2, 1) := by decide +kernel
theorem dM_meet_75 : decode cM_meet 75 = .ok (.lload 4, 2) := by decide +kernel
theorem dM_meet_77 : decode cM_meet 77 = .ok (.lload 6, 2) := by decide +kernel
theorem dM_meet_79 : decode cM_meet 79 = .ok (.lload 8, 2) := by decide +kernel
theorem dM_meet_81 : decode cM_meet 81 = .ok (.lload 10, 2) := by decide +kernel
theorem dM_meet_83 : decode cM_meet 83 = .ok (.invokestatic 103, 3) := by decide +kernel
theorem dM_meet_86 : decode cM_meet 86 = .ok (.lload_n 0, 1) := by decide +kernel
theorem dM_meet_87 : decode cM_meet 87 = .ok (.lload_n 2, 1) := by decide +kernel
theorem dM_meet_88 : decode cM_meet 88 = .ok (.lload 4, 2) := by decide +kernel
theorem dM_meet_90 : decode cM_meet 90 = .ok (.lload 6, 2) := by decide +kernel
theorem dM_meet_92 : decode cM_meet 92 = .ok (.lload 12, 2) := by decide +kernel
theorem dM_meet_94 : decode cM_meet 94 = .ok (.lload 14, 2) := by decide +kernel
theorem dM_meet_96 : decode cM_meet 96 = .ok (.invokestatic 103, 3) := by decide +kernel
theorem dM_meet_99 : decode cM_meet 99 = .ok (.imul, 1) := by decide +kernel
theorem dM_meet_100 : decode cM_meet 100 = .ok (.ifCond .ge 7, 3) := by decide +kernel
theorem dM_meet_103 : decode cM_meet 103 = .ok (.iconst 1, 1) := by decide +kernel
theorem dM_meet_104 : decode cM_meet 104 = .ok (.goto 4, 3) := by decide +kernel
theorem dM_meet_107 : decode cM_meet 107 = .ok (.iconst 0, 1) := by decide +kernel
theorem dM_meet_108 : decode cM_meet 108 = .ok (.istore 17, 2) := by decide +kernel
theorem dM_meet_110 : decode cM_meet 110 = .ok (.iload 16, 2) := by decide +kernel
theorem dM_meet_112 : decode cM_meet 112 = .ok (.ifCond .ne 40, 3) := by decide +kernel
theorem dM_meet_115 : decode cM_meet 115 = .ok (.iload 17, 2) := by decide +kernel
theorem dM_meet_117 : decode cM_meet 117 = .ok (.ifCond .eq 39, 3) := by decide +kernel
theorem dM_meet_120 : decode cM_meet 120 = .ok (.lload 8, 2) := by decide +kernel
theorem dM_meet_122 : decode cM_meet 122 = .ok (.lload 10, 2) := by decide +kernel
theorem dM_meet_124 : decode cM_meet 124 = .ok (.lload 12, 2) := by decide +kernel
theorem dM_meet_126 : decode cM_meet 126 = .ok (.lload 14, 2) := by decide +kernel
theorem dM_meet_128 : decode cM_meet 128 = .ok (.lload_n 0, 1) := by decide +kernel
theorem dM_meet_129 : decode cM_meet 129 = .ok (.lload_n 2, 1) := by decide +kernel
theorem dM_meet_130 : decode cM_meet 130 = .ok (.invokestatic 103, 3) := by decide +kernel
theorem dM_meet_133 : decode cM_meet 133 = .ok (.lload 8, 2) := by decide +kernel
theorem dM_meet_135 : decode cM_meet 135 = .ok (.lload 10, 2) := by decide +kernel
theorem dM_meet_137 : decode cM_meet 137 = .ok (.lload 12, 2) := by decide +kernel
theorem dM_meet_139 : decode cM_meet 139 = .ok (.lload 14, 2) := by decide +kernel
theorem dM_meet_141 : decode cM_meet 141 = .ok (.lload 4, 2) := by decide +kernel
theorem dM_meet_143 : decode cM_meet 143 = .ok (.lload 6, 2) := by decide +kernel
theorem dM_meet_145 : decode cM_meet 145 = .ok (.invokestatic 103, 3) := by decide +kernel
theorem dM_meet_148 : decode cM_meet 148 = .ok (.imul, 1) := by decide +kernel
theorem dM_meet_149 : decode cM_meet 149 = .ok (.ifCond .ge 7, 3) := by decide +kernel
theorem dM_meet_152 : decode cM_meet 152 = .ok (.iconst 1, 1) := by decide +kernel
theorem dM_meet_153 : decode cM_meet 153 = .ok (.goto 4, 3) := by decide +kernel
theorem dM_meet_156 : decode cM_meet 156 = .ok (.iconst 0, 1) := by decide +kernel
theorem dM_meet_157 : decode cM_meet 157 = .ok (.ireturn, 1) := by decide +kernel
def f_M_meet_j157 (s0 : Int32) : Option Int32 := rb s0
def f_M_meet_j156 : Option Int32 := (f_M_meet_j157 (0 : Int32))
def f_M_meet_j152 : Option Int32 := (f_M_meet_j157 (1 : Int32))
def f_M_meet_j108 (p0 : Int64) (p2 : Int64) (p4 : Int64) (p6 : Int64) (p8 : Int64) (p10 : Int64) (p12 : Int64) (p14 : Int64) (p16 : Int32) (s0 : Int32) : Option Int32 := (if p16 = 0 then (if s0 = 0 then f_M_meet_j156 else (f_M_turnOf p8 p10 p12 p14 p0 p2).bind fun u14 => (f_M_turnOf p8 p10 p12 p14 p4 p6).bind fun u15 => (if 0 ≤ (u14 * u15) then f_M_meet_j156 else f_M_meet_j152)) else f_M_meet_j152)
def f_M_meet_j71 (p0 : Int64) (p2 : Int64) (p4 : Int64) (p6 : Int64) (p8 : Int64) (p10 : Int64) (p12 : Int64) (p14 : Int64) (s0 : Int32) : Option Int32 := (f_M_turnOf p0 p2 p4 p6 p8 p10).bind fun u9 => (f_M_turnOf p0 p2 p4 p6 p12 p14).bind fun u10 => (if 0 ≤ (u9 * u10) then (f_M_meet_j108 p0 p2 p4 p6 p8 p10 p12 p14 s0 (0 : Int32)) else (f_M_meet_j108 p0 p2 p4 p6 p8 p10 p12 p14 s0 (1 : Int32)))
def f_M_meet_j66 (p0 : Int64) (p2 : Int64) (p4 : Int64) (p6 : Int64) (p8 : Int64) (p10 : Int64) (p12 : Int64) (p14 : Int64) : Option Int32 := (f_M_meet_j71 p0 p2 p4 p6 p8 p10 p12 p14 (1 : Int32))
def f_M_meet (x0 : Int64) (x2 : Int64) (x4 : Int64) (x6 : Int64) (x8 : Int64) (x10 : Int64) (x12 : Int64) (x14 : Int64) : Option Int32 := (f_M_isOn x0 x2 x8 x10 x12 x14).bind fun u1 => (if u1 = 0 then (f_M_isOn x4 x6 x8 x10 x12 x14).bind fun u3 => (if u3 = 0 then (f_M_isOn x8 x10 x0 x2 x4 x6).bind fun u5 => (if u5 = 0 then (f_M_isOn x12 x14 x0 x2 x4 x6).bind fun u7 => (if u7 = 0 then (f_M_meet_j71 x0 x2 x4 x6 x8 x10 x12 x14 (0 : Int32)) else (f_M_meet_j66 x0 x2 x4 x6 x8 x10 x12 x14)) else (f_M_meet_j66 x0 x2 x4 x6 x8 x10 x12 x14)) else (f_M_meet_j66 x0 x2 x4 x6 x8 x10 x12 x14)) else (f_M_meet_j66 x0 x2 x4 x6 x8 x10 x12 x14))
set_option maxHeartbeats 4000000 in
set_option maxRecDepth 100000 in
theorem k_M_meet (l : Launch) (dC : Nat → ClassId) (dI : Nat → Nat → Nat) (cL cI : ClassId) (x0 : Int64) (x2 : Int64) (x4 : Int64) (x6 : Int64) (x8 : Int64) (x10 : Int64) (x12 : Int64) (x14 : Int64) (r : Int32) (h : f_M_meet x0 x2 x4 x6 x8 x10 x12 x14 = some r) : Met l yM_meet wsM_meet ({ frames := 3, cells := 0, slots := 0, locals := 89 }) (rd_Pc [.long x0, .long x2, .long x4, .long x6, .long x8, .long x10, .long x12, .long x14] (fun _ => True) (dC, dI) cls3 [(cL, .long), (cI, .int)]) (vp_Si (fun z => z = r)) 0 0 (fun _ => False) := by
  refine Met.ofW (cc := cM_meet) (maxL := 18) (ret := (some .boolean)) (by decide) rfl ?_
  intro p e s m args below meth c s₁ B hml hv
  obtain ⟨rfl, hF, hK⟩ := hv
  have hx := B.exec
  have hb := B.bytes
  have hr := B.returns
  have hw : ∀ w ∈ wG, w.before ([.long x0, .long x2, .long x4, .long x6, .long x8, .long x10, .long x12, .long x14] : List Value).toArray s = true := fun w hq => atoms_spec (ws := wsM_meet) B.pre w (List.mem_cons_of_mem _ hq)
  have hown : s.vm.findClass R_M = some m.cls := findClass_of_methodNamed B.named
  have hlocks := B.notSynchronized
  have hl := lv_entry ([.long x0, .long x2, .long x4, .long x6, .long x8, .long x10, .long x12, .long x14] : List Value) (n := 18) (Nat.le_of_ble_eq_true rfl)
  rw [lg_entry_eq]
  generalize (lg_sl ([.long x0, .long x2, .long x4, .long x6, .long x8, .long x10, .long x12, .long x14] : List Value) ++ List.replicate (18 - (lg_sl ([.long x0, .long x2, .long x4, .long x6, .long x8, .long x10, .long x12, .long x14] : List Value)).length) Slot.unset).toArray = ls at hl ⊢
  have hl : lv_has ls 18 [(0, .long x0), (2, .long x2), (4, .long x4), (6, .long x6), (8, .long x8), (10, .long x10), (12, .long x12), (14, .long x14)] := hl
  have k157 : ∀ (s0 : Int32), f_M_meet_j157 s0 = some r →  ∀ (ls : Array Slot), lv_has ls 18 [] → W p l e (headSpec wsM_meet ({ frames := 3, cells := 0, slots := 0, locals := 89 })).room s m ([.long x0, .long x2, .long x4, .long x6, .long x8, .long x10, .long x12, .long x14] : List Value).toArray below meth c s.heap [] 0 0 (MQ below (vp_Si (fun z => z = r)) ([.long x0, .long x2, .long x4, .long x6, .long x8, .long x10, .long x12, .long x14] : List Value).toArray s 0 0 (fun _ => False)) (F0 m 157 ls [.int s0]) := by
    intro s0 h  ls hl
    unfold f_M_meet_j157 at h
    obtain ⟨hz, hr9⟩ := rb_of h
    exact W.zret hx hb hr hz (fun t ht hW => ⟨_, rfl, hr9, ht⟩) nil_locs dM_meet_157
  have k156 : f_M_meet_j156 = some r →  ∀ (ls : Array Slot), lv_has ls 18 [] → W p l e (headSpec wsM_meet ({ frames := 3, cells := 0, slots := 0, locals := 89 })).room s m ([.long x0, .long x2, .long x4, .long x6, .long x8, .long x10, .long x12, .long x14] : List Value).toArray below meth c s.heap [] 0 0 (MQ below (vp_Si (fun z => z = r)) ([.long x0, .long x2, .long x4, .long x6, .long x8, .long x10, .long x12, .long x14] : List Value).toArray s 0 0 (fun _ => False)) (F0 m 156 ls []) := by
    intro  h  ls hl
    unfold f_M_meet_j156 at h
    refine lv_iconst (v := 0) hx hb dM_meet_156 (by decide) ?_
    exact k157 (0 : Int32) h ls (lv_sub hl [] rfl)
  have k152 : f_M_meet_j152 = some r →  ∀ (ls : Array Slot), lv_has ls 18 [] → W p l e (headSpec wsM_meet ({ frames := 3, cells := 0, slots := 0, locals := 89 })).room s m ([.long x0, .long x2, .long x4, .long x6, .long x8, .long x10, .long x12, .long x14] : List Value).toArray below meth c s.heap [] 0 0 (MQ below (vp_Si (fun z => z = r)) ([.long x0, .long x2, .long x4, .long x6, .long x8, .long x10, .long x12, .long x14] : List Value).toArray s 0 0 (fun _ => False)) (F0 m 152 ls []) := by
    intro  h  ls hl
    unfold f_M_meet_j152 at h
    refine lv_iconst (v := 1) hx hb dM_meet_152 (by decide) ?_
    refine lv_goto (tgt := 157) hx hb dM_meet_153 (by decide) ?_
    exact k157 (1 : Int32) h ls (lv_sub hl [] rfl)
  have k108 : ∀ (p0 : Int64) (p2 : Int64) (p4 : Int64) (p6 : Int64) (p8 : Int64) (p10 : Int64) (p12 : Int64) (p14 : Int64) (p16 : Int32) (s0 : Int32), f_M_meet_j108 p0 p2 p4 p6 p8 p10 p12 p14 p16 s0 = some r →  ∀ (ls : Array Slot), lv_has ls 18 [(0, .long p0), (2, .long p2), (4, .long p4), (6, .long p6), (8, .long p8), (10, .long p10), (12, .long p12), (14, .long p14), (16, .int p16)] → W p l e (headSpec wsM_meet ({ frames := 3, cells := 0, slots := 0, locals := 89 })).room s m ([.long x0, .long x2, .long x4, .long x6, .long x8, .long x10, .long x12, .long x14] : List Value).toArray below meth c s.heap [] 0 0 (MQ below (vp_Si (fun z => z = r)) ([.long x0, .long x2, .long x4, .long x6, .long x8, .long x10, .long x12, .long x14] : List Value).toArray s 0 0 (fun _ => False)) (F0 m 108 ls [.int s0]) := by
    intro p0 p2 p4 p6 p8 p10 p12 p14 p16 s0 h  ls hl
    unfold f_M_meet_j108 at h
    refine lv_istore (lv' := [(17, .int s0), (0, .long p0), (2, .long p2), (4, .long p4), (6, .long p6), (8, .long p8), (10, .long p10), (12, .long p12), (14, .long p14), (16, .int p16)]) hx hb dM_meet_108 hl (by decide) rfl (fun ls hl => ?_)
    refine lv_iload hx hb dM_meet_110 (lv_at hl 9 rfl) ?_
    refine lv_if_ne (tgt := 152) hx hb dM_meet_112 (by decide) (fun c12 => ?_) (fun c12 => ?_)
    · have h := it_f c12 h
      exact k152 h ls (lv_sub hl [] rfl)
    · have h := it_t c12 h
      refine lv_iload hx hb dM_meet_115 (lv_at hl 0 rfl) ?_
      refine lv_if_eq (tgt := 156) hx hb dM_meet_117 (by decide) (fun c13 => ?_) (fun c13 => ?_)
      · have h := it_t c13 h
        exact k156 h ls (lv_sub hl [] rfl)
      · have h := it_f c13 h
        refine lv_lload hx hb dM_meet_120 (lv_at hl 5 rfl) ?_
        refine lv_lload hx hb dM_meet_122 (lv_at hl 6 rfl) ?_
        refine lv_lload hx hb dM_meet_124 (lv_at hl 7 rfl) ?_
        refine lv_lload hx hb dM_meet_126 (lv_at hl 8 rfl) ?_
        refine lv_lload_n hx hb dM_meet_128 rfl (lv_at hl 1 rfl) ?_
        refine lv_lload_n hx hb dM_meet_129 rfl (lv_at hl 2 rfl) ?_
        obtain ⟨u14, hu14, h⟩ := ob_some h
        refine vp_callSi (va_Run.run (va_runS (As := [.long p8, .long p10, .long p12, .long p14, .long p0, .long p2]) (rest := []) ⟨hx, hb, hml, hown, hw⟩ (k_M_turnOf l dC dI cL cI p8 p10 p12 p14 p0 p2 u14 hu14) (va_cwS 6 hw (gS w_558 w_559 w_2 w_560) rfl rfl rfl (by decide +kernel) ⟨Nat.le_of_ble_eq_true rfl, Nat.le_of_ble_eq_true rfl⟩) ⟨rd_blind, rd_pre trivial hK⟩ rfl rfl hl.1 rfl (lv_room (Nat.le_of_ble_eq_true rfl)) dM_meet_130 ⟨Nat.le_of_ble_eq_true rfl, Nat.le_of_ble_eq_true rfl⟩)) (fun z hz => ?_)
        rw [hz]; clear hz
        refine lv_lload hx hb dM_meet_133 (lv_at hl 5 rfl) ?_
        refine lv_lload hx hb dM_meet_135 (lv_at hl 6 rfl) ?_
        refine lv_lload hx hb dM_meet_137 (lv_at hl 7 rfl) ?_
        refine lv_lload hx hb dM_meet_139 (lv_at hl 8 rfl) ?_
        refine lv_lload hx hb dM_meet_141 (lv_at hl 3 rfl) ?_
        refine lv_lload hx hb dM_meet_143 (lv_at hl 4 rfl) ?_
        obtain ⟨u15, hu15, h⟩ := ob_some h
        refine vp_callSi (va_Run.run (va_runS (As := [.long p8, .long p10, .long p12, .long p14, .long p4, .long p6]) (rest := [.int u14]) ⟨hx, hb, hml, hown, hw⟩ (k_M_turnOf l dC dI cL cI p8 p10 p12 p14 p4 p6 u15 hu15) (va_cwS 6 hw (gS w_558 w_559 w_2 w_560) rfl rfl rfl (by decide +kernel) ⟨Nat.le_of_ble_eq_true rfl, Nat.le_of_ble_eq_true rfl⟩) ⟨rd_blind, rd_pre trivial hK⟩ rfl rfl hl.1 rfl (lv_room (Nat.le_of_ble_eq_true rfl)) dM_meet_145 ⟨Nat.le_of_ble_eq_true rfl, Nat.le_of_ble_eq_true rfl⟩)) (fun z hz => ?_)
        rw [hz]; clear hz
        refine lv_imul hx hb dM_meet_148 ?_
        refine lv_if_ge (tgt := 156) hx hb dM_meet_149 (by decide) (fun c16 => ?_) (fun c16 => ?_)
        · have h := it_t c16 h
          exact k156 h ls (lv_sub hl [] rfl)
        · have h := it_f c16 h
          exact k152 h ls (lv_sub hl [] rfl)
  have k71 : ∀ (p0 : Int64) (p2 : Int64) (p4 : Int64) (p6 : Int64) (p8 : Int64) (p10 : Int64) (p12 : Int64) (p14 : Int64) (s0 : Int32), f_M_meet_j71 p0 p2 p4 p6 p8 p10 p12 p14 s0 = some r →  ∀ (ls : Array Slot), lv_has ls 18 [(0, .long p0), (2, .long p2), (4, .long p4), (6, .long p6), (8, .long p8), (10, .long p10), (12, .long p12), (14, .long p14)] → W p l e (headSpec wsM_meet ({ frames := 3, cells := 0, slots := 0, locals := 89 })).room s m ([.long x0, .long x2, .long x4, .long x6, .long x8, .long x10, .long x12, .long x14] : List Value).toArray below meth c s.heap [] 0 0 (MQ below (vp_Si (fun z => z = r)) ([.long x0, .long x2, .long x4, .long x6, .long x8, .long x10, .long x12, .long x14] : List Value).toArray s 0 0 (fun _ => False)) (F0 m 71 ls [.int s0]) := by
    intro p0 p2 p4 p6 p8 p10 p12 p14 s0 h  ls hl
    unfold f_M_meet_j71 at h
    refine lv_istore (lv' := [(16, .int s0), (0, .long p0), (2, .long p2), (4, .long p4), (6, .long p6), (8, .long p8), (10, .long p10), (12, .long p12), (14, .long p14)]) hx hb dM_meet_71 hl (by decide) rfl (fun ls hl => ?_)
    refine lv_lload_n hx hb dM_meet_73 rfl (lv_at hl 1 rfl) ?_
    refine lv_lload_n hx hb dM_meet_74 rfl (lv_at hl 2 rfl) ?_
    refine lv_lload hx hb dM_meet_75 (lv_at hl 3 rfl) ?_
    refine lv_lload hx hb dM_meet_77 (lv_at hl 4 rfl) ?_
    refine lv_lload hx hb dM_meet_79 (lv_at hl 5 rfl) ?_
    refine lv_lload hx hb dM_meet_81 (lv_at hl 6 rfl) ?_
    obtain ⟨u9, hu9, h⟩ := ob_some h
    refine vp_callSi (va_Run.run (va_runS (As := [.long p0, .long p2, .long p4, .long p6, .long p8, .long p10]) (rest := []) ⟨hx, hb, hml, hown, hw⟩ (k_M_turnOf l dC dI cL cI p0 p2 p4 p6 p8 p10 u9 hu9) (va_cwS 6 hw (gS w_558 w_559 w_2 w_560) rfl rfl rfl (by decide +kernel) ⟨Nat.le_of_ble_eq_true rfl, Nat.le_of_ble_eq_true rfl⟩) ⟨rd_blind, rd_pre trivial hK⟩ rfl rfl hl.1 rfl (lv_room (Nat.le_of_ble_eq_true rfl)) dM_meet_83 ⟨Nat.le_of_ble_eq_true rfl, Nat.le_of_ble_eq_true rfl⟩)) (fun z hz => ?_)
    rw [hz]; clear hz
    refine lv_lload_n hx hb dM_meet_86 rfl (lv_at hl 1 rfl) ?_
    refine lv_lload_n hx hb dM_meet_87 rfl (lv_at hl 2 rfl) ?_
    refine lv_lload hx hb dM_meet_88 (lv_at hl 3 rfl) ?_
    refine lv_lload hx hb dM_meet_90 (lv_at hl 4 rfl) ?_
    refine lv_lload hx hb dM_meet_92 (lv_at hl 7 rfl) ?_
    refine lv_lload hx hb dM_meet_94 (lv_at hl 8 rfl) ?_
    obtain ⟨u10, hu10, h⟩ := ob_some h
    refine vp_callSi (va_Run.run (va_runS (As := [.long p0, .long p2, .long p4, .long p6, .long p12, .long p14]) (rest := [.int u9]) ⟨hx, hb, hml, hown, hw⟩ (k_M_turnOf l dC dI cL cI p0 p2 p4 p6 p12 p14 u10 hu10) (va_cwS 6 hw (gS w_558 w_559 w_2 w_560) rfl rfl rfl (by decide +kernel) ⟨Nat.le_of_ble_eq_true rfl, Nat.le_of_ble_eq_true rfl⟩) ⟨rd_blind, rd_pre trivial hK⟩ rfl rfl hl.1 rfl (lv_room (Nat.le_of_ble_eq_true rfl)) dM_meet_96 ⟨Nat.le_of_ble_eq_true rfl, Nat.le_of_ble_eq_true rfl⟩)) (fun z hz => ?_)
    rw [hz]; clear hz
    refine lv_imul hx hb dM_meet_99 ?_
    refine lv_if_ge (tgt := 107) hx hb dM_meet_100 (by decide) (fun c11 => ?_) (fun c11 => ?_)
    · have h := it_t c11 h
      refine lv_iconst (v := 0) hx hb dM_meet_107 (by decide) ?_
      exact k108 p0 p2 p4 p6 p8 p10 p12 p14 s0 (0 : Int32) h ls (lv_sub hl [1, 2, 3, 4, 5, 6, 7, 8, 0] rfl)
    · have h := it_f c11 h
      refine lv_iconst (v := 1) hx hb dM_meet_103 (by decide) ?_
      refine lv_goto (tgt := 108) hx hb dM_meet_104 (by decide) ?_
      exact k108 p0 p2 p4 p6 p8 p10 p12 p14 s0 (1 : Int32) h ls (lv_sub hl [1, 2, 3, 4, 5, 6, 7, 8, 0] rfl)
  have k66 : ∀ (p0 : Int64) (p2 : Int64) (p4 : Int64) (p6 : Int64) (p8 : Int64) (p10 : Int64) (p12 : Int64) (p14 : Int64), f_M_meet_j66 p0 p2 p4 p6 p8 p10 p12 p14 = some r →  ∀ (ls : Array Slot), lv_has ls 18 [(0, .long p0), (2, .long p2), (4, .long p4), (6, .long p6), (8, .long p8), (10, .long p10), (12, .long p12), (14, .long p14)] → W p l e (headSpec wsM_meet ({ frames := 3, cells := 0, slots := 0, locals := 89 })).room s m ([.long x0, .long x2, .long x4, .long x6, .long x8, .long x10, .long x12, .long x14] : List Value).toArray below meth c s.heap [] 0 0 (MQ below (vp_Si (fun z => z = r)) ([.long x0, .long x2, .long x4, .long x6, .long x8, .long x10, .long x12, .long x14] : List Value).toArray s 0 0 (fun _ => False)) (F0 m 66 ls []) := by
    intro p0 p2 p4 p6 p8 p10 p12 p14 h  ls hl
    unfold f_M_meet_j66 at h
    refine lv_iconst (v := 1) hx hb dM_meet_66 (by decide) ?_
    refine lv_goto (tgt := 71) hx hb dM_meet_67 (by decide) ?_
    exact k71 p0 p2 p4 p6 p8 p10 p12 p14 (1 : Int32) h ls (lv_sub hl [0, 1, 2, 3, 4, 5, 6, 7] rfl)
  unfold f_M_meet at h
  refine lv_lload_n hx hb dM_meet_0 rfl (lv_at hl 0 rfl) ?_
  refine lv_lload_n hx hb dM_meet_1 rfl (lv_at hl 1 rfl) ?_
  refine lv_lload hx hb dM_meet_2 (lv_at hl 4 rfl) ?_
  refine lv_lload hx hb dM_meet_4 (lv_at hl 5 rfl) ?_
  refine lv_lload hx hb dM_meet_6 (lv_at hl 6 rfl) ?_
  refine lv_lload hx hb dM_meet_8 (lv_at hl 7 rfl) ?_
  obtain ⟨u1, hu1, h⟩ := ob_some h
  refine vp_callSi (va_Run.run (va_runS (As := [.long x0, .long x2, .long x8, .long x10, .long x12, .long x14]) (rest := []) ⟨hx, hb, hml, hown, hw⟩ (k_M_isOn l dC dI cL cI x0 x2 x8 x10 x12 x14 u1 hu1) (va_cwS 6 hw (gS w_578 w_579 w_2 w_580) rfl rfl rfl (by decide +kernel) ⟨Nat.le_of_ble_eq_true rfl, Nat.le_of_ble_eq_true rfl⟩) ⟨rd_blind, rd_pre trivial hK⟩ rfl rfl hl.1 rfl (lv_room (Nat.le_of_ble_eq_true rfl)) dM_meet_10 ⟨Nat.le_of_ble_eq_true rfl, Nat.le_of_ble_eq_true rfl⟩)) (fun z hz => ?_)
  rw [hz]; clear hz
  refine lv_if_ne (tgt := 66) hx hb dM_meet_13 (by decide) (fun c2 => ?_) (fun c2 => ?_)
  · have h := it_f c2 h
    exact k66 x0 x2 x4 x6 x8 x10 x12 x14 h ls (lv_sub hl [0, 1, 2, 3, 4, 5, 6, 7] rfl)
  · have h := it_t c2 h
    refine lv_lload hx hb dM_meet_16 (lv_at hl 2 rfl) ?_
    refine lv_lload hx hb dM_meet_18 (lv_at hl 3 rfl) ?_
    refine lv_lload hx hb dM_meet_20 (lv_at hl 4 rfl) ?_
    refine lv_lload hx hb dM_meet_22 (lv_at hl 5 rfl) ?_
    refine lv_lload hx hb dM_meet_24 (lv_at hl 6 rfl) ?_
    refine lv_lload hx hb dM_meet_26 (lv_at hl 7 rfl) ?_
    obtain ⟨u3, hu3, h⟩ := ob_some h
    refine vp_callSi (va_Run.run (va_runS (As := [.long x4, .long x6, .long x8, .long x10, .long x12, .long x14]) (rest := []) ⟨hx, hb, hml, hown, hw⟩ (k_M_isOn l dC dI cL cI x4 x6 x8 x10 x12 x14 u3 hu3) (va_cwS 6 hw (gS w_578 w_579 w_2 w_580) rfl rfl rfl (by decide +kernel) ⟨Nat.le_of_ble_eq_true rfl, Nat.le_of_ble_eq_true rfl⟩) ⟨rd_blind, rd_pre trivial hK⟩ rfl rfl hl.1 rfl (lv_room (Nat.le_of_ble_eq_true rfl)) dM_meet_28 ⟨Nat.le_of_ble_eq_true rfl, Nat.le_of_ble_eq_true rfl⟩)) (fun z hz => ?_)
    rw [hz]; clear hz
    refine lv_if_ne (tgt := 66) hx hb dM_meet_31 (by decide) (fun c4 => ?_) (fun c4 => ?_)
    · have h := it_f c4 h
      exact k66 x0 x2 x4 x6 x8 x10 x12 x14 h ls (lv_sub hl [0, 1, 2, 3, 4, 5, 6, 7] rfl)
    · have h := it_t c4 h
      refine lv_lload hx hb dM_meet_34 (lv_at hl 4 rfl) ?_
      refine lv_lload hx hb dM_meet_36 (lv_at hl 5 rfl) ?_
      refine lv_lload_n hx hb dM_meet_38 rfl (lv_at hl 0 rfl) ?_
      refine lv_lload_n hx hb dM_meet_39 rfl (lv_at hl 1 rfl) ?_
      refine lv_lload hx hb dM_meet_40 (lv_at hl 2 rfl) ?_
      refine lv_lload hx hb dM_meet_42 (lv_at hl 3 rfl) ?_
      obtain ⟨u5, hu5, h⟩ := ob_some h
      refine vp_callSi (va_Run.run (va_runS (As := [.long x8, .long x10, .long x0, .long x2, .long x4, .long x6]) (rest := []) ⟨hx, hb, hml, hown, hw⟩ (k_M_isOn l dC dI cL cI x8 x10 x0 x2 x4 x6 u5 hu5) (va_cwS 6 hw (gS w_578 w_579 w_2 w_580) rfl rfl rfl (by decide +kernel) ⟨Nat.le_of_ble_eq_true rfl, Nat.le_of_ble_eq_true rfl⟩) ⟨rd_blind, rd_pre trivial hK⟩ rfl rfl hl.1 rfl (lv_room (Nat.le_of_ble_eq_true rfl)) dM_meet_44 ⟨Nat.le_of_ble_eq_true rfl, Nat.le_of_ble_eq_true rfl⟩)) (fun z hz => ?_)
      rw [hz]; clear hz
      refine lv_if_ne (tgt := 66) hx hb dM_meet_47 (by decide) (fun c6 => ?_) (fun c6 => ?_)
      · have h := it_f c6 h
        exact k66 x0 x2 x4 x6 x8 x10 x12 x14 h ls (lv_sub hl [0, 1, 2, 3, 4, 5, 6, 7] rfl)
      · have h := it_t c6 h
        refine lv_lload hx hb dM_meet_50 (lv_at hl 6 rfl) ?_
        refine lv_lload hx hb dM_meet_52 (lv_at hl 7 rfl) ?_
        refine lv_lload_n hx hb dM_meet_54 rfl (lv_at hl 0 rfl) ?_
        refine lv_lload_n hx hb dM_meet_55 rfl (lv_at hl 1 rfl) ?_
        refine lv_lload hx hb dM_meet_56 (lv_at hl 2 rfl) ?_
        refine lv_lload hx hb dM_meet_58 (lv_at hl 3 rfl) ?_
        obtain ⟨u7, hu7, h⟩ := ob_some h
        refine vp_callSi (va_Run.run (va_runS (As := [.long x12, .long x14, .long x0, .long x2, .long x4, .long x6]) (rest := []) ⟨hx, hb, hml, hown, hw⟩ (k_M_isOn l dC dI cL cI x12 x14 x0 x2 x4 x6 u7 hu7) (va_cwS 6 hw (gS w_578 w_579 w_2 w_580) rfl rfl rfl (by decide +kernel) ⟨Nat.le_of_ble_eq_true rfl, Nat.le_of_ble_eq_true rfl⟩) ⟨rd_blind, rd_pre trivial hK⟩ rfl rfl hl.1 rfl (lv_room (Nat.le_of_ble_eq_true rfl)) dM_meet_60 ⟨Nat.le_of_ble_eq_true rfl, Nat.le_of_ble_eq_true rfl⟩)) (fun z hz => ?_)
        rw [hz]; clear hz
        refine lv_if_eq (tgt := 70) hx hb dM_meet_63 (by decide) (fun c8 => ?_) (fun c8 => ?_)
        · have h := it_t c8 h
          refine lv_iconst (v := 0) hx hb dM_meet_70 (by decide) ?_
          exact k71 x0 x2 x4 x6 x8 x10 x12 x14 (0 : Int32) h ls (lv_sub hl [0, 1, 2, 3, 4, 5, 6, 7] rfl)
        · have h := it_f c8 h
          exact k66 x0 x2 x4 x6 x8 x10 x12 x14 h ls (lv_sub hl [0, 1, 2, 3, 4, 5, 6, 7] rfl)
theorem dM_x_0 : decode cM_x 0 = .ok (.aload_n 0, 1) := by decide +kernel
theorem dM_x_1 : decode cM_x 1 = .ok (.getfield 17, 3) := by decide +kernel
theorem dM_x_4 : decode cM_x 4 = .ok (.bipush 48, 2) := by decide +kernel
theorem dM_x_6 : decode cM_x 6 = .ok (.iload_n 1, 1) := by decide +kernel
theorem dM_x_7 : decode cM_x 7 = .ok (.imul, 1) := by decide +kernel
theorem dM_x_8 : decode cM_x 8 = .ok (.iload_n 2, 1) := by decide +kernel
theorem dM_x_9 : decode cM_x 9 = .ok (.iadd, 1) := by decide +kernel
theorem dM_x_10 : decode cM_x 10 = .ok (.laload, 1) := by decide +kernel
theorem dM_x_11 : decode cM_x 11 = .ok (.lreturn, 1) := by decide +kernel
def f_M_x (v : MV) (x1 : Int32) (x2 : Int32) : Option Int64 := (ld 1920 (md_cornerX v) (((48 : Int32) * x1) + x2)).bind fun u1 => some u1
set_option maxHeartbeats 4000000 in
set_option maxRecDepth 100000 in
theorem k_M_x (l : Launch) (dC : Nat → ClassId) (dI : Nat → Nat → Nat) (cL cI : ClassId) (qm : Nat → Nat) (v : MV) (x1 : Int32) (x2 : Int32) (r : Int64) (h : f_M_x v x1 x2 = some r) : Met l yM_x wsM_x ({ frames := 0, cells := 0, slots := 0, locals := 0 }) (rd_Pc [.ref (qm 0), .int x1, .int x2] (fun H => va_P (dC, dI) cls3 (mdW cL cI qm v) H) (dC, dI) cls3 [(cL, .long), (cI, .int)]) (vp_Sl (fun z => z = r)) 0 0 (fun _ => False) := by
  refine Met.ofW (cc := cM_x) (maxL := 3) (ret := (some .long)) (by decide) rfl ?_
  intro p e s m args below meth c s₁ B hml hv
  obtain ⟨rfl, hPm, hK⟩ := hv
  have hx := B.exec
  have hb := B.bytes
  have hr := B.returns
  have hw : ∀ w ∈ wG, w.before ([.ref (qm 0), .int x1, .int x2] : List Value).toArray s = true := fun w hq => atoms_spec (ws := wsM_x) B.pre w (List.mem_cons_of_mem _ hq)
  have hown : s.vm.findClass R_M = some m.cls := findClass_of_methodNamed B.named
  have hlocks := B.notSynchronized
  have hl := lv_entry ([.ref (qm 0), .int x1, .int x2] : List Value) (n := 3) (Nat.le_of_ble_eq_true rfl)
  rw [lg_entry_eq]
  generalize (lg_sl ([.ref (qm 0), .int x1, .int x2] : List Value) ++ List.replicate (3 - (lg_sl ([.ref (qm 0), .int x1, .int x2] : List Value)).length) Slot.unset).toArray = ls at hl ⊢
  have hl : lv_has ls 3 [(0, .ref (qm 0)), (1, .int x1), (2, .int x2)] := hl
  unfold f_M_x at h
  refine lv_aload_n hx hb dM_x_0 rfl (lv_at hl 0 rfl) ?_
  refine va_get (D := (dC, dI)) (ci := 2) (v := .ref (qm 3)) (C := R_M) (T := T_M) (N := 15) hx hb hw in_M hown hK hPm 0 rfl rfl 4 (by decide) (hw _ w_449) (fun _ h9 => h9) rfl dM_x_1 ?_
  refine lv_bipush (v := 48) hx hb dM_x_4 (by decide) ?_
  refine lv_iload_n hx hb dM_x_6 rfl (lv_at hl 1 rfl) ?_
  refine lv_imul hx hb dM_x_7 ?_
  refine lv_iload_n hx hb dM_x_8 rfl (lv_at hl 2 rfl) ?_
  refine lv_iadd hx hb dM_x_9 ?_
  obtain ⟨u1, hu1, h⟩ := ob_some h
  obtain ⟨hiu1, eu1⟩ := ld_of hu1
  refine va_lald hx hb hK hPm 3 0 rfl rfl hiu1 dM_x_10 ?_
  rw [eu1]
  exact W.lret hx hb hr (fun t ht hW => ⟨_, rfl, Option.some.inj h, ht⟩) nil_locs dM_x_11
theorem dM_y_0 : decode cM_y 0 = .ok (.aload_n 0, 1) := by decide +kernel
theorem dM_y_1 : decode cM_y 1 = .ok (.getfield 20, 3) := by decide +kernel
theorem dM_y_4 : decode cM_y 4 = .ok (.bipush 48, 2) := by decide +kernel
theorem dM_y_6 : decode cM_y 6 = .ok (.iload_n 1, 1) := by decide +kernel
theorem dM_y_7 : decode cM_y 7 = .ok (.imul, 1) := by decide +kernel
theorem dM_y_8 : decode cM_y 8 = .ok (.iload_n 2, 1) := by decide +kernel
theorem dM_y_9 : decode cM_y 9 = .ok (.iadd, 1) := by decide +kernel
theorem dM_y_10 : decode cM_y 10 = .ok (.laload, 1) := by decide +kernel
theorem dM_y_11 : decode cM_y 11 = .ok (.lreturn, 1) := by decide +kernel
def f_M_y (v : MV) (x1 : Int32) (x2 : Int32) : Option Int64 := (ld 1920 (md_cornerY v) (((48 : Int32) * x1) + x2)).bind fun u1 => some u1
set_option maxHeartbeats 4000000 in
set_option maxRecDepth 100000 in
theorem k_M_y (l : Launch) (dC : Nat → ClassId) (dI : Nat → Nat → Nat) (cL cI : ClassId) (qm : Nat → Nat) (v : MV) (x1 : Int32) (x2 : Int32) (r : Int64) (h : f_M_y v x1 x2 = some r) : Met l yM_y wsM_y ({ frames := 0, cells := 0, slots := 0, locals := 0 }) (rd_Pc [.ref (qm 0), .int x1, .int x2] (fun H => va_P (dC, dI) cls3 (mdW cL cI qm v) H) (dC, dI) cls3 [(cL, .long), (cI, .int)]) (vp_Sl (fun z => z = r)) 0 0 (fun _ => False) := by
  refine Met.ofW (cc := cM_y) (maxL := 3) (ret := (some .long)) (by decide) rfl ?_
  intro p e s m args below meth c s₁ B hml hv
  obtain ⟨rfl, hPm, hK⟩ := hv
  have hx := B.exec
  have hb := B.bytes
  have hr := B.returns
  have hw : ∀ w ∈ wG, w.before ([.ref (qm 0), .int x1, .int x2] : List Value).toArray s = true := fun w hq => atoms_spec (ws := wsM_y) B.pre w (List.mem_cons_of_mem _ hq)
  have hown : s.vm.findClass R_M = some m.cls := findClass_of_methodNamed B.named
  have hlocks := B.notSynchronized
  have hl := lv_entry ([.ref (qm 0), .int x1, .int x2] : List Value) (n := 3) (Nat.le_of_ble_eq_true rfl)
  rw [lg_entry_eq]
  generalize (lg_sl ([.ref (qm 0), .int x1, .int x2] : List Value) ++ List.replicate (3 - (lg_sl ([.ref (qm 0), .int x1, .int x2] : List Value)).length) Slot.unset).toArray = ls at hl ⊢
  have hl : lv_has ls 3 [(0, .ref (qm 0)), (1, .int x1), (2, .int x2)] := hl
  unfold f_M_y at h
  refine lv_aload_n hx hb dM_y_0 rfl (lv_at hl 0 rfl) ?_
  refine va_get (D := (dC, dI)) (ci := 2) (v := .ref (qm 4)) (C := R_M) (T := T_M) (N := 15) hx hb hw in_M hown hK hPm 0 rfl rfl 5 (by decide) (hw _ w_450) (fun _ h9 => h9) rfl dM_y_1 ?_
  refine lv_bipush (v := 48) hx hb dM_y_4 (by decide) ?_
  refine lv_iload_n hx hb dM_y_6 rfl (lv_at hl 1 rfl) ?_
  refine lv_imul hx hb dM_y_7 ?_
  refine lv_iload_n hx hb dM_y_8 rfl (lv_at hl 2 rfl) ?_
  refine lv_iadd hx hb dM_y_9 ?_
  obtain ⟨u1, hu1, h⟩ := ob_some h
  obtain ⟨hiu1, eu1⟩ := ld_of hu1
  refine va_lald hx hb hK hPm 4 0 rfl rfl hiu1 dM_y_10 ?_
  rw [eu1]
  exact W.lret hx hb hr (fun t ht hW => ⟨_, rfl, Option.some.inj h, ht⟩) nil_locs dM_y_11
theorem dM_behind_0 : decode cM_behind 0 = .ok (.iload_n 0, 1) := by decide +kernel
theorem dM_behind_1 : decode cM_behind 1 = .ok (.iconst 1, 1) := by decide +kernel
theorem dM_behind_2 : decode cM_behind 2 = .ok (.iadd, 1) := by decide +kernel
theorem dM_behind_3 : decode cM_behind 3 = .ok (.iload_n 2, 1) := by decide +kernel
theorem dM_behind_4 : decode cM_behind 4 = .ok (.if_icmp .ge 9, 3) := by decide +kernel
theorem dM_behind_7 : decode cM_behind 7 = .ok (.iload_n 0, 1) := by decide +kernel
theorem dM_behind_8 : decode cM_behind 8 = .ok (.iconst 1, 1) := by decide +kernel
theorem dM_behind_9 : decode cM_behind 9 = .ok (.iadd, 1) := by decide +kernel
theorem dM_behind_10 : decode cM_behind 10 = .ok (.goto 4, 3) := by decide +kernel
theorem dM_behind_13 : decode cM_behind 13 = .ok (.iload_n 1, 1) := by decide +kernel
theorem dM_behind_14 : decode cM_behind 14 = .ok (.ireturn, 1) := by decide +kernel
def f_M_behind_j14 (s0 : Int32) : Option Int32 := some s0
def f_M_behind (x0 : Int32) (x1 : Int32) (x2 : Int32) : Option Int32 := (if x2 ≤ (x0 + (1 : Int32)) then (f_M_behind_j14 x1) else (f_M_behind_j14 (x0 + (1 : Int32))))
set_option maxHeartbeats 4000000 in
set_option maxRecDepth 100000 in
theorem k_M_behind (l : Launch) (dC : Nat → ClassId) (dI : Nat → Nat → Nat) (cL cI : ClassId) (x0 : Int32) (x1 : Int32) (x2 : Int32) (r : Int32) (h : f_M_behind x0 x1 x2 = some r) : Met l yM_behind wsM_behind ({ frames := 0, cells := 0, slots := 0, locals := 0 }) (rd_Pc [.int x0, .int x1, .int x2] (fun _ => True) (dC, dI) cls3 [(cL, .long), (cI, .int)]) (vp_Si (fun z => z = r)) 0 0 (fun _ => False) := by
  refine Met.ofW (cc := cM_behind) (maxL := 3) (ret := (some .int)) (by decide) rfl ?_
  intro p e s m args below meth c s₁ B hml hv
  obtain ⟨rfl, hF, hK⟩ := hv
  have hx := B.exec
  have hb := B.bytes
  have hr := B.returns
  have hw : ∀ w ∈ wG, w.before ([.int x0, .int x1, .int x2] : List Value).toArray s = true := fun w hq => atoms_spec (ws := wsM_behind) B.pre w (List.mem_cons_of_mem _ hq)
  have hown : s.vm.findClass R_M = some m.cls := findClass_of_methodNamed B.named
  have hlocks := B.notSynchronized
  have hl := lv_entry ([.int x0, .int x1, .int x2] : List Value) (n := 3) (Nat.le_of_ble_eq_true rfl)
  rw [lg_entry_eq]
  generalize (lg_sl ([.int x0, .int x1, .int x2] : List Value) ++ List.replicate (3 - (lg_sl ([.int x0, .int x1, .int x2] : List Value)).length) Slot.unset).toArray = ls at hl ⊢
  have hl : lv_has ls 3 [(0, .int x0), (1, .int x1), (2, .int x2)] := hl
  have k14 : ∀ (s0 : Int32), f_M_behind_j14 s0 = some r →  ∀ (ls : Array Slot), lv_has ls 3 [] → W p l e (headSpec wsM_behind ({ frames := 0, cells := 0, slots := 0, locals := 0 })).room s m ([.int x0, .int x1, .int x2] : List Value).toArray below meth c s.heap [] 0 0 (MQ below (vp_Si (fun z => z = r)) ([.int x0, .int x1, .int x2] : List Value).toArray s 0 0 (fun _ => False)) (F0 m 14 ls [.int s0]) := by
    intro s0 h  ls hl
    unfold f_M_behind_j14 at h
    exact W.iret hx hb hr (fun t ht hW => ⟨_, rfl, Option.some.inj h, ht⟩) nil_locs dM_behind_14
  unfold f_M_behind at h
  refine lv_iload_n hx hb dM_behind_0 rfl (lv_at hl 0 rfl) ?_
  refine lv_iconst (v := 1) hx hb dM_behind_1 (by decide) ?_
  refine lv_iadd hx hb dM_behind_2 ?_
  refine lv_iload_n hx hb dM_behind_3 rfl (lv_at hl 2 rfl) ?_
  refine lv_icmp_ge (tgt := 13) hx hb dM_behind_4 (by decide) (fun c1 => ?_) (fun c1 => ?_)
  · have h := it_t c1 h
    refine lv_iload_n hx hb dM_behind_13 rfl (lv_at hl 1 rfl) ?_
    exact k14 x1 h ls (lv_sub hl [] rfl)
  · have h := it_f c1 h
    refine lv_iload_n hx hb dM_behind_7 rfl (lv_at hl 0 rfl) ?_
    refine lv_iconst (v := 1) hx hb dM_behind_8 (by decide) ?_
    refine lv_iadd hx hb dM_behind_9 ?_
    refine lv_goto (tgt := 14) hx hb dM_behind_10 (by decide) ?_
    exact k14 (x0 + (1 : Int32)) h ls (lv_sub hl [] rfl)
end
section
/-! the reference: reading methods, laid by program -/
theorem dM_isEmpty_0 : decode cM_isEmpty 0 = .ok (.iconst 1, 1) := by decide +kernel
theorem dM_isEmpty_1 : decode cM_isEmpty 1 = .ok (.istore 4, 2) := by decide +kernel
theorem dM_isEmpty_3 : decode cM_isEmpty 3 = .ok (.iload_n 2, 1) := by decide +kernel
theorem dM_isEmpty_4 : decode cM_isEmpty 4 = .ok (.istore 5, 2) := by decide +kernel
theorem dM_isEmpty_6 : decode cM_isEmpty 6 = .ok (.iload 5, 2) := by decide +kernel
theorem dM_isEmpty_8 : decode cM_isEmpty 8 = .ok (.iload_n 3, 1) := by decide +kernel
theorem dM_isEmpty_9 : decode cM_isEmpty 9 = .ok (.if_icmp .ge 82, 3) := by decide +kernel
theorem dM_isEmpty_12 : decode cM_isEmpty 12 = .ok (.iload_n 2, 1) := by decide +kernel
theorem dM_isEmpty_13 : decode cM_isEmpty 13 = .ok (.istore 6, 2) := by decide +kernel
theorem dM_isEmpty_15 : decode cM_isEmpty 15 = .ok (.iload 6, 2) := by decide +kernel
theorem dM_isEmpty_17 : decode cM_isEmpty 17 = .ok (.iload_n 3, 1) := by decide +kernel
theorem dM_isEmpty_18 : decode cM_isEmpty 18 = .ok (.if_icmp .ge 67, 3) := by decide +kernel
theorem dM_isEmpty_21 : decode cM_isEmpty 21 = .ok (.iload 4, 2) := by decide +kernel
theorem dM_isEmpty_23 : decode cM_isEmpty 23 = .ok (.ifCond .eq 53, 3) := by decide +kernel
theorem dM_isEmpty_26 : decode cM_isEmpty 26 = .ok (.aload_n 0, 1) := by decide +kernel
theorem dM_isEmpty_27 : decode cM_isEmpty 27 = .ok (.iload_n 1, 1) := by decide +kernel
theorem dM_isEmpty_28 : decode cM_isEmpty 28 = .ok (.iload_n 2, 1) := by decide +kernel
theorem dM_isEmpty_29 : decode cM_isEmpty 29 = .ok (.invokevirtual 111, 3) := by decide +kernel
theorem dM_isEmpty_32 : decode cM_isEmpty 32 = .ok (.aload_n 0, 1) := by decide +kernel
theorem dM_isEmpty_33 : decode cM_isEmpty 33 = .ok (.iload_n 1, 1) := by decide +kernel
theorem dM_isEmpty_34 : decode cM_isEmpty 34 = .ok (.iload_n 2, 1) := by decide +kernel
theorem dM_isEmpty_35 : decode cM_isEmpty 35 = .ok (.invokevirtual 115, 3) := by decide +kernel
theorem dM_isEmpty_38 : decode cM_isEmpty 38 = .ok (.aload_n 0, 1) := by decide +kernel
theorem dM_isEmpty_39 : decode cM_isEmpty 39 = .ok (.iload_n 1, 1) := by decide +kernel
theorem dM_isEmpty_40 : decode cM_isEmpty 40 = .ok (.iload 5, 2) := by decide +kernel
theorem dM_isEmpty_42 : decode cM_isEmpty 42 = .ok (.invokevirtual 111, 3) := by decide +kernel
theorem dM_isEmpty_45 : decode cM_isEmpty 45 = .ok (.aload_n 0, 1) := by decide +kernel
theorem dM_isEmpty_46 : decode cM_isEmpty 46 = .ok (.iload_n 1, 1) := by decide +kernel
theorem dM_isEmpty_47 : decode cM_isEmpty 47 = .ok (.iload 5, 2) := by decide +kernel
theorem dM_isEmpty_49 : decode cM_isEmpty 49 = .ok (.invokevirtual 115, 3) := by decide +kernel
theorem dM_isEmpty_52 : decode cM_isEmpty 52 = .ok (.aload_n 0, 1) := by decide +kernel
theorem dM_isEmpty_53 : decode cM_isEmpty 53 = .ok (.iload_n 1, 1) := by decide +kernel
theorem dM_isEmpty_54 : decode cM_isEmpty 54 = .ok (.iload 6, 2) := by decide +kernel
theorem dM_isEmpty_56 : decode cM_isEmpty 56 = .ok (.invokevirtual 111, 3) := by decide +kernel
theorem dM_isEmpty_59 : decode cM_isEmpty 59 = .ok (.aload_n 0, 1) := by decide +kernel
theorem dM_isEmpty_60 : decode cM_isEmpty 60 = .ok (.iload_n 1, 1) := by decide +kernel
theorem dM_isEmpty_61 : decode cM_isEmpty 61 = .ok (.iload 6, 2) := by decide +kernel
theorem dM_isEmpty_63 : decode cM_isEmpty 63 = .ok (.invokevirtual 115, 3) := by decide +kernel
theorem dM_isEmpty_66 : decode cM_isEmpty 66 = .ok (.invokestatic 103, 3) := by decide +kernel
theorem dM_isEmpty_69 : decode cM_isEmpty 69 = .ok (.ifCond .ne 7, 3) := by decide +kernel
theorem dM_isEmpty_72 : decode cM_isEmpty 72 = .ok (.iconst 1, 1) := by decide +kernel
theorem dM_isEmpty_73 : decode cM_isEmpty 73 = .ok (.goto 4, 3) := by decide +kernel
theorem dM_isEmpty_76 : decode cM_isEmpty 76 = .ok (.iconst 0, 1) := by decide +kernel
theorem dM_isEmpty_77 : decode cM_isEmpty 77 = .ok (.istore 4, 2) := by decide +kernel
theorem dM_isEmpty_79 : decode cM_isEmpty 79 = .ok (.iinc 6 1, 3) := by decide +kernel
theorem dM_isEmpty_82 : decode cM_isEmpty 82 = .ok (.goto (-67), 3) := by decide +kernel
theorem dM_isEmpty_85 : decode cM_isEmpty 85 = .ok (.iinc 5 1, 3) := by decide +kernel
theorem dM_isEmpty_88 : decode cM_isEmpty 88 = .ok (.goto (-82), 3) := by decide +kernel
theorem dM_isEmpty_91 : decode cM_isEmpty 91 = .ok (.iload 4, 2) := by decide +kernel
theorem dM_isEmpty_93 : decode cM_isEmpty 93 = .ok (.ireturn, 1) := by decide +kernel
def f_M_isEmpty_j77 (v : MV) (K6 : Int32 → Int32 → Int32 → Int32 → Int32 → Option Int32) (K15 : Int32 → Int32 → Int32 → Int32 → Int32 → Int32 → Option Int32) (p1 : Int32) (p2 : Int32) (p3 : Int32) (p5 : Int32) (p6 : Int32) (s0 : Int32) : Option Int32 := (K15 p1 p2 p3 s0 p5 (p6 + 1))
def f_M_isEmpty_j76 (v : MV) (K6 : Int32 → Int32 → Int32 → Int32 → Int32 → Option Int32) (K15 : Int32 → Int32 → Int32 → Int32 → Int32 → Int32 → Option Int32) (p1 : Int32) (p2 : Int32) (p3 : Int32) (p5 : Int32) (p6 : Int32) : Option Int32 := (f_M_isEmpty_j77 v K6 K15 p1 p2 p3 p5 p6 (0 : Int32))
def f_M_isEmpty_l15 (v : MV) (K6 : Int32 → Int32 → Int32 → Int32 → Int32 → Option Int32) : Nat → Int32 → Int32 → Int32 → Int32 → Int32 → Int32 → Option Int32
 | 0, _, _, _, _, _, _ => none
 | n + 1, p1, p2, p3, p4, p5, p6 => (if p3 ≤ p6 then (K6 p1 p2 p3 p4 (p5 + 1)) else (if p4 = 0 then (f_M_isEmpty_j76 v K6 (f_M_isEmpty_l15 v K6 n) p1 p2 p3 p5 p6) else (f_M_x v p1 p2).bind fun u4 => (f_M_y v p1 p2).bind fun u5 => (f_M_x v p1 p5).bind fun u6 => (f_M_y v p1 p5).bind fun u7 => (f_M_x v p1 p6).bind fun u8 => (f_M_y v p1 p6).bind fun u9 => (f_M_turnOf u4 u5 u6 u7 u8 u9).bind fun u10 => (if u10 = 0 then (f_M_isEmpty_j77 v K6 (f_M_isEmpty_l15 v K6 n) p1 p2 p3 p5 p6 (1 : Int32)) else (f_M_isEmpty_j76 v K6 (f_M_isEmpty_l15 v K6 n) p1 p2 p3 p5 p6))))
def f_M_isEmpty_l6 (v : MV) : Nat → Int32 → Int32 → Int32 → Int32 → Int32 → Option Int32
 | 0, _, _, _, _, _ => none
 | n + 1, p1, p2, p3, p4, p5 => (if p3 ≤ p5 then rb p4 else (f_M_isEmpty_l15 v (f_M_isEmpty_l6 v n) 64 p1 p2 p3 p4 p5 p2))
def f_M_isEmpty (v : MV) (x1 : Int32) (x2 : Int32) (x3 : Int32) : Option Int32 := (f_M_isEmpty_l6 v 64 x1 x2 x3 (1 : Int32) x2)
set_option maxHeartbeats 4000000 in
set_option maxRecDepth 100000 in
theorem k_M_isEmpty (l : Launch) (dC : Nat → ClassId) (dI : Nat → Nat → Nat) (cL cI : ClassId) (qm : Nat → Nat) (v : MV) (x1 : Int32) (x2 : Int32) (x3 : Int32) (r : Int32) (h : f_M_isEmpty v x1 x2 x3 = some r) : Met l yM_isEmpty wsM_isEmpty ({ frames := 2, cells := 0, slots := 0, locals := 58 }) (rd_Pc [.ref (qm 0), .int x1, .int x2, .int x3] (fun H => va_P (dC, dI) cls3 (mdW cL cI qm v) H) (dC, dI) cls3 [(cL, .long), (cI, .int)]) (vp_Si (fun z => z = r)) 0 0 (fun _ => False) := by
  refine Met.ofW (cc := cM_isEmpty) (maxL := 7) (ret := (some .boolean)) (by decide) rfl ?_
  intro p e s m args below meth c s₁ B hml hv
  obtain ⟨rfl, hPm, hK⟩ := hv
  have hx := B.exec
  have hb := B.bytes
  have hr := B.returns
  have hw : ∀ w ∈ wG, w.before ([.ref (qm 0), .int x1, .int x2, .int x3] : List Value).toArray s = true := fun w hq => atoms_spec (ws := wsM_isEmpty) B.pre w (List.mem_cons_of_mem _ hq)
  have hown : s.vm.findClass R_M = some m.cls := findClass_of_methodNamed B.named
  have hlocks := B.notSynchronized
  have hl := lv_entry ([.ref (qm 0), .int x1, .int x2, .int x3] : List Value) (n := 7) (Nat.le_of_ble_eq_true rfl)
  rw [lg_entry_eq]
  generalize (lg_sl ([.ref (qm 0), .int x1, .int x2, .int x3] : List Value) ++ List.replicate (7 - (lg_sl ([.ref (qm 0), .int x1, .int x2, .int x3] : List Value)).length) Slot.unset).toArray = ls at hl ⊢
  have hl : lv_has ls 7 [(0, .ref (qm 0)), (1, .int x1), (2, .int x2), (3, .int x3)] := hl
  have k6 : ∀ (n6 : Nat), ∀ (p1 : Int32) (p2 : Int32) (p3 : Int32) (p4 : Int32) (p5 : Int32), f_M_isEmpty_l6 v n6 p1 p2 p3 p4 p5 = some r →  ∀ (ls : Array Slot), lv_has ls 7 [(0, .ref (qm 0)), (1, .int p1), (2, .int p2), (3, .int p3), (4, .int p4), (5, .int p5)] → W p l e (headSpec wsM_isEmpty ({ frames := 2, cells := 0, slots := 0, locals := 58 })).room s m ([.ref (qm 0), .int x1, .int x2, .int x3] : List Value).toArray below meth c s.heap [] 0 0 (MQ below (vp_Si (fun z => z = r)) ([.ref (qm 0), .int x1, .int x2, .int x3] : List Value).toArray s 0 0 (fun _ => False)) (F0 m 6 ls []) := by
    intro n6
    induction n6 with
    | zero => intro p1 p2 p3 p4 p5 h; exact absurd h (by simp [f_M_isEmpty_l6])
    | succ n6 ih6 =>
      have k15 : ∀ (n15 : Nat), ∀ (p1 : Int32) (p2 : Int32) (p3 : Int32) (p4 : Int32) (p5 : Int32) (p6 : Int32), f_M_isEmpty_l15 v (f_M_isEmpty_l6 v n6) n15 p1 p2 p3 p4 p5 p6 = some r →  ∀ (ls : Array Slot), lv_has ls 7 [(0, .ref (qm 0)), (1, .int p1), (2, .int p2), (3, .int p3), (4, .int p4), (5, .int p5), (6, .int p6)] → W p l e (headSpec wsM_isEmpty ({ frames := 2, cells := 0, slots := 0, locals := 58 })).room s m ([.ref (qm 0), .int x1, .int x2, .int x3] : List Value).toArray below meth c s.heap [] 0 0 (MQ below (vp_Si (fun z => z = r)) ([.ref (qm 0), .int x1, .int x2, .int x3] : List Value).toArray s 0 0 (fun _ => False)) (F0 m 15 ls []) := by
        intro n15
        induction n15 with
        | zero => intro p1 p2 p3 p4 p5 p6 h; exact absurd h (by simp [f_M_isEmpty_l15])
        | succ n15 ih15 =>
          have k77 : ∀ (p1 : Int32) (p2 : Int32) (p3 : Int32) (p5 : Int32) (p6 : Int32) (s0 : Int32), f_M_isEmpty_j77 v (f_M_isEmpty_l6 v n6) (f_M_isEmpty_l15 v (f_M_isEmpty_l6 v n6) n15) p1 p2 p3 p5 p6 s0 = some r →  ∀ (ls : Array Slot), lv_has ls 7 [(0, .ref (qm 0)), (1, .int p1), (2, .int p2), (3, .int p3), (5, .int p5), (6, .int p6)] → W p l e (headSpec wsM_isEmpty ({ frames := 2, cells := 0, slots := 0, locals := 58 })).room s m ([.ref (qm 0), .int x1, .int x2, .int x3] : List Value).toArray below meth c s.heap [] 0 0 (MQ below (vp_Si (fun z => z = r)) ([.ref (qm 0), .int x1, .int x2, .int x3] : List Value).toArray s 0 0 (fun _ => False)) (F0 m 77 ls [.int s0]) := by
            intro p1 p2 p3 p5 p6 s0 h  ls hl
            unfold f_M_isEmpty_j77 at h
            refine lv_istore (lv' := [(4, .int s0), (0, .ref (qm 0)), (1, .int p1), (2, .int p2), (3, .int p3), (5, .int p5), (6, .int p6)]) hx hb dM_isEmpty_77 hl (by decide) rfl (fun ls hl => ?_)
            refine lv_iinc (v := p6 + 1) (lv' := [(6, .int (p6 + 1)), (4, .int s0), (0, .ref (qm 0)), (1, .int p1), (2, .int p2), (3, .int p3), (5, .int p5)]) hx hb dM_isEmpty_79 hl (k := 6) rfl rfl (by decide) rfl (fun ls hl => ?_)
            refine lv_goto (tgt := 15) hx hb dM_isEmpty_82 (by decide) ?_
            exact ih15 p1 p2 p3 s0 p5 (p6 + 1) h ls (lv_sub hl [2, 3, 4, 5, 1, 6, 0] rfl)
          have k76 : ∀ (p1 : Int32) (p2 : Int32) (p3 : Int32) (p5 : Int32) (p6 : Int32), f_M_isEmpty_j76 v (f_M_isEmpty_l6 v n6) (f_M_isEmpty_l15 v (f_M_isEmpty_l6 v n6) n15) p1 p2 p3 p5 p6 = some r →  ∀ (ls : Array Slot), lv_has ls 7 [(0, .ref (qm 0)), (1, .int p1), (2, .int p2), (3, .int p3), (5, .int p5), (6, .int p6)] → W p l e (headSpec wsM_isEmpty ({ frames := 2, cells := 0, slots := 0, locals := 58 })).room s m ([.ref (qm 0), .int x1, .int x2, .int x3] : List Value).toArray below meth c s.heap [] 0 0 (MQ below (vp_Si (fun z => z = r)) ([.ref (qm 0), .int x1, .int x2, .int x3] : List Value).toArray s 0 0 (fun _ => False)) (F0 m 76 ls []) := by
            intro p1 p2 p3 p5 p6 h  ls hl
            unfold f_M_isEmpty_j76 at h
            refine lv_iconst (v := 0) hx hb dM_isEmpty_76 (by decide) ?_
            exact k77 p1 p2 p3 p5 p6 (0 : Int32) h ls (lv_sub hl [0, 1, 2, 3, 4, 5] rfl)
          intro p1 p2 p3 p4 p5 p6 h  ls hl
          rw [f_M_isEmpty_l15] at h
          refine lv_iload hx hb dM_isEmpty_15 (lv_at hl 6 rfl) ?_
          refine lv_iload_n hx hb dM_isEmpty_17 rfl (lv_at hl 3 rfl) ?_
          refine lv_icmp_ge (tgt := 85) hx hb dM_isEmpty_18 (by decide) (fun c2 => ?_) (fun c2 => ?_)
          · have h := it_t c2 h
            refine lv_iinc (v := p5 + 1) (lv' := [(5, .int (p5 + 1)), (0, .ref (qm 0)), (1, .int p1), (2, .int p2), (3, .int p3), (4, .int p4), (6, .int p6)]) hx hb dM_isEmpty_85 hl (k := 5) rfl rfl (by decide) rfl (fun ls hl => ?_)
            refine lv_goto (tgt := 6) hx hb dM_isEmpty_88 (by decide) ?_
            exact ih6 p1 p2 p3 p4 (p5 + 1) h ls (lv_sub hl [1, 2, 3, 4, 5, 0] rfl)
          · have h := it_f c2 h
            refine lv_iload hx hb dM_isEmpty_21 (lv_at hl 4 rfl) ?_
            refine lv_if_eq (tgt := 76) hx hb dM_isEmpty_23 (by decide) (fun c3 => ?_) (fun c3 => ?_)
            · have h := it_t c3 h
              exact k76 p1 p2 p3 p5 p6 h ls (lv_sub hl [0, 1, 2, 3, 5, 6] rfl)
            · have h := it_f c3 h
              refine lv_aload_n hx hb dM_isEmpty_26 rfl (lv_at hl 0 rfl) ?_
              refine lv_iload_n hx hb dM_isEmpty_27 rfl (lv_at hl 1 rfl) ?_
              refine lv_iload_n hx hb dM_isEmpty_28 rfl (lv_at hl 2 rfl) ?_
              obtain ⟨u4, hu4, h⟩ := ob_some h
              refine vp_callSl (va_Run.run (va_runV (As := [.int p1, .int p2]) (rest := []) ⟨hx, hb, hml, hown, hw⟩ (k_M_x l dC dI cL cI qm v p1 p2 u4 hu4) (cwV 2 hw (gV w_550 w_552 wp_11 w_2 w_553) rfl rfl rfl (by decide +kernel) ⟨Nat.le_of_ble_eq_true rfl, Nat.le_of_ble_eq_true rfl⟩) ⟨rd_blind, va_recv hK hPm (ci := 2) (q0 := 0) rfl rfl, rd_pre hPm hK⟩ rfl rfl hl.1 rfl (lv_room (Nat.le_of_ble_eq_true rfl)) dM_isEmpty_29 ⟨Nat.le_of_ble_eq_true rfl, Nat.le_of_ble_eq_true rfl⟩)) (fun z hz => ?_)
              rw [hz]; clear hz
              refine lv_aload_n hx hb dM_isEmpty_32 rfl (lv_at hl 0 rfl) ?_
              refine lv_iload_n hx hb dM_isEmpty_33 rfl (lv_at hl 1 rfl) ?_
              refine lv_iload_n hx hb dM_isEmpty_34 rfl (lv_at hl 2 rfl) ?_
              obtain ⟨u5, hu5, h⟩ := ob_some h
              refine vp_callSl (va_Run.run (va_runV (As := [.int p1, .int p2]) (rest := [.long u4]) ⟨hx, hb, hml, hown, hw⟩ (k_M_y l dC dI cL cI qm v p1 p2 u5 hu5) (cwV 2 hw (gV w_554 w_556 wp_12 w_2 w_557) rfl rfl rfl (by decide +kernel) ⟨Nat.le_of_ble_eq_true rfl, Nat.le_of_ble_eq_true rfl⟩) ⟨rd_blind, va_recv hK hPm (ci := 2) (q0 := 0) rfl rfl, rd_pre hPm hK⟩ rfl rfl hl.1 rfl (lv_room (Nat.le_of_ble_eq_true rfl)) dM_isEmpty_35 ⟨Nat.le_of_ble_eq_true rfl, Nat.le_of_ble_eq_true rfl⟩)) (fun z hz => ?_)
              rw [hz]; clear hz
              refine lv_aload_n hx hb dM_isEmpty_38 rfl (lv_at hl 0 rfl) ?_
              refine lv_iload_n hx hb dM_isEmpty_39 rfl (lv_at hl 1 rfl) ?_
              refine lv_iload hx hb dM_isEmpty_40 (lv_at hl 5 rfl) ?_
              obtain ⟨u6, hu6, h⟩ := ob_some h
              refine vp_callSl (va_Run.run (va_runV (As := [.int p1, .int p5]) (rest := [.long u5, .long u4]) ⟨hx, hb, hml, hown, hw⟩ (k_M_x l dC dI cL cI qm v p1 p5 u6 hu6) (cwV 2 hw (gV w_550 w_552 wp_11 w_2 w_553) rfl rfl rfl (by decide +kernel) ⟨Nat.le_of_ble_eq_true rfl, Nat.le_of_ble_eq_true rfl⟩) ⟨rd_blind, va_recv hK hPm (ci := 2) (q0 := 0) rfl rfl, rd_pre hPm hK⟩ rfl rfl hl.1 rfl (lv_room (Nat.le_of_ble_eq_true rfl)) dM_isEmpty_42 ⟨Nat.le_of_ble_eq_true rfl, Nat.le_of_ble_eq_true rfl⟩)) (fun z hz => ?_)
              rw [hz]; clear hz
              refine lv_aload_n hx hb dM_isEmpty_45 rfl (lv_at hl 0 rfl) ?_
              refine lv_iload_n hx hb dM_isEmpty_46 rfl (lv_at hl 1 rfl) ?_
              refine lv_iload hx hb dM_isEmpty_47 (lv_at hl 5 rfl) ?_
              obtain ⟨u7, hu7, h⟩ := ob_some h
              refine vp_callSl (va_Run.run (va_runV (As := [.int p1, .int p5]) (rest := [.long u6, .long u5, .long u4]) ⟨hx, hb, hml, hown, hw⟩ (k_M_y l dC dI cL cI qm v p1 p5 u7 hu7) (cwV 2 hw (gV w_554 w_556 wp_12 w_2 w_557) rfl rfl rfl (by decide +kernel) ⟨Nat.le_of_ble_eq_true rfl, Nat.le_of_ble_eq_true rfl⟩) ⟨rd_blind, va_recv hK hPm (ci := 2) (q0 := 0) rfl rfl, rd_pre hPm hK⟩ rfl rfl hl.1 rfl (lv_room (Nat.le_of_ble_eq_true rfl)) dM_isEmpty_49 ⟨Nat.le_of_ble_eq_true rfl, Nat.le_of_ble_eq_true rfl⟩)) (fun z hz => ?_)
              rw [hz]; clear hz
              refine lv_aload_n hx hb dM_isEmpty_52 rfl (lv_at hl 0 rfl) ?_
              refine lv_iload_n hx hb dM_isEmpty_53 rfl (lv_at hl 1 rfl) ?_
              refine lv_iload hx hb dM_isEmpty_54 (lv_at hl 6 rfl) ?_
              obtain ⟨u8, hu8, h⟩ := ob_some h
              refine vp_callSl (va_Run.run (va_runV (As := [.int p1, .int p6]) (rest := [.long u7, .long u6, .long u5, .long u4]) ⟨hx, hb, hml, hown, hw⟩ (k_M_x l dC dI cL cI qm v p1 p6 u8 hu8) (cwV 2 hw (gV w_550 w_552 wp_11 w_2 w_553) rfl rfl rfl (by decide +kernel) ⟨Nat.le_of_ble_eq_true rfl, Nat.le_of_ble_eq_true rfl⟩) ⟨rd_blind, va_recv hK hPm (ci := 2) (q0 := 0) rfl rfl, rd_pre hPm hK⟩ rfl rfl hl.1 rfl (lv_room (Nat.le_of_ble_eq_true rfl)) dM_isEmpty_56 ⟨Nat.le_of_ble_eq_true rfl, Nat.le_of_ble_eq_true rfl⟩)) (fun z hz => ?_)
              rw [hz]; clear hz
              refine lv_aload_n hx hb dM_isEmpty_59 rfl (lv_at hl 0 rfl) ?_
              refine lv_iload_n hx hb dM_isEmpty_60 rfl (lv_at hl 1 rfl) ?_
              refine lv_iload hx hb dM_isEmpty_61 (lv_at hl 6 rfl) ?_
              obtain ⟨u9, hu9, h⟩ := ob_some h
              refine vp_callSl (va_Run.run (wd_runV 10 (As := [.int p1, .int p6]) (rest := [.long u8, .long u7, .long u6, .long u5, .long u4]) ⟨hx, hb, hml, hown, hw⟩ (k_M_y l dC dI cL cI qm v p1 p6 u9 hu9) (cwV 2 hw (gV w_554 w_556 wp_12 w_2 w_557) rfl rfl rfl (by decide +kernel) ⟨Nat.le_of_ble_eq_true rfl, Nat.le_of_ble_eq_true rfl⟩) (Nat.le_of_ble_eq_true rfl) ⟨rd_blind, va_recv hK hPm (ci := 2) (q0 := 0) rfl rfl, rd_pre hPm hK⟩ rfl rfl hl.1 rfl (wd_room (Nat.le_of_ble_eq_true rfl)) dM_isEmpty_63 ⟨Nat.le_of_ble_eq_true rfl, Nat.le_of_ble_eq_true rfl⟩)) (fun z hz => ?_)
              rw [hz]; clear hz
              obtain ⟨u10, hu10, h⟩ := ob_some h
              refine vp_callSi (va_Run.run (va_runS (As := [.long u4, .long u5, .long u6, .long u7, .long u8, .long u9]) (rest := []) ⟨hx, hb, hml, hown, hw⟩ (k_M_turnOf l dC dI cL cI u4 u5 u6 u7 u8 u9 u10 hu10) (va_cwS 6 hw (gS w_558 w_559 w_2 w_560) rfl rfl rfl (by decide +kernel) ⟨Nat.le_of_ble_eq_true rfl, Nat.le_of_ble_eq_true rfl⟩) ⟨rd_blind, rd_pre trivial hK⟩ rfl rfl hl.1 rfl (lv_room (Nat.le_of_ble_eq_true rfl)) dM_isEmpty_66 ⟨Nat.le_of_ble_eq_true rfl, Nat.le_of_ble_eq_true rfl⟩)) (fun z hz => ?_)
              rw [hz]; clear hz
              refine lv_if_ne (tgt := 76) hx hb dM_isEmpty_69 (by decide) (fun c11 => ?_) (fun c11 => ?_)
              · have h := it_f c11 h
                exact k76 p1 p2 p3 p5 p6 h ls (lv_sub hl [0, 1, 2, 3, 5, 6] rfl)
              · have h := it_t c11 h
                refine lv_iconst (v := 1) hx hb dM_isEmpty_72 (by decide) ?_
                refine lv_goto (tgt := 77) hx hb dM_isEmpty_73 (by decide) ?_
                exact k77 p1 p2 p3 p5 p6 (1 : Int32) h ls (lv_sub hl [0, 1, 2, 3, 5, 6] rfl)
      intro p1 p2 p3 p4 p5 h  ls hl
      rw [f_M_isEmpty_l6] at h
      refine lv_iload hx hb dM_isEmpty_6 (lv_at hl 5 rfl) ?_
      refine lv_iload_n hx hb dM_isEmpty_8 rfl (lv_at hl 3 rfl) ?_
      refine lv_icmp_ge (tgt := 91) hx hb dM_isEmpty_9 (by decide) (fun c1 => ?_) (fun c1 => ?_)
      · have h := it_t c1 h
        refine lv_iload hx hb dM_isEmpty_91 (lv_at hl 4 rfl) ?_
        obtain ⟨hz, hr9⟩ := rb_of h
        exact W.zret hx hb hr hz (fun t ht hW => ⟨_, rfl, hr9, ht⟩) nil_locs dM_isEmpty_93
      · have h := it_f c1 h
        refine lv_iload_n hx hb dM_isEmpty_12 rfl (lv_at hl 2 rfl) ?_
        refine lv_istore (lv' := [(6, .int p2), (0, .ref (qm 0)), (1, .int p1), (2, .int p2), (3, .int p3), (4, .int p4), (5, .int p5)]) hx hb dM_isEmpty_13 hl (by decide) rfl (fun ls hl => ?_)
        exact k15 64 p1 p2 p3 p4 p5 p2 h ls (lv_sub hl [1, 2, 3, 4, 5, 6, 0] rfl)
  unfold f_M_isEmpty at h
  refine lv_iconst (v := 1) hx hb dM_isEmpty_0 (by decide) ?_
  refine lv_istore (lv' := [(4, .int (1 : Int32)), (0, .ref (qm 0)), (1, .int x1), (2, .int x2), (3, .int x3)]) hx hb dM_isEmpty_1 hl (by decide) rfl (fun ls hl => ?_)
  refine lv_iload_n hx hb dM_isEmpty_3 rfl (lv_at hl 3 rfl) ?_
  refine lv_istore (lv' := [(5, .int x2), (4, .int (1 : Int32)), (0, .ref (qm 0)), (1, .int x1), (2, .int x2), (3, .int x3)]) hx hb dM_isEmpty_4 hl (by decide) rfl (fun ls hl => ?_)
  exact k6 64 x1 x2 x3 (1 : Int32) x2 h ls (lv_sub hl [2, 3, 4, 5, 1, 0] rfl)
theorem dM_foldsBack_0 : decode cM_foldsBack 0 = .ok (.iload_n 2, 1) := by decide +kernel
theorem dM_foldsBack_1 : decode cM_foldsBack 1 = .ok (.iload_n 3, 1) := by decide +kernel
theorem dM_foldsBack_2 : decode cM_foldsBack 2 = .ok (.iload 4, 2) := by decide +kernel
theorem dM_foldsBack_4 : decode cM_foldsBack 4 = .ok (.invokestatic 118, 3) := by decide +kernel
theorem dM_foldsBack_7 : decode cM_foldsBack 7 = .ok (.istore 5, 2) := by decide +kernel
theorem dM_foldsBack_9 : decode cM_foldsBack 9 = .ok (.iload 5, 2) := by decide +kernel
theorem dM_foldsBack_11 : decode cM_foldsBack 11 = .ok (.iload_n 3, 1) := by decide +kernel
theorem dM_foldsBack_12 : decode cM_foldsBack 12 = .ok (.iload 4, 2) := by decide +kernel
theorem dM_foldsBack_14 : decode cM_foldsBack 14 = .ok (.invokestatic 118, 3) := by decide +kernel
theorem dM_foldsBack_17 : decode cM_foldsBack 17 = .ok (.istore 6, 2) := by decide +kernel
theorem dM_foldsBack_19 : decode cM_foldsBack 19 = .ok (.aload_n 0, 1) := by decide +kernel
theorem dM_foldsBack_20 : decode cM_foldsBack 20 = .ok (.iload_n 1, 1) := by decide +kernel
theorem dM_foldsBack_21 : decode cM_foldsBack 21 = .ok (.iload_n 2, 1) := by decide +kernel
theorem dM_foldsBack_22 : decode cM_foldsBack 22 = .ok (.invokevirtual 111, 3) := by decide +kernel
theorem dM_foldsBack_25 : decode cM_foldsBack 25 = .ok (.aload_n 0, 1) := by decide +kernel
theorem dM_foldsBack_26 : decode cM_foldsBack 26 = .ok (.iload_n 1, 1) := by decide +kernel
theorem dM_foldsBack_27 : decode cM_foldsBack 27 = .ok (.iload_n 2, 1) := by decide +kernel
theorem dM_foldsBack_28 : decode cM_foldsBack 28 = .ok (.invokevirtual 115, 3) := by decide +kernel
theorem dM_foldsBack_31 : decode cM_foldsBack 31 = .ok (.aload_n 0, 1) := by decide +kernel
theorem dM_foldsBack_32 : decode cM_foldsBack 32 = .ok (.iload_n 1, 1) := by decide +kernel
theorem dM_foldsBack_33 : decode cM_foldsBack 33 = .ok (.iload 5, 2) := by decide +kernel
theorem dM_foldsBack_35 : decode cM_foldsBack 35 = .ok (.invokevirtual 111, 3) := by decide +kernel
theorem dM_foldsBack_38 : decode cM_foldsBack 38 = .ok (.aload_n 0, 1) := by decide +kernel
theorem dM_foldsBack_39 : decode cM_foldsBack 39 = .ok (.iload_n 1, 1) := by decide +kernel
theorem dM_foldsBack_40 : decode cM_foldsBack 40 = .ok (.iload 5, 2) := by decide +kernel
theorem dM_foldsBack_42 : decode cM_foldsBack 42 = .ok (.invokevirtual 115, 3) := by decide +kernel
theorem dM_foldsBack_45 : decode cM_foldsBack 45 = .ok (.aload_n 0, 1) := by decide +kernel
theorem dM_foldsBack_46 : decode cM_foldsBack 46 = .ok (.iload_n 1, 1) := by decide +kernel
theorem dM_foldsBack_47 : decode cM_foldsBack 47 = .ok (.iload 6, 2) := by decide +kernel
theorem dM_foldsBack_49 : decode cM_foldsBack 49 = .ok (.invokevirtual 111, 3) := by decide +kernel
theorem dM_foldsBack_52 : decode cM_foldsBack 52 = .ok (.aload_n 0, 1) := by decide +kernel
theorem dM_foldsBack_53 : decode cM_foldsBack 53 = .ok (.iload_n 1, 1) := by decide +kernel
theorem dM_foldsBack_54 : decode cM_foldsBack 54 = .ok (.iload 6, 2) := by decide +kernel
theorem dM_foldsBack_56 : decode cM_foldsBack 56 = .ok (.invokevirtual 115, 3) := by decide +kernel
theorem dM_foldsBack_59 : decode cM_foldsBack 59 = .ok (.invokestatic 103, 3) := by decide +kernel
theorem dM_foldsBack_62 : decode cM_foldsBack 62 = .ok (.ifCond .ne 7, 3) := by decide +kernel
theorem dM_foldsBack_65 : decode cM_foldsBack 65 = .ok (.iconst 1, 1) := by decide +kernel
theorem dM_foldsBack_66 : decode cM_foldsBack 66 = .ok (.goto 4, 3) := by decide +kernel
theorem dM_foldsBack_69 : decode cM_foldsBack 69 = .ok (.iconst 0, 1) := by decide +kernel
theorem dM_foldsBack_70 : decode cM_foldsBack 70 = .ok (.istore 7, 2) := by decide +kernel
theorem dM_foldsBack_72 : decode cM_foldsBack 72 = .ok (.aload_n 0, 1) := by decide +kernel
theorem dM_foldsBack_73 : decode cM_foldsBack 73 = .ok (.iload_n 1, 1) := by decide +kernel
theorem dM_foldsBack_74 : decode cM_foldsBack 74 = .ok (.iload 5, 2) := by decide +kernel
theorem dM_foldsBack_76 : decode cM_foldsBack 76 = .ok (.invokevirtual 111, 3) := by decide +kernel
theorem dM_foldsBack_79 : decode cM_foldsBack 79 = .ok (.aload_n 0, 1) := by decide +kernel
theorem dM_foldsBack_80 : decode cM_foldsBack 80 = .ok (.iload_n 1, 1) := by decide +kernel
theorem dM_foldsBack_81 : decode cM_foldsBack 81 = .ok (.iload 5, 2) := by decide +kernel
theorem dM_foldsBack_83 : decode cM_foldsBack 83 = .ok (.invokevirtual 115, 3) := by decide +kernel
theorem dM_foldsBack_86 : decode cM_foldsBack 86 = .ok (.aload_n 0, 1) := by decide +kernel
theorem dM_foldsBack_87 : decode cM_foldsBack 87 = .ok (.iload_n 1, 1) := by decide +kernel
theorem dM_foldsBack_88 : decode cM_foldsBack 88 = .ok (.iload_n 2, 1) := by decide +kernel
theorem dM_foldsBack_89 : decode cM_foldsBack 89 = .ok (.invokevirtual 111, 3) := by decide +kernel
theorem dM_foldsBack_92 : decode cM_foldsBack 92 = .ok (.aload_n 0, 1) := by decide +kernel
theorem dM_foldsBack_93 : decode cM_foldsBack 93 = .ok (.iload_n 1, 1) := by decide +kernel
theorem dM_foldsBack_94 : decode cM_foldsBack 94 = .ok (.iload_n 2, 1) := by decide +kernel
theorem dM_foldsBack_95 : decode cM_foldsBack 95 = .ok (.invokevirtual 115, 3) := by decide +kernel
theorem dM_foldsBack_98 : decode cM_foldsBack 98 = .ok (.aload_n 0, 1) := by decide +kernel
theorem dM_foldsBack_99 : decode cM_foldsBack 99 = .ok (.iload_n 1, 1) := by decide +kernel
theorem dM_foldsBack_100 : decode cM_foldsBack 100 = .ok (.iload 6, 2) := by decide +kernel
theorem dM_foldsBack_102 : decode cM_foldsBack 102 = .ok (.invokevirtual 111, 3) := by decide +kernel
theorem dM_foldsBack_105 : decode cM_foldsBack 105 = .ok (.aload_n 0, 1) := by decide +kernel
theorem dM_foldsBack_106 : decode cM_foldsBack 106 = .ok (.iload_n 1, 1) := by decide +kernel
theorem dM_foldsBack_107 : decode cM_foldsBack 107 = .ok (.iload 6, 2) := by decide +kernel
theorem dM_foldsBack_109 : decode cM_foldsBack 109 = .ok (.invokevirtual 115, 3) := by decide +kernel
theorem dM_foldsBack_112 : decode cM_foldsBack 112 = .ok (.invokestatic 107, 3) := by decide +kernel
theorem dM_foldsBack_115 : decode cM_foldsBack 115 = .ok (.istore 8, 2) := by decide +kernel
theorem dM_foldsBack_117 : decode cM_foldsBack 117 = .ok (.aload_n 0, 1) := by decide +kernel
theorem dM_foldsBack_118 : decode cM_foldsBack 118 = .ok (.iload_n 1, 1) := by decide +kernel
theorem dM_foldsBack_119 : decode cM_foldsBack 119 = .ok (.iload_n 2, 1) := by decide +kernel
theorem dM_foldsBack_120 : decode cM_foldsBack 120 = .ok (.invokevirtual 111, 3) := by decide +kernel
theorem dM_foldsBack_123 : decode cM_foldsBack 123 = .ok (.aload_n 0, 1) := by decide +kernel
theorem dM_foldsBack_124 : decode cM_foldsBack 124 = .ok (.iload_n 1, 1) := by decide +kernel
theorem dM_foldsBack_125 : decode cM_foldsBack 125 = .ok (.iload 5, 2) := by decide +kernel
theorem dM_foldsBack_127 : decode cM_foldsBack 127 = .ok (.invokevirtual 111, 3) := by decide +kernel
theorem dM_foldsBack_130 : decode cM_foldsBack 130 = .ok (.lcmp, 1) := by decide +kernel
theorem dM_foldsBack_131 : decode cM_foldsBack 131 = .ok (.ifCond .ne 20, 3) := by decide +kernel
theorem dM_foldsBack_134 : decode cM_foldsBack 134 = .ok (.aload_n 0, 1) := by decide +kernel
theorem dM_foldsBack_135 : decode cM_foldsBack 135 = .ok (.iload_n 1, 1) := by decide +kernel
theorem dM_foldsBack_136 : decode cM_foldsBack 136 = .ok (.iload_n 2, 1) := by decide +kernel
theorem dM_foldsBack_137 : decode cM_foldsBack 137 = .ok (.invokevirtual 115, 3) := by decide +kernel
theorem dM_foldsBack_140 : decode cM_foldsBack 140 = .ok (.aload_n 0, 1) := by decide +kernel
theorem dM_foldsBack_141 : decode cM_foldsBack 141 = .ok (.iload_n 1, 1) := by decide +kernel
theorem dM_foldsBack_142 : decode cM_foldsBack 142 = .ok (.iload 5, 2) := by decide +kernel
theorem dM_foldsBack_144 : decode cM_foldsBack 144 = .ok (.invokevirtual 115, 3) := by decide +kernel
theorem dM_foldsBack_147 : decode cM_foldsBack 147 = .ok (.lcmp, 1) := by decide +kernel
theorem dM_foldsBack_148 : decode cM_foldsBack 148 = .ok (.ifCond .eq 39, 3) := by decide +kernel
theorem dM_foldsBack_151 : decode cM_foldsBack 151 = .ok (.aload_n 0, 1) := by decide +kernel
theorem dM_foldsBack_152 : decode cM_foldsBack 152 = .ok (.iload_n 1, 1) := by decide +kernel
theorem dM_foldsBack_153 : decode cM_foldsBack 153 = .ok (.iload 5, 2) := by decide +kernel
theorem dM_foldsBack_155 : decode cM_foldsBack 155 = .ok (.invokevirtual 111, 3) := by decide +kernel
theorem dM_foldsBack_158 : decode cM_foldsBack 158 = .ok (.aload_n 0, 1) := by decide +kernel
theorem dM_foldsBack_159 : decode cM_foldsBack 159 = .ok (.iload_n 1, 1) := by decide +kernel
theorem dM_foldsBack_160 : decode cM_foldsBack 160 = .ok (.iload 6, 2) := by decide +kernel
theorem dM_foldsBack_162 : decode cM_foldsBack 162 = .ok (.invokevirtual 111, 3) := by decide +kernel
theorem dM_foldsBack_165 : decode cM_foldsBack 165 = .ok (.lcmp, 1) := by decide +kernel
theorem dM_foldsBack_166 : decode cM_foldsBack 166 = .ok (.ifCond .ne 25, 3) := by decide +kernel
theorem dM_foldsBack_169 : decode cM_foldsBack 169 = .ok (.aload_n 0, 1) := by decide +kernel
theorem dM_foldsBack_170 : decode cM_foldsBack 170 = .ok (.iload_n 1, 1) := by decide +kernel
theorem dM_foldsBack_171 : decode cM_foldsBack 171 = .ok (.iload 5, 2) := by decide +kernel
theorem dM_foldsBack_173 : decode cM_foldsBack 173 = .ok (.invokevirtual 115, 3) := by decide +kernel
theorem dM_foldsBack_176 : decode cM_foldsBack 176 = .ok (.aload_n 0, 1) := by decide +kernel
theorem dM_foldsBack_177 : decode cM_foldsBack 177 = .ok (.iload_n 1, 1) := by decide +kernel
theorem dM_foldsBack_178 : decode cM_foldsBack 178 = .ok (.iload 6, 2) := by decide +kernel
theorem dM_foldsBack_180 : decode cM_foldsBack 180 = .ok (.invokevirtual 115, 3) := by decide +kernel
theorem dM_foldsBack_183 : decode cM_foldsBack 183 = .ok (.lcmp, 1) := by decide +kernel
theorem dM_foldsBack_184 : decode cM_foldsBack 184 = .ok (.ifCond .ne 7, 3) := by decide +kernel
theorem dM_foldsBack_187 : decode cM_foldsBack 187 = .ok (.iconst 1, 1) := by decide +kernel
theorem dM_foldsBack_188 : decode cM_foldsBack 188 = .ok (.goto 4, 3) := by decide +kernel
theorem dM_foldsBack_191 : decode cM_foldsBack 191 = .ok (.iconst 0, 1) := by decide +kernel
theorem dM_foldsBack_192 : decode cM_foldsBack 192 = .ok (.istore 9, 2) := by decide +kernel
theorem dM_foldsBack_194 : decode cM_foldsBack 194 = .ok (.iload 7, 2) := by decide +kernel
theorem dM_foldsBack_196 : decode cM_foldsBack 196 = .ok (.ifCond .eq 17, 3) := by decide +kernel
theorem dM_foldsBack_199 : decode cM_foldsBack 199 = .ok (.iload 8, 2) := by decide +kernel
theorem dM_foldsBack_201 : decode cM_foldsBack 201 = .ok (.ifCond .ne 12, 3) := by decide +kernel
theorem dM_foldsBack_204 : decode cM_foldsBack 204 = .ok (.iload 9, 2) := by decide +kernel
theorem dM_foldsBack_206 : decode cM_foldsBack 206 = .ok (.ifCond .ne 7, 3) := by decide +kernel
theorem dM_foldsBack_209 : decode cM_foldsBack 209 = .ok (.iconst 1, 1) := by decide +kernel
theorem dM_foldsBack_210 : decode cM_foldsBack 210 = .ok (.goto 4, 3) := by decide +kernel
theorem dM_foldsBack_213 : decode cM_foldsBack 213 = .ok (.iconst 0, 1) := by decide +kernel
theorem dM_foldsBack_214 : decode cM_foldsBack 214 = .ok (.ireturn, 1) := by decide +kernel
def f_M_foldsBack_j214 (v : MV) (s0 : Int32) : Option Int32 := rb s0
def f_M_foldsBack_j213 (v : MV) : Option Int32 := (f_M_foldsBack_j214 v (0 : Int32))
def f_M_foldsBack_j192 (v : MV) (p7 : Int32) (p8 : Int32) (s0 : Int32) : Option Int32 := (if p7 = 0 then (f_M_foldsBack_j213 v) else (if p8 = 0 then (if s0 = 0 then (f_M_foldsBack_j214 v (1 : Int32)) else (f_M_foldsBack_j213 v)) else (f_M_foldsBack_j213 v)))
def f_M_foldsBack_j191 (v : MV) (p7 : Int32) (p8 : Int32) : Option Int32 := (f_M_foldsBack_j192 v p7 p8 (0 : Int32))
def f_M_foldsBack_j187 (v : MV) (p7 : Int32) (p8 : Int32) : Option Int32 := (f_M_foldsBack_j192 v p7 p8 (1 : Int32))
def f_M_foldsBack_j151 (v : MV) (p1 : Int32) (p5 : Int32) (p6 : Int32) (p7 : Int32) (p8 : Int32) : Option Int32 := (f_M_x v p1 p5).bind fun u24 => (f_M_x v p1 p6).bind fun u25 => (if (lg_cmp u24 u25) = 0 then (f_M_y v p1 p5).bind fun u27 => (f_M_y v p1 p6).bind fun u28 => (if (lg_cmp u27 u28) = 0 then (f_M_foldsBack_j187 v p7 p8) else (f_M_foldsBack_j191 v p7 p8)) else (f_M_foldsBack_j191 v p7 p8))
def f_M_foldsBack_j70 (v : MV) (p1 : Int32) (p2 : Int32) (p5 : Int32) (p6 : Int32) (s0 : Int32) : Option Int32 := (f_M_x v p1 p5).bind fun u11 => (f_M_y v p1 p5).bind fun u12 => (f_M_x v p1 p2).bind fun u13 => (f_M_y v p1 p2).bind fun u14 => (f_M_x v p1 p6).bind fun u15 => (f_M_y v p1 p6).bind fun u16 => (f_M_isOn u11 u12 u13 u14 u15 u16).bind fun u17 => (f_M_x v p1 p2).bind fun u18 => (f_M_x v p1 p5).bind fun u19 => (if (lg_cmp u18 u19) = 0 then (f_M_y v p1 p2).bind fun u21 => (f_M_y v p1 p5).bind fun u22 => (if (lg_cmp u21 u22) = 0 then (f_M_foldsBack_j187 v s0 u17) else (f_M_foldsBack_j151 v p1 p5 p6 s0 u17)) else (f_M_foldsBack_j151 v p1 p5 p6 s0 u17))
def f_M_foldsBack (v : MV) (x1 : Int32) (x2 : Int32) (x3 : Int32) (x4 : Int32) : Option Int32 := (f_M_behind x2 x3 x4).bind fun u1 => (f_M_behind u1 x3 x4).bind fun u2 => (f_M_x v x1 x2).bind fun u3 => (f_M_y v x1 x2).bind fun u4 => (f_M_x v x1 u1).bind fun u5 => (f_M_y v x1 u1).bind fun u6 => (f_M_x v x1 u2).bind fun u7 => (f_M_y v x1 u2).bind fun u8 => (f_M_turnOf u3 u4 u5 u6 u7 u8).bind fun u9 => (if u9 = 0 then (f_M_foldsBack_j70 v x1 x2 u1 u2 (1 : Int32)) else (f_M_foldsBack_j70 v x1 x2 u1 u2 (0 : Int32)))
set_option maxHeartbeats 4000000 in
set_option maxRecDepth 100000 in
theorem k_M_foldsBack (l : Launch) (dC : Nat → ClassId) (dI : Nat → Nat → Nat) (cL cI : ClassId) (qm : Nat → Nat) (v : MV) (x1 : Int32) (x2 : Int32) (x3 : Int32) (x4 : Int32) (r : Int32) (h : f_M_foldsBack v x1 x2 x3 x4 = some r) : Met l yM_foldsBack wsM_foldsBack ({ frames := 3, cells := 0, slots := 0, locals := 89 }) (rd_Pc [.ref (qm 0), .int x1, .int x2, .int x3, .int x4] (fun H => va_P (dC, dI) cls3 (mdW cL cI qm v) H) (dC, dI) cls3 [(cL, .long), (cI, .int)]) (vp_Si (fun z => z = r)) 0 0 (fun _ => False) := by
  refine Met.ofW (cc := cM_foldsBack) (maxL := 10) (ret := (some .boolean)) (by decide) rfl ?_
  intro p e s m args below meth c s₁ B hml hv
  obtain ⟨rfl, hPm, hK⟩ := hv
  have hx := B.exec
  have hb := B.bytes
  have hr := B.returns
  have hw : ∀ w ∈ wG, w.before ([.ref (qm 0), .int x1, .int x2, .int x3, .int x4] : List Value).toArray s = true := fun w hq => atoms_spec (ws := wsM_foldsBack) B.pre w (List.mem_cons_of_mem _ hq)
  have hown : s.vm.findClass R_M = some m.cls := findClass_of_methodNamed B.named
  have hlocks := B.notSynchronized
  have hl := lv_entry ([.ref (qm 0), .int x1, .int x2, .int x3, .int x4] : List Value) (n := 10) (Nat.le_of_ble_eq_true rfl)
  rw [lg_entry_eq]
  generalize (lg_sl ([.ref (qm 0), .int x1, .int x2, .int x3, .int x4] : List Value) ++ List.replicate (10 - (lg_sl ([.ref (qm 0), .int x1, .int x2, .int x3, .int x4] : List Value)).length) Slot.unset).toArray = ls at hl ⊢
  have hl : lv_has ls 10 [(0, .ref (qm 0)), (1, .int x1), (2, .int x2), (3, .int x3), (4, .int x4)] := hl
  have k214 : ∀ (s0 : Int32), f_M_foldsBack_j214 v s0 = some r →  ∀ (ls : Array Slot), lv_has ls 10 [] → W p l e (headSpec wsM_foldsBack ({ frames := 3, cells := 0, slots := 0, locals := 89 })).room s m ([.ref (qm 0), .int x1, .int x2, .int x3, .int x4] : List Value).toArray below meth c s.heap [] 0 0 (MQ below (vp_Si (fun z => z = r)) ([.ref (qm 0), .int x1, .int x2, .int x3, .int x4] : List Value).toArray s 0 0 (fun _ => False)) (F0 m 214 ls [.int s0]) := by
    intro s0 h  ls hl
    unfold f_M_foldsBack_j214 at h
    obtain ⟨hz, hr9⟩ := rb_of h
    exact W.zret hx hb hr hz (fun t ht hW => ⟨_, rfl, hr9, ht⟩) nil_locs dM_foldsBack_214
  have k213 : f_M_foldsBack_j213 v = some r →  ∀ (ls : Array Slot), lv_has ls 10 [] → W p l e (headSpec wsM_foldsBack ({ frames := 3, cells := 0, slots := 0, locals := 89 })).room s m ([.ref (qm 0), .int x1, .int x2, .int x3, .int x4] : List Value).toArray below meth c s.heap [] 0 0 (MQ below (vp_Si (fun z => z = r)) ([.ref (qm 0), .int x1, .int x2, .int x3, .int x4] : List Value).toArray s 0 0 (fun _ => False)) (F0 m 213 ls []) := by
    intro  h  ls hl
    unfold f_M_foldsBack_j213 at h
    refine lv_iconst (v := 0) hx hb dM_foldsBack_213 (by decide) ?_
    exact k214 (0 : Int32) h ls (lv_sub hl [] rfl)
  have k192 : ∀ (p7 : Int32) (p8 : Int32) (s0 : Int32), f_M_foldsBack_j192 v p7 p8 s0 = some r →  ∀ (ls : Array Slot), lv_has ls 10 [(7, .int p7), (8, .int p8)] → W p l e (headSpec wsM_foldsBack ({ frames := 3, cells := 0, slots := 0, locals := 89 })).room s m ([.ref (qm 0), .int x1, .int x2, .int x3, .int x4] : List Value).toArray below meth c s.heap [] 0 0 (MQ below (vp_Si (fun z => z = r)) ([.ref (qm 0), .int x1, .int x2, .int x3, .int x4] : List Value).toArray s 0 0 (fun _ => False)) (F0 m 192 ls [.int s0]) := by
    intro p7 p8 s0 h  ls hl
    unfold f_M_foldsBack_j192 at h
    refine lv_istore (lv' := [(9, .int s0), (7, .int p7), (8, .int p8)]) hx hb dM_foldsBack_192 hl (by decide) rfl (fun ls hl => ?_)
    refine lv_iload hx hb dM_foldsBack_194 (lv_at hl 1 rfl) ?_
    refine lv_if_eq (tgt := 213) hx hb dM_foldsBack_196 (by decide) (fun c30 => ?_) (fun c30 => ?_)
    · have h := it_t c30 h
      exact k213 h ls (lv_sub hl [] rfl)
    · have h := it_f c30 h
      refine lv_iload hx hb dM_foldsBack_199 (lv_at hl 2 rfl) ?_
      refine lv_if_ne (tgt := 213) hx hb dM_foldsBack_201 (by decide) (fun c31 => ?_) (fun c31 => ?_)
      · have h := it_f c31 h
        exact k213 h ls (lv_sub hl [] rfl)
      · have h := it_t c31 h
        refine lv_iload hx hb dM_foldsBack_204 (lv_at hl 0 rfl) ?_
        refine lv_if_ne (tgt := 213) hx hb dM_foldsBack_206 (by decide) (fun c32 => ?_) (fun c32 => ?_)
        · have h := it_f c32 h
          exact k213 h ls (lv_sub hl [] rfl)
        · have h := it_t c32 h
          refine lv_iconst (v := 1) hx hb dM_foldsBack_209 (by decide) ?_
          refine lv_goto (tgt := 214) hx hb dM_foldsBack_210 (by decide) ?_
          exact k214 (1 : Int32) h ls (lv_sub hl [] rfl)
  have k191 : ∀ (p7 : Int32) (p8 : Int32), f_M_foldsBack_j191 v p7 p8 = some r →  ∀ (ls : Array Slot), lv_has ls 10 [(7, .int p7), (8, .int p8)] → W p l e (headSpec wsM_foldsBack ({ frames := 3, cells := 0, slots := 0, locals := 89 })).room s m ([.ref (qm 0), .int x1, .int x2, .int x3, .int x4] : List Value).toArray below meth c s.heap [] 0 0 (MQ below (vp_Si (fun z => z = r)) ([.ref (qm 0), .int x1, .int x2, .int x3, .int x4] : List Value).toArray s 0 0 (fun _ => False)) (F0 m 191 ls []) := by
    intro p7 p8 h  ls hl
    unfold f_M_foldsBack_j191 at h
    refine lv_iconst (v := 0) hx hb dM_foldsBack_191 (by decide) ?_
    exact k192 p7 p8 (0 : Int32) h ls (lv_sub hl [0, 1] rfl)
  have k187 : ∀ (p7 : Int32) (p8 : Int32), f_M_foldsBack_j187 v p7 p8 = some r →  ∀ (ls : Array Slot), lv_has ls 10 [(7, .int p7), (8, .int p8)] → W p l e (headSpec wsM_foldsBack ({ frames := 3, cells := 0, slots := 0, locals := 89 })).room s m ([.ref (qm 0), .int x1, .int x2, .int x3, .int x4] : List Value).toArray below meth c s.heap [] 0 0 (MQ below (vp_Si (fun z => z = r)) ([.ref (qm 0), .int x1, .int x2, .int x3, .int x4] : List Value).toArray s 0 0 (fun _ => False)) (F0 m 187 ls []) := by
    intro p7 p8 h  ls hl
    unfold f_M_foldsBack_j187 at h
    refine lv_iconst (v := 1) hx hb dM_foldsBack_187 (by decide) ?_
    refine lv_goto (tgt := 192) hx hb dM_foldsBack_188 (by decide) ?_
    exact k192 p7 p8 (1 : Int32) h ls (lv_sub hl [0, 1] rfl)
  have k151 : ∀ (p1 : Int32) (p5 : Int32) (p6 : Int32) (p7 : Int32) (p8 : Int32), f_M_foldsBack_j151 v p1 p5 p6 p7 p8 = some r →  ∀ (ls : Array Slot), lv_has ls 10 [(0, .ref (qm 0)), (1, .int p1), (5, .int p5), (6, .int p6), (7, .int p7), (8, .int p8)] → W p l e (headSpec wsM_foldsBack ({ frames := 3, cells := 0, slots := 0, locals := 89 })).room s m ([.ref (qm 0), .int x1, .int x2, .int x3, .int x4] : List Value).toArray below meth c s.heap [] 0 0 (MQ below (vp_Si (fun z => z = r)) ([.ref (qm 0), .int x1, .int x2, .int x3, .int x4] : List Value).toArray s 0 0 (fun _ => False)) (F0 m 151 ls []) := by
    intro p1 p5 p6 p7 p8 h  ls hl
    unfold f_M_foldsBack_j151 at h
    refine lv_aload_n hx hb dM_foldsBack_151 rfl (lv_at hl 0 rfl) ?_
    refine lv_iload_n hx hb dM_foldsBack_152 rfl (lv_at hl 1 rfl) ?_
    refine lv_iload hx hb dM_foldsBack_153 (lv_at hl 2 rfl) ?_
    obtain ⟨u24, hu24, h⟩ := ob_some h
    refine vp_callSl (va_Run.run (va_runV (As := [.int p1, .int p5]) (rest := []) ⟨hx, hb, hml, hown, hw⟩ (k_M_x l dC dI cL cI qm v p1 p5 u24 hu24) (cwV 2 hw (gV w_550 w_552 wp_11 w_2 w_553) rfl rfl rfl (by decide +kernel) ⟨Nat.le_of_ble_eq_true rfl, Nat.le_of_ble_eq_true rfl⟩) ⟨rd_blind, va_recv hK hPm (ci := 2) (q0 := 0) rfl rfl, rd_pre hPm hK⟩ rfl rfl hl.1 rfl (lv_room (Nat.le_of_ble_eq_true rfl)) dM_foldsBack_155 ⟨Nat.le_of_ble_eq_true rfl, Nat.le_of_ble_eq_true rfl⟩)) (fun z hz => ?_)
    rw [hz]; clear hz
    refine lv_aload_n hx hb dM_foldsBack_158 rfl (lv_at hl 0 rfl) ?_
    refine lv_iload_n hx hb dM_foldsBack_159 rfl (lv_at hl 1 rfl) ?_
    refine lv_iload hx hb dM_foldsBack_160 (lv_at hl 3 rfl) ?_
    obtain ⟨u25, hu25, h⟩ := ob_some h
    refine vp_callSl (va_Run.run (va_runV (As := [.int p1, .int p6]) (rest := [.long u24]) ⟨hx, hb, hml, hown, hw⟩ (k_M_x l dC dI cL cI qm v p1 p6 u25 hu25) (cwV 2 hw (gV w_550 w_552 wp_11 w_2 w_553) rfl rfl rfl (by decide +kernel) ⟨Nat.le_of_ble_eq_true rfl, Nat.le_of_ble_eq_true rfl⟩) ⟨rd_blind, va_recv hK hPm (ci := 2) (q0 := 0) rfl rfl, rd_pre hPm hK⟩ rfl rfl hl.1 rfl (lv_room (Nat.le_of_ble_eq_true rfl)) dM_foldsBack_162 ⟨Nat.le_of_ble_eq_true rfl, Nat.le_of_ble_eq_true rfl⟩)) (fun z hz => ?_)
    rw [hz]; clear hz
    refine W.lcmp hx hb dM_foldsBack_165 ?_
    refine lv_if_ne (tgt := 191) hx hb dM_foldsBack_166 (by decide) (fun c26 => ?_) (fun c26 => ?_)
    · have h := it_f c26 h
      exact k191 p7 p8 h ls (lv_sub hl [4, 5] rfl)
    · have h := it_t c26 h
      refine lv_aload_n hx hb dM_foldsBack_169 rfl (lv_at hl 0 rfl) ?_
      refine lv_iload_n hx hb dM_foldsBack_170 rfl (lv_at hl 1 rfl) ?_
      refine lv_iload hx hb dM_foldsBack_171 (lv_at hl 2 rfl) ?_
      obtain ⟨u27, hu27, h⟩ := ob_some h
      refine vp_callSl (va_Run.run (va_runV (As := [.int p1, .int p5]) (rest := []) ⟨hx, hb, hml, hown, hw⟩ (k_M_y l dC dI cL cI qm v p1 p5 u27 hu27) (cwV 2 hw (gV w_554 w_556 wp_12 w_2 w_557) rfl rfl rfl (by decide +kernel) ⟨Nat.le_of_ble_eq_true rfl, Nat.le_of_ble_eq_true rfl⟩) ⟨rd_blind, va_recv hK hPm (ci := 2) (q0 := 0) rfl rfl, rd_pre hPm hK⟩ rfl rfl hl.1 rfl (lv_room (Nat.le_of_ble_eq_true rfl)) dM_foldsBack_173 ⟨Nat.le_of_ble_eq_true rfl, Nat.le_of_ble_eq_true rfl⟩)) (fun z hz => ?_)
      rw [hz]; clear hz
      refine lv_aload_n hx hb dM_foldsBack_176 rfl (lv_at hl 0 rfl) ?_
      refine lv_iload_n hx hb dM_foldsBack_177 rfl (lv_at hl 1 rfl) ?_
      refine lv_iload hx hb dM_foldsBack_178 (lv_at hl 3 rfl) ?_
      obtain ⟨u28, hu28, h⟩ := ob_some h
      refine vp_callSl (va_Run.run (va_runV (As := [.int p1, .int p6]) (rest := [.long u27]) ⟨hx, hb, hml, hown, hw⟩ (k_M_y l dC dI cL cI qm v p1 p6 u28 hu28) (cwV 2 hw (gV w_554 w_556 wp_12 w_2 w_557) rfl rfl rfl (by decide +kernel) ⟨Nat.le_of_ble_eq_true rfl, Nat.le_of_ble_eq_true rfl⟩) ⟨rd_blind, va_recv hK hPm (ci := 2) (q0 := 0) rfl rfl, rd_pre hPm hK⟩ rfl rfl hl.1 rfl (lv_room (Nat.le_of_ble_eq_true rfl)) dM_foldsBack_180 ⟨Nat.le_of_ble_eq_true rfl, Nat.le_of_ble_eq_true rfl⟩)) (fun z hz => ?_)
      rw [hz]; clear hz
      refine W.lcmp hx hb dM_foldsBack_183 ?_
      refine lv_if_ne (tgt := 191) hx hb dM_foldsBack_184 (by decide) (fun c29 => ?_) (fun c29 => ?_)
      · have h := it_f c29 h
        exact k191 p7 p8 h ls (lv_sub hl [4, 5] rfl)
      · have h := it_t c29 h
        exact k187 p7 p8 h ls (lv_sub hl [4, 5] rfl)
  have k70 : ∀ (p1 : Int32) (p2 : Int32) (p5 : Int32) (p6 : Int32) (s0 : Int32), f_M_foldsBack_j70 v p1 p2 p5 p6 s0 = some r →  ∀ (ls : Array Slot), lv_has ls 10 [(0, .ref (qm 0)), (1, .int p1), (2, .int p2), (5, .int p5), (6, .int p6)] → W p l e (headSpec wsM_foldsBack ({ frames := 3, cells := 0, slots := 0, locals := 89 })).room s m ([.ref (qm 0), .int x1, .int x2, .int x3, .int x4] : List Value).toArray below meth c s.heap [] 0 0 (MQ below (vp_Si (fun z => z = r)) ([.ref (qm 0), .int x1, .int x2, .int x3, .int x4] : List Value).toArray s 0 0 (fun _ => False)) (F0 m 70 ls [.int s0]) := by
    intro p1 p2 p5 p6 s0 h  ls hl
    unfold f_M_foldsBack_j70 at h
    refine lv_istore (lv' := [(7, .int s0), (0, .ref (qm 0)), (1, .int p1), (2, .int p2), (5, .int p5), (6, .int p6)]) hx hb dM_foldsBack_70 hl (by decide) rfl (fun ls hl => ?_)
    refine lv_aload_n hx hb dM_foldsBack_72 rfl (lv_at hl 1 rfl) ?_
    refine lv_iload_n hx hb dM_foldsBack_73 rfl (lv_at hl 2 rfl) ?_
    refine lv_iload hx hb dM_foldsBack_74 (lv_at hl 4 rfl) ?_
    obtain ⟨u11, hu11, h⟩ := ob_some h
    refine vp_callSl (va_Run.run (va_runV (As := [.int p1, .int p5]) (rest := []) ⟨hx, hb, hml, hown, hw⟩ (k_M_x l dC dI cL cI qm v p1 p5 u11 hu11) (cwV 2 hw (gV w_550 w_552 wp_11 w_2 w_553) rfl rfl rfl (by decide +kernel) ⟨Nat.le_of_ble_eq_true rfl, Nat.le_of_ble_eq_true rfl⟩) ⟨rd_blind, va_recv hK hPm (ci := 2) (q0 := 0) rfl rfl, rd_pre hPm hK⟩ rfl rfl hl.1 rfl (lv_room (Nat.le_of_ble_eq_true rfl)) dM_foldsBack_76 ⟨Nat.le_of_ble_eq_true rfl, Nat.le_of_ble_eq_true rfl⟩)) (fun z hz => ?_)
    rw [hz]; clear hz
    refine lv_aload_n hx hb dM_foldsBack_79 rfl (lv_at hl 1 rfl) ?_
    refine lv_iload_n hx hb dM_foldsBack_80 rfl (lv_at hl 2 rfl) ?_
    refine lv_iload hx hb dM_foldsBack_81 (lv_at hl 4 rfl) ?_
    obtain ⟨u12, hu12, h⟩ := ob_some h
    refine vp_callSl (va_Run.run (va_runV (As := [.int p1, .int p5]) (rest := [.long u11]) ⟨hx, hb, hml, hown, hw⟩ (k_M_y l dC dI cL cI qm v p1 p5 u12 hu12) (cwV 2 hw (gV w_554 w_556 wp_12 w_2 w_557) rfl rfl rfl (by decide +kernel) ⟨Nat.le_of_ble_eq_true rfl, Nat.le_of_ble_eq_true rfl⟩) ⟨rd_blind, va_recv hK hPm (ci := 2) (q0 := 0) rfl rfl, rd_pre hPm hK⟩ rfl rfl hl.1 rfl (lv_room (Nat.le_of_ble_eq_true rfl)) dM_foldsBack_83 ⟨Nat.le_of_ble_eq_true rfl, Nat.le_of_ble_eq_true rfl⟩)) (fun z hz => ?_)
    rw [hz]; clear hz
    refine lv_aload_n hx hb dM_foldsBack_86 rfl (lv_at hl 1 rfl) ?_
    refine lv_iload_n hx hb dM_foldsBack_87 rfl (lv_at hl 2 rfl) ?_
    refine lv_iload_n hx hb dM_foldsBack_88 rfl (lv_at hl 3 rfl) ?_
    obtain ⟨u13, hu13, h⟩ := ob_some h
    refine vp_callSl (va_Run.run (va_runV (As := [.int p1, .int p2]) (rest := [.long u12, .long u11]) ⟨hx, hb, hml, hown, hw⟩ (k_M_x l dC dI cL cI qm v p1 p2 u13 hu13) (cwV 2 hw (gV w_550 w_552 wp_11 w_2 w_553) rfl rfl rfl (by decide +kernel) ⟨Nat.le_of_ble_eq_true rfl, Nat.le_of_ble_eq_true rfl⟩) ⟨rd_blind, va_recv hK hPm (ci := 2) (q0 := 0) rfl rfl, rd_pre hPm hK⟩ rfl rfl hl.1 rfl (lv_room (Nat.le_of_ble_eq_true rfl)) dM_foldsBack_89 ⟨Nat.le_of_ble_eq_true rfl, Nat.le_of_ble_eq_true rfl⟩)) (fun z hz => ?_)
    rw [hz]; clear hz
    refine lv_aload_n hx hb dM_foldsBack_92 rfl (lv_at hl 1 rfl) ?_
    refine lv_iload_n hx hb dM_foldsBack_93 rfl (lv_at hl 2 rfl) ?_
    refine lv_iload_n hx hb dM_foldsBack_94 rfl (lv_at hl 3 rfl) ?_
    obtain ⟨u14, hu14, h⟩ := ob_some h
    refine vp_callSl (va_Run.run (va_runV (As := [.int p1, .int p2]) (rest := [.long u13, .long u12, .long u11]) ⟨hx, hb, hml, hown, hw⟩ (k_M_y l dC dI cL cI qm v p1 p2 u14 hu14) (cwV 2 hw (gV w_554 w_556 wp_12 w_2 w_557) rfl rfl rfl (by decide +kernel) ⟨Nat.le_of_ble_eq_true rfl, Nat.le_of_ble_eq_true rfl⟩) ⟨rd_blind, va_recv hK hPm (ci := 2) (q0 := 0) rfl rfl, rd_pre hPm hK⟩ rfl rfl hl.1 rfl (lv_room (Nat.le_of_ble_eq_true rfl)) dM_foldsBack_95 ⟨Nat.le_of_ble_eq_true rfl, Nat.le_of_ble_eq_true rfl⟩)) (fun z hz => ?_)
    rw [hz]; clear hz
    refine lv_aload_n hx hb dM_foldsBack_98 rfl (lv_at hl 1 rfl) ?_
    refine lv_iload_n hx hb dM_foldsBack_99 rfl (lv_at hl 2 rfl) ?_
    refine lv_iload hx hb dM_foldsBack_100 (lv_at hl 5 rfl) ?_
    obtain ⟨u15, hu15, h⟩ := ob_some h
    refine vp_callSl (va_Run.run (va_runV (As := [.int p1, .int p6]) (rest := [.long u14, .long u13, .long u12, .long u11]) ⟨hx, hb, hml, hown, hw⟩ (k_M_x l dC dI cL cI qm v p1 p6 u15 hu15) (cwV 2 hw (gV w_550 w_552 wp_11 w_2 w_553) rfl rfl rfl (by decide +kernel) ⟨Nat.le_of_ble_eq_true rfl, Nat.le_of_ble_eq_true rfl⟩) ⟨rd_blind, va_recv hK hPm (ci := 2) (q0 := 0) rfl rfl, rd_pre hPm hK⟩ rfl rfl hl.1 rfl (lv_room (Nat.le_of_ble_eq_true rfl)) dM_foldsBack_102 ⟨Nat.le_of_ble_eq_true rfl, Nat.le_of_ble_eq_true rfl⟩)) (fun z hz => ?_)
    rw [hz]; clear hz
    refine lv_aload_n hx hb dM_foldsBack_105 rfl (lv_at hl 1 rfl) ?_
    refine lv_iload_n hx hb dM_foldsBack_106 rfl (lv_at hl 2 rfl) ?_
    refine lv_iload hx hb dM_foldsBack_107 (lv_at hl 5 rfl) ?_
    obtain ⟨u16, hu16, h⟩ := ob_some h
    refine vp_callSl (va_Run.run (wd_runV 10 (As := [.int p1, .int p6]) (rest := [.long u15, .long u14, .long u13, .long u12, .long u11]) ⟨hx, hb, hml, hown, hw⟩ (k_M_y l dC dI cL cI qm v p1 p6 u16 hu16) (cwV 2 hw (gV w_554 w_556 wp_12 w_2 w_557) rfl rfl rfl (by decide +kernel) ⟨Nat.le_of_ble_eq_true rfl, Nat.le_of_ble_eq_true rfl⟩) (Nat.le_of_ble_eq_true rfl) ⟨rd_blind, va_recv hK hPm (ci := 2) (q0 := 0) rfl rfl, rd_pre hPm hK⟩ rfl rfl hl.1 rfl (wd_room (Nat.le_of_ble_eq_true rfl)) dM_foldsBack_109 ⟨Nat.le_of_ble_eq_true rfl, Nat.le_of_ble_eq_true rfl⟩)) (fun z hz => ?_)
    rw [hz]; clear hz
    obtain ⟨u17, hu17, h⟩ := ob_some h
    refine vp_callSi (va_Run.run (va_runS (As := [.long u11, .long u12, .long u13, .long u14, .long u15, .long u16]) (rest := []) ⟨hx, hb, hml, hown, hw⟩ (k_M_isOn l dC dI cL cI u11 u12 u13 u14 u15 u16 u17 hu17) (va_cwS 6 hw (gS w_578 w_579 w_2 w_580) rfl rfl rfl (by decide +kernel) ⟨Nat.le_of_ble_eq_true rfl, Nat.le_of_ble_eq_true rfl⟩) ⟨rd_blind, rd_pre trivial hK⟩ rfl rfl hl.1 rfl (lv_room (Nat.le_of_ble_eq_true rfl)) dM_foldsBack_112 ⟨Nat.le_of_ble_eq_true rfl, Nat.le_of_ble_eq_true rfl⟩)) (fun z hz => ?_)
    rw [hz]; clear hz
    refine lv_istore (lv' := [(8, .int u17), (7, .int s0), (0, .ref (qm 0)), (1, .int p1), (2, .int p2), (5, .int p5), (6, .int p6)]) hx hb dM_foldsBack_115 hl (by decide) rfl (fun ls hl => ?_)
    refine lv_aload_n hx hb dM_foldsBack_117 rfl (lv_at hl 2 rfl) ?_
    refine lv_iload_n hx hb dM_foldsBack_118 rfl (lv_at hl 3 rfl) ?_
    refine lv_iload_n hx hb dM_foldsBack_119 rfl (lv_at hl 4 rfl) ?_
    obtain ⟨u18, hu18, h⟩ := ob_some h
    refine vp_callSl (va_Run.run (va_runV (As := [.int p1, .int p2]) (rest := []) ⟨hx, hb, hml, hown, hw⟩ (k_M_x l dC dI cL cI qm v p1 p2 u18 hu18) (cwV 2 hw (gV w_550 w_552 wp_11 w_2 w_553) rfl rfl rfl (by decide +kernel) ⟨Nat.le_of_ble_eq_true rfl, Nat.le_of_ble_eq_true rfl⟩) ⟨rd_blind, va_recv hK hPm (ci := 2) (q0 := 0) rfl rfl, rd_pre hPm hK⟩ rfl rfl hl.1 rfl (lv_room (Nat.le_of_ble_eq_true rfl)) dM_foldsBack_120 ⟨Nat.le_of_ble_eq_true rfl, Nat.le_of_ble_eq_true rfl⟩)) (fun z hz => ?_)
    rw [hz]; clear hz
    refine lv_aload_n hx hb dM_foldsBack_123 rfl (lv_at hl 2 rfl) ?_
    refine lv_iload_n hx hb dM_foldsBack_124 rfl (lv_at hl 3 rfl) ?_
    refine lv_iload hx hb dM_foldsBack_125 (lv_at hl 5 rfl) ?_
    obtain ⟨u19, hu19, h⟩ := ob_some h
    refine vp_callSl (va_Run.run (va_runV (As := [.int p1, .int p5]) (rest := [.long u18]) ⟨hx, hb, hml, hown, hw⟩ (k_M_x l dC dI cL cI qm v p1 p5 u19 hu19) (cwV 2 hw (gV w_550 w_552 wp_11 w_2 w_553) rfl rfl rfl (by decide +kernel) ⟨Nat.le_of_ble_eq_true rfl, Nat.le_of_ble_eq_true rfl⟩) ⟨rd_blind, va_recv hK hPm (ci := 2) (q0 := 0) rfl rfl, rd_pre hPm hK⟩ rfl rfl hl.1 rfl (lv_room (Nat.le_of_ble_eq_true rfl)) dM_foldsBack_127 ⟨Nat.le_of_ble_eq_true rfl, Nat.le_of_ble_eq_true rfl⟩)) (fun z hz => ?_)
    rw [hz]; clear hz
    refine W.lcmp hx hb dM_foldsBack_130 ?_
    refine lv_if_ne (tgt := 151) hx hb dM_foldsBack_131 (by decide) (fun c20 => ?_) (fun c20 => ?_)
    · have h := it_f c20 h
      exact k151 p1 p5 p6 s0 u17 h ls (lv_sub hl [2, 3, 5, 6, 1, 0] rfl)
    · have h := it_t c20 h
      refine lv_aload_n hx hb dM_foldsBack_134 rfl (lv_at hl 2 rfl) ?_
      refine lv_iload_n hx hb dM_foldsBack_135 rfl (lv_at hl 3 rfl) ?_
      refine lv_iload_n hx hb dM_foldsBack_136 rfl (lv_at hl 4 rfl) ?_
      obtain ⟨u21, hu21, h⟩ := ob_some h
      refine vp_callSl (va_Run.run (va_runV (As := [.int p1, .int p2]) (rest := []) ⟨hx, hb, hml, hown, hw⟩ (k_M_y l dC dI cL cI qm v p1 p2 u21 hu21) (cwV 2 hw (gV w_554 w_556 wp_12 w_2 w_557) rfl rfl rfl (by decide +kernel) ⟨Nat.le_of_ble_eq_true rfl, Nat.le_of_ble_eq_true rfl⟩) ⟨rd_blind, va_recv hK hPm (ci := 2) (q0 := 0) rfl rfl, rd_pre hPm hK⟩ rfl rfl hl.1 rfl (lv_room (Nat.le_of_ble_eq_true rfl)) dM_foldsBack_137 ⟨Nat.le_of_ble_eq_true rfl, Nat.le_of_ble_eq_true rfl⟩)) (fun z hz => ?_)
      rw [hz]; clear hz
      refine lv_aload_n hx hb dM_foldsBack_140 rfl (lv_at hl 2 rfl) ?_
      refine lv_iload_n hx hb dM_foldsBack_141 rfl (lv_at hl 3 rfl) ?_
      refine lv_iload hx hb dM_foldsBack_142 (lv_at hl 5 rfl) ?_
      obtain ⟨u22, hu22, h⟩ := ob_some h
      refine vp_callSl (va_Run.run (va_runV (As := [.int p1, .int p5]) (rest := [.long u21]) ⟨hx, hb, hml, hown, hw⟩ (k_M_y l dC dI cL cI qm v p1 p5 u22 hu22) (cwV 2 hw (gV w_554 w_556 wp_12 w_2 w_557) rfl rfl rfl (by decide +kernel) ⟨Nat.le_of_ble_eq_true rfl, Nat.le_of_ble_eq_true rfl⟩) ⟨rd_blind, va_recv hK hPm (ci := 2) (q0 := 0) rfl rfl, rd_pre hPm hK⟩ rfl rfl hl.1 rfl (lv_room (Nat.le_of_ble_eq_true rfl)) dM_foldsBack_144 ⟨Nat.le_of_ble_eq_true rfl, Nat.le_of_ble_eq_true rfl⟩)) (fun z hz => ?_)
      rw [hz]; clear hz
      refine W.lcmp hx hb dM_foldsBack_147 ?_
      refine lv_if_eq (tgt := 187) hx hb dM_foldsBack_148 (by decide) (fun c23 => ?_) (fun c23 => ?_)
      · have h := it_t c23 h
        exact k187 s0 u17 h ls (lv_sub hl [1, 0] rfl)
      · have h := it_f c23 h
        exact k151 p1 p5 p6 s0 u17 h ls (lv_sub hl [2, 3, 5, 6, 1, 0] rfl)
  unfold f_M_foldsBack at h
  refine lv_iload_n hx hb dM_foldsBack_0 rfl (lv_at hl 2 rfl) ?_
  refine lv_iload_n hx hb dM_foldsBack_1 rfl (lv_at hl 3 rfl) ?_
  refine lv_iload hx hb dM_foldsBack_2 (lv_at hl 4 rfl) ?_
  obtain ⟨u1, hu1, h⟩ := ob_some h
  refine vp_callSi (va_Run.run (va_runS (As := [.int x2, .int x3, .int x4]) (rest := []) ⟨hx, hb, hml, hown, hw⟩ (k_M_behind l dC dI cL cI x2 x3 x4 u1 hu1) (va_cwS 3 hw (gS w_575 w_576 w_2 w_577) rfl rfl rfl (by decide +kernel) ⟨Nat.le_of_ble_eq_true rfl, Nat.le_of_ble_eq_true rfl⟩) ⟨rd_blind, rd_pre trivial hK⟩ rfl rfl hl.1 rfl (lv_room (Nat.le_of_ble_eq_true rfl)) dM_foldsBack_4 ⟨Nat.le_of_ble_eq_true rfl, Nat.le_of_ble_eq_true rfl⟩)) (fun z hz => ?_)
  rw [hz]; clear hz
  refine lv_istore (lv' := [(5, .int u1), (0, .ref (qm 0)), (1, .int x1), (2, .int x2), (3, .int x3), (4, .int x4)]) hx hb dM_foldsBack_7 hl (by decide) rfl (fun ls hl => ?_)
  refine lv_iload hx hb dM_foldsBack_9 (lv_at hl 0 rfl) ?_
  refine lv_iload_n hx hb dM_foldsBack_11 rfl (lv_at hl 4 rfl) ?_
  refine lv_iload hx hb dM_foldsBack_12 (lv_at hl 5 rfl) ?_
  obtain ⟨u2, hu2, h⟩ := ob_some h
  refine vp_callSi (va_Run.run (va_runS (As := [.int u1, .int x3, .int x4]) (rest := []) ⟨hx, hb, hml, hown, hw⟩ (k_M_behind l dC dI cL cI u1 x3 x4 u2 hu2) (va_cwS 3 hw (gS w_575 w_576 w_2 w_577) rfl rfl rfl (by decide +kernel) ⟨Nat.le_of_ble_eq_true rfl, Nat.le_of_ble_eq_true rfl⟩) ⟨rd_blind, rd_pre trivial hK⟩ rfl rfl hl.1 rfl (lv_room (Nat.le_of_ble_eq_true rfl)) dM_foldsBack_14 ⟨Nat.le_of_ble_eq_true rfl, Nat.le_of_ble_eq_true rfl⟩)) (fun z hz => ?_)
  rw [hz]; clear hz
  refine lv_istore (lv' := [(6, .int u2), (5, .int u1), (0, .ref (qm 0)), (1, .int x1), (2, .int x2), (3, .int x3), (4, .int x4)]) hx hb dM_foldsBack_17 hl (by decide) rfl (fun ls hl => ?_)
  refine lv_aload_n hx hb dM_foldsBack_19 rfl (lv_at hl 2 rfl) ?_
  refine lv_iload_n hx hb dM_foldsBack_20 rfl (lv_at hl 3 rfl) ?_
  refine lv_iload_n hx hb dM_foldsBack_21 rfl (lv_at hl 4 rfl) ?_
  obtain ⟨u3, hu3, h⟩ := ob_some h
  refine vp_callSl (va_Run.run (va_runV (As := [.int x1, .int x2]) (rest := []) ⟨hx, hb, hml, hown, hw⟩ (k_M_x l dC dI cL cI qm v x1 x2 u3 hu3) (cwV 2 hw (gV w_550 w_552 wp_11 w_2 w_553) rfl rfl rfl (by decide +kernel) ⟨Nat.le_of_ble_eq_true rfl, Nat.le_of_ble_eq_true rfl⟩) ⟨rd_blind, va_recv hK hPm (ci := 2) (q0 := 0) rfl rfl, rd_pre hPm hK⟩ rfl rfl hl.1 rfl (lv_room (Nat.le_of_ble_eq_true rfl)) dM_foldsBack_22 ⟨Nat.le_of_ble_eq_true rfl, Nat.le_of_ble_eq_true rfl⟩)) (fun z hz => ?_)
  rw [hz]; clear hz
  refine lv_aload_n hx hb dM_foldsBack_25 rfl (lv_at hl 2 rfl) ?_
  refine lv_iload_n hx hb dM_foldsBack_26 rfl (lv_at hl 3 rfl) ?_
  refine lv_iload_n hx hb dM_foldsBack_27 rfl (lv_at hl 4 rfl) ?_
  obtain ⟨u4, hu4, h⟩ := ob_some h
  refine vp_callSl (va_Run.run (va_runV (As := [.int x1, .int x2]) (rest := [.long u3]) ⟨hx, hb, hml, hown, hw⟩ (k_M_y l dC dI cL cI qm v x1 x2 u4 hu4) (cwV 2 hw (gV w_554 w_556 wp_12 w_2 w_557) rfl rfl rfl (by decide +kernel) ⟨Nat.le_of_ble_eq_true rfl, Nat.le_of_ble_eq_true rfl⟩) ⟨rd_blind, va_recv hK hPm (ci := 2) (q0 := 0) rfl rfl, rd_pre hPm hK⟩ rfl rfl hl.1 rfl (lv_room (Nat.le_of_ble_eq_true rfl)) dM_foldsBack_28 ⟨Nat.le_of_ble_eq_true rfl, Nat.le_of_ble_eq_true rfl⟩)) (fun z hz => ?_)
  rw [hz]; clear hz
  refine lv_aload_n hx hb dM_foldsBack_31 rfl (lv_at hl 2 rfl) ?_
  refine lv_iload_n hx hb dM_foldsBack_32 rfl (lv_at hl 3 rfl) ?_
  refine lv_iload hx hb dM_foldsBack_33 (lv_at hl 1 rfl) ?_
  obtain ⟨u5, hu5, h⟩ := ob_some h
  refine vp_callSl (va_Run.run (va_runV (As := [.int x1, .int u1]) (rest := [.long u4, .long u3]) ⟨hx, hb, hml, hown, hw⟩ (k_M_x l dC dI cL cI qm v x1 u1 u5 hu5) (cwV 2 hw (gV w_550 w_552 wp_11 w_2 w_553) rfl rfl rfl (by decide +kernel) ⟨Nat.le_of_ble_eq_true rfl, Nat.le_of_ble_eq_true rfl⟩) ⟨rd_blind, va_recv hK hPm (ci := 2) (q0 := 0) rfl rfl, rd_pre hPm hK⟩ rfl rfl hl.1 rfl (lv_room (Nat.le_of_ble_eq_true rfl)) dM_foldsBack_35 ⟨Nat.le_of_ble_eq_true rfl, Nat.le_of_ble_eq_true rfl⟩)) (fun z hz => ?_)
  rw [hz]; clear hz
  refine lv_aload_n hx hb dM_foldsBack_38 rfl (lv_at hl 2 rfl) ?_
  refine lv_iload_n hx hb dM_foldsBack_39 rfl (lv_at hl 3 rfl) ?_
  refine lv_iload hx hb dM_foldsBack_40 (lv_at hl 1 rfl) ?_
  obtain ⟨u6, hu6, h⟩ := ob_some h
  refine vp_callSl (va_Run.run (va_runV (As := [.int x1, .int u1]) (rest := [.long u5, .long u4, .long u3]) ⟨hx, hb, hml, hown, hw⟩ (k_M_y l dC dI cL cI qm v x1 u1 u6 hu6) (cwV 2 hw (gV w_554 w_556 wp_12 w_2 w_557) rfl rfl rfl (by decide +kernel) ⟨Nat.le_of_ble_eq_true rfl, Nat.le_of_ble_eq_true rfl⟩) ⟨rd_blind, va_recv hK hPm (ci := 2) (q0 := 0) rfl rfl, rd_pre hPm hK⟩ rfl rfl hl.1 rfl (lv_room (Nat.le_of_ble_eq_true rfl)) dM_foldsBack_42 ⟨Nat.le_of_ble_eq_true rfl, Nat.le_of_ble_eq_true rfl⟩)) (fun z hz => ?_)
  rw [hz]; clear hz
  refine lv_aload_n hx hb dM_foldsBack_45 rfl (lv_at hl 2 rfl) ?_
  refine lv_iload_n hx hb dM_foldsBack_46 rfl (lv_at hl 3 rfl) ?_
  refine lv_iload hx hb dM_foldsBack_47 (lv_at hl 0 rfl) ?_
  obtain ⟨u7, hu7, h⟩ := ob_some h
  refine vp_callSl (va_Run.run (va_runV (As := [.int x1, .int u2]) (rest := [.long u6, .long u5, .long u4, .long u3]) ⟨hx, hb, hml, hown, hw⟩ (k_M_x l dC dI cL cI qm v x1 u2 u7 hu7) (cwV 2 hw (gV w_550 w_552 wp_11 w_2 w_553) rfl rfl rfl (by decide +kernel) ⟨Nat.le_of_ble_eq_true rfl, Nat.le_of_ble_eq_true rfl⟩) ⟨rd_blind, va_recv hK hPm (ci := 2) (q0 := 0) rfl rfl, rd_pre hPm hK⟩ rfl rfl hl.1 rfl (lv_room (Nat.le_of_ble_eq_true rfl)) dM_foldsBack_49 ⟨Nat.le_of_ble_eq_true rfl, Nat.le_of_ble_eq_true rfl⟩)) (fun z hz => ?_)
  rw [hz]; clear hz
  refine lv_aload_n hx hb dM_foldsBack_52 rfl (lv_at hl 2 rfl) ?_
  refine lv_iload_n hx hb dM_foldsBack_53 rfl (lv_at hl 3 rfl) ?_
  refine lv_iload hx hb dM_foldsBack_54 (lv_at hl 0 rfl) ?_
  obtain ⟨u8, hu8, h⟩ := ob_some h
  refine vp_callSl (va_Run.run (wd_runV 10 (As := [.int x1, .int u2]) (rest := [.long u7, .long u6, .long u5, .long u4, .long u3]) ⟨hx, hb, hml, hown, hw⟩ (k_M_y l dC dI cL cI qm v x1 u2 u8 hu8) (cwV 2 hw (gV w_554 w_556 wp_12 w_2 w_557) rfl rfl rfl (by decide +kernel) ⟨Nat.le_of_ble_eq_true rfl, Nat.le_of_ble_eq_true rfl⟩) (Nat.le_of_ble_eq_true rfl) ⟨rd_blind, va_recv hK hPm (ci := 2) (q0 := 0) rfl rfl, rd_pre hPm hK⟩ rfl rfl hl.1 rfl (wd_room (Nat.le_of_ble_eq_true rfl)) dM_foldsBack_56 ⟨Nat.le_of_ble_eq_true rfl, Nat.le_of_ble_eq_true rfl⟩)) (fun z hz => ?_)
  rw [hz]; clear hz
  obtain ⟨u9, hu9, h⟩ := ob_some h
  refine vp_callSi (va_Run.run (va_runS (As := [.long u3, .long u4, .long u5, .long u6, .long u7, .long u8]) (rest := []) ⟨hx, hb, hml, hown, hw⟩ (k_M_turnOf l dC dI cL cI u3 u4 u5 u6 u7 u8 u9 hu9) (va_cwS 6 hw (gS w_558 w_559 w_2 w_560) rfl rfl rfl (by decide +kernel) ⟨Nat.le_of_ble_eq_true rfl, Nat.le_of_ble_eq_true rfl⟩) ⟨rd_blind, rd_pre trivial hK⟩ rfl rfl hl.1 rfl (lv_room (Nat.le_of_ble_eq_true rfl)) dM_foldsBack_59 ⟨Nat.le_of_ble_eq_true rfl, Nat.le_of_ble_eq_true rfl⟩)) (fun z hz => ?_)
  rw [hz]; clear hz
  refine lv_if_ne (tgt := 69) hx hb dM_foldsBack_62 (by decide) (fun c10 => ?_) (fun c10 => ?_)
  · have h := it_f c10 h
    refine lv_iconst (v := 0) hx hb dM_foldsBack_69 (by decide) ?_
    exact k70 x1 x2 u1 u2 (0 : Int32) h ls (lv_sub hl [2, 3, 4, 1, 0] rfl)
  · have h := it_t c10 h
    refine lv_iconst (v := 1) hx hb dM_foldsBack_65 (by decide) ?_
    refine lv_goto (tgt := 70) hx hb dM_foldsBack_66 (by decide) ?_
    exact k70 x1 x2 u1 u2 (1 : Int32) h ls (lv_sub hl [2, 3, 4, 1, 0] rfl)
theorem dM_sidesMeet_0 : decode cM_sidesMeet 0 = .ok (.iload_n 2, 1) := by decide +kernel
theorem dM_sidesMeet_1 : decode cM_sidesMeet 1 = .ok (.iload_n 3, 1) := by decide +kernel
theorem dM_sidesMeet_2 : decode cM_sidesMeet 2 = .ok (.iload 4, 2) := by decide +kernel
theorem dM_sidesMeet_4 : decode cM_sidesMeet 4 = .ok (.invokestatic 118, 3) := by decide +kernel
theorem dM_sidesMeet_7 : decode cM_sidesMeet 7 = .ok (.istore 8, 2) := by decide +kernel
theorem dM_sidesMeet_9 : decode cM_sidesMeet 9 = .ok (.iload 5, 2) := by decide +kernel
theorem dM_sidesMeet_11 : decode cM_sidesMeet 11 = .ok (.iload 6, 2) := by decide +kernel
theorem dM_sidesMeet_13 : decode cM_sidesMeet 13 = .ok (.iload 7, 2) := by decide +kernel
theorem dM_sidesMeet_15 : decode cM_sidesMeet 15 = .ok (.invokestatic 118, 3) := by decide +kernel
theorem dM_sidesMeet_18 : decode cM_sidesMeet 18 = .ok (.istore 9, 2) := by decide +kernel
theorem dM_sidesMeet_20 : decode cM_sidesMeet 20 = .ok (.aload_n 0, 1) := by decide +kernel
theorem dM_sidesMeet_21 : decode cM_sidesMeet 21 = .ok (.iload_n 1, 1) := by decide +kernel
theorem dM_sidesMeet_22 : decode cM_sidesMeet 22 = .ok (.iload_n 2, 1) := by decide +kernel
theorem dM_sidesMeet_23 : decode cM_sidesMeet 23 = .ok (.invokevirtual 111, 3) := by decide +kernel
theorem dM_sidesMeet_26 : decode cM_sidesMeet 26 = .ok (.aload_n 0, 1) := by decide +kernel
theorem dM_sidesMeet_27 : decode cM_sidesMeet 27 = .ok (.iload_n 1, 1) := by decide +kernel
theorem dM_sidesMeet_28 : decode cM_sidesMeet 28 = .ok (.iload_n 2, 1) := by decide +kernel
theorem dM_sidesMeet_29 : decode cM_sidesMeet 29 = .ok (.invokevirtual 115, 3) := by decide +kernel
theorem dM_sidesMeet_32 : decode cM_sidesMeet 32 = .ok (.aload_n 0, 1) := by decide +kernel
theorem dM_sidesMeet_33 : decode cM_sidesMeet 33 = .ok (.iload_n 1, 1) := by decide +kernel
theorem dM_sidesMeet_34 : decode cM_sidesMeet 34 = .ok (.iload 8, 2) := by decide +kernel
theorem dM_sidesMeet_36 : decode cM_sidesMeet 36 = .ok (.invokevirtual 111, 3) := by decide +kernel
theorem dM_sidesMeet_39 : decode cM_sidesMeet 39 = .ok (.aload_n 0, 1) := by decide +kernel
theorem dM_sidesMeet_40 : decode cM_sidesMeet 40 = .ok (.iload_n 1, 1) := by decide +kernel
theorem dM_sidesMeet_41 : decode cM_sidesMeet 41 = .ok (.iload 8, 2) := by decide +kernel
theorem dM_sidesMeet_43 : decode cM_sidesMeet 43 = .ok (.invokevirtual 115, 3) := by decide +kernel
theorem dM_sidesMeet_46 : decode cM_sidesMeet 46 = .ok (.aload_n 0, 1) := by decide +kernel
theorem dM_sidesMeet_47 : decode cM_sidesMeet 47 = .ok (.iload_n 1, 1) := by decide +kernel
theorem dM_sidesMeet_48 : decode cM_sidesMeet 48 = .ok (.iload 5, 2) := by decide +kernel
theorem dM_sidesMeet_50 : decode cM_sidesMeet 50 = .ok (.invokevirtual 111, 3) := by decide +kernel
theorem dM_sidesMeet_53 : decode cM_sidesMeet 53 = .ok (.aload_n 0, 1) := by decide +kernel
theorem dM_sidesMeet_54 : decode cM_sidesMeet 54 = .ok (.iload_n 1, 1) := by decide +kernel
theorem dM_sidesMeet_55 : decode cM_sidesMeet 55 = .ok (.iload 5, 2) := by decide +kernel
theorem dM_sidesMeet_57 : decode cM_sidesMeet 57 = .ok (.invokevirtual 115, 3) := by decide +kernel
theorem dM_sidesMeet_60 : decode cM_sidesMeet 60 = .ok (.aload_n 0, 1) := by decide +kernel
theorem dM_sidesMeet_61 : decode cM_sidesMeet 61 = .ok (.iload_n 1, 1) := by decide +kernel
theorem dM_sidesMeet_62 : decode cM_sidesMeet 62 = .ok (.iload 9, 2) := by decide +kernel
theorem dM_sidesMeet_64 : decode cM_sidesMeet 64 = .ok (.invokevirtual 111, 3) := by decide +kernel
theorem dM_sidesMeet_67 : decode cM_sidesMeet 67 = .ok (.aload_n 0, 1) := by decide +kernel
theorem dM_sidesMeet_68 : decode cM_sidesMeet 68 = .ok (.iload_n 1, 1) := by decide +kernel
theorem dM_sidesMeet_69 : decode cM_sidesMeet 69 = .ok (.iload 9, 2) := by decide +kernel
theorem dM_sidesMeet_71 : decode cM_sidesMeet 71 = .ok (.invokevirtual 115, 3) := by decide +kernel
theorem dM_sidesMeet_74 : decode cM_sidesMeet 74 = .ok (.invokestatic 122, 3) := by decide +kernel
theorem dM_sidesMeet_77 : decode cM_sidesMeet 77 = .ok (.ireturn, 1) := by decide +kernel
def f_M_sidesMeet (v : MV) (x1 : Int32) (x2 : Int32) (x3 : Int32) (x4 : Int32) (x5 : Int32) (x6 : Int32) (x7 : Int32) : Option Int32 := (f_M_behind x2 x3 x4).bind fun u1 => (f_M_behind x5 x6 x7).bind fun u2 => (f_M_x v x1 x2).bind fun u3 => (f_M_y v x1 x2).bind fun u4 => (f_M_x v x1 u1).bind fun u5 => (f_M_y v x1 u1).bind fun u6 => (f_M_x v x1 x5).bind fun u7 => (f_M_y v x1 x5).bind fun u8 => (f_M_x v x1 u2).bind fun u9 => (f_M_y v x1 u2).bind fun u10 => (f_M_meet u3 u4 u5 u6 u7 u8 u9 u10).bind fun u11 => rb u11
set_option maxHeartbeats 4000000 in
set_option maxRecDepth 100000 in
theorem k_M_sidesMeet (l : Launch) (dC : Nat → ClassId) (dI : Nat → Nat → Nat) (cL cI : ClassId) (qm : Nat → Nat) (v : MV) (x1 : Int32) (x2 : Int32) (x3 : Int32) (x4 : Int32) (x5 : Int32) (x6 : Int32) (x7 : Int32) (r : Int32) (h : f_M_sidesMeet v x1 x2 x3 x4 x5 x6 x7 = some r) : Met l yM_sidesMeet wsM_sidesMeet ({ frames := 4, cells := 0, slots := 0, locals := 126 }) (rd_Pc [.ref (qm 0), .int x1, .int x2, .int x3, .int x4, .int x5, .int x6, .int x7] (fun H => va_P (dC, dI) cls3 (mdW cL cI qm v) H) (dC, dI) cls3 [(cL, .long), (cI, .int)]) (vp_Si (fun z => z = r)) 0 0 (fun _ => False) := by
  refine Met.ofW (cc := cM_sidesMeet) (maxL := 10) (ret := (some .boolean)) (by decide) rfl ?_
  intro p e s m args below meth c s₁ B hml hv
  obtain ⟨rfl, hPm, hK⟩ := hv
  have hx := B.exec
  have hb := B.bytes
  have hr := B.returns
  have hw : ∀ w ∈ wG, w.before ([.ref (qm 0), .int x1, .int x2, .int x3, .int x4, .int x5, .int x6, .int x7] : List Value).toArray s = true := fun w hq => atoms_spec (ws := wsM_sidesMeet) B.pre w (List.mem_cons_of_mem _ hq)
  have hown : s.vm.findClass R_M = some m.cls := findClass_of_methodNamed B.named
  have hlocks := B.notSynchronized
  have hl := lv_entry ([.ref (qm 0), .int x1, .int x2, .int x3, .int x4, .int x5, .int x6, .int x7] : List Value) (n := 10) (Nat.le_of_ble_eq_true rfl)
  rw [lg_entry_eq]
  generalize (lg_sl ([.ref (qm 0), .int x1, .int x2, .int x3, .int x4, .int x5, .int x6, .int x7] : List Value) ++ List.replicate (10 - (lg_sl ([.ref (qm 0), .int x1, .int x2, .int x3, .int x4, .int x5, .int x6, .int x7] : List Value)).length) Slot.unset).toArray = ls at hl ⊢
  have hl : lv_has ls 10 [(0, .ref (qm 0)), (1, .int x1), (2, .int x2), (3, .int x3), (4, .int x4), (5, .int x5), (6, .int x6), (7, .int x7)] := hl
  unfold f_M_sidesMeet at h
  refine lv_iload_n hx hb dM_sidesMeet_0 rfl (lv_at hl 2 rfl) ?_
  refine lv_iload_n hx hb dM_sidesMeet_1 rfl (lv_at hl 3 rfl) ?_
  refine lv_iload hx hb dM_sidesMeet_2 (lv_at hl 4 rfl) ?_
  obtain ⟨u1, hu1, h⟩ := ob_some h
  refine vp_callSi (va_Run.run (va_runS (As := [.int x2, .int x3, .int x4]) (rest := []) ⟨hx, hb, hml, hown, hw⟩ (k_M_behind l dC dI cL cI x2 x3 x4 u1 hu1) (va_cwS 3 hw (gS w_575 w_576 w_2 w_577) rfl rfl rfl (by decide +kernel) ⟨Nat.le_of_ble_eq_true rfl, Nat.le_of_ble_eq_true rfl⟩) ⟨rd_blind, rd_pre trivial hK⟩ rfl rfl hl.1 rfl (lv_room (Nat.le_of_ble_eq_true rfl)) dM_sidesMeet_4 ⟨Nat.le_of_ble_eq_true rfl, Nat.le_of_ble_eq_true rfl⟩)) (fun z hz => ?_)
  rw [hz]; clear hz
  refine lv_istore (lv' := [(8, .int u1), (0, .ref (qm 0)), (1, .int x1), (2, .int x2), (3, .int x3), (4, .int x4), (5, .int x5), (6, .int x6), (7, .int x7)]) hx hb dM_sidesMeet_7 hl (by decide) rfl (fun ls hl => ?_)
  refine lv_iload hx hb dM_sidesMeet_9 (lv_at hl 6 rfl) ?_
  refine lv_iload hx hb dM_sidesMeet_11 (lv_at hl 7 rfl) ?_
  refine lv_iload hx hb dM_sidesMeet_13 (lv_at hl 8 rfl) ?_
  obtain ⟨u2, hu2, h⟩ := ob_some h
  refine vp_callSi (va_Run.run (va_runS (As := [.int x5, .int x6, .int x7]) (rest := []) ⟨hx, hb, hml, hown, hw⟩ (k_M_behind l dC dI cL cI x5 x6 x7 u2 hu2) (va_cwS 3 hw (gS w_575 w_576 w_2 w_577) rfl rfl rfl (by decide +kernel) ⟨Nat.le_of_ble_eq_true rfl, Nat.le_of_ble_eq_true rfl⟩) ⟨rd_blind, rd_pre trivial hK⟩ rfl rfl hl.1 rfl (lv_room (Nat.le_of_ble_eq_true rfl)) dM_sidesMeet_15 ⟨Nat.le_of_ble_eq_true rfl, Nat.le_of_ble_eq_true rfl⟩)) (fun z hz => ?_)
  rw [hz]; clear hz
  refine lv_istore (lv' := [(9, .int u2), (8, .int u1), (0, .ref (qm 0)), (1, .int x1), (2, .int x2), (3, .int x3), (4, .int x4), (5, .int x5), (6, .int x6), (7, .int x7)]) hx hb dM_sidesMeet_18 hl (by decide) rfl (fun ls hl => ?_)
  refine lv_aload_n hx hb dM_sidesMeet_20 rfl (lv_at hl 2 rfl) ?_
  refine lv_iload_n hx hb dM_sidesMeet_21 rfl (lv_at hl 3 rfl) ?_
  refine lv_iload_n hx hb dM_sidesMeet_22 rfl (lv_at hl 4 rfl) ?_
  obtain ⟨u3, hu3, h⟩ := ob_some h
  refine vp_callSl (va_Run.run (va_runV (As := [.int x1, .int x2]) (rest := []) ⟨hx, hb, hml, hown, hw⟩ (k_M_x l dC dI cL cI qm v x1 x2 u3 hu3) (cwV 2 hw (gV w_550 w_552 wp_11 w_2 w_553) rfl rfl rfl (by decide +kernel) ⟨Nat.le_of_ble_eq_true rfl, Nat.le_of_ble_eq_true rfl⟩) ⟨rd_blind, va_recv hK hPm (ci := 2) (q0 := 0) rfl rfl, rd_pre hPm hK⟩ rfl rfl hl.1 rfl (lv_room (Nat.le_of_ble_eq_true rfl)) dM_sidesMeet_23 ⟨Nat.le_of_ble_eq_true rfl, Nat.le_of_ble_eq_true rfl⟩)) (fun z hz => ?_)
  rw [hz]; clear hz
  refine lv_aload_n hx hb dM_sidesMeet_26 rfl (lv_at hl 2 rfl) ?_
  refine lv_iload_n hx hb dM_sidesMeet_27 rfl (lv_at hl 3 rfl) ?_
  refine lv_iload_n hx hb dM_sidesMeet_28 rfl (lv_at hl 4 rfl) ?_
  obtain ⟨u4, hu4, h⟩ := ob_some h
  refine vp_callSl (va_Run.run (va_runV (As := [.int x1, .int x2]) (rest := [.long u3]) ⟨hx, hb, hml, hown, hw⟩ (k_M_y l dC dI cL cI qm v x1 x2 u4 hu4) (cwV 2 hw (gV w_554 w_556 wp_12 w_2 w_557) rfl rfl rfl (by decide +kernel) ⟨Nat.le_of_ble_eq_true rfl, Nat.le_of_ble_eq_true rfl⟩) ⟨rd_blind, va_recv hK hPm (ci := 2) (q0 := 0) rfl rfl, rd_pre hPm hK⟩ rfl rfl hl.1 rfl (lv_room (Nat.le_of_ble_eq_true rfl)) dM_sidesMeet_29 ⟨Nat.le_of_ble_eq_true rfl, Nat.le_of_ble_eq_true rfl⟩)) (fun z hz => ?_)
  rw [hz]; clear hz
  refine lv_aload_n hx hb dM_sidesMeet_32 rfl (lv_at hl 2 rfl) ?_
  refine lv_iload_n hx hb dM_sidesMeet_33 rfl (lv_at hl 3 rfl) ?_
  refine lv_iload hx hb dM_sidesMeet_34 (lv_at hl 1 rfl) ?_
  obtain ⟨u5, hu5, h⟩ := ob_some h
  refine vp_callSl (va_Run.run (va_runV (As := [.int x1, .int u1]) (rest := [.long u4, .long u3]) ⟨hx, hb, hml, hown, hw⟩ (k_M_x l dC dI cL cI qm v x1 u1 u5 hu5) (cwV 2 hw (gV w_550 w_552 wp_11 w_2 w_553) rfl rfl rfl (by decide +kernel) ⟨Nat.le_of_ble_eq_true rfl, Nat.le_of_ble_eq_true rfl⟩) ⟨rd_blind, va_recv hK hPm (ci := 2) (q0 := 0) rfl rfl, rd_pre hPm hK⟩ rfl rfl hl.1 rfl (lv_room (Nat.le_of_ble_eq_true rfl)) dM_sidesMeet_36 ⟨Nat.le_of_ble_eq_true rfl, Nat.le_of_ble_eq_true rfl⟩)) (fun z hz => ?_)
  rw [hz]; clear hz
  refine lv_aload_n hx hb dM_sidesMeet_39 rfl (lv_at hl 2 rfl) ?_
  refine lv_iload_n hx hb dM_sidesMeet_40 rfl (lv_at hl 3 rfl) ?_
  refine lv_iload hx hb dM_sidesMeet_41 (lv_at hl 1 rfl) ?_
  obtain ⟨u6, hu6, h⟩ := ob_some h
  refine vp_callSl (va_Run.run (va_runV (As := [.int x1, .int u1]) (rest := [.long u5, .long u4, .long u3]) ⟨hx, hb, hml, hown, hw⟩ (k_M_y l dC dI cL cI qm v x1 u1 u6 hu6) (cwV 2 hw (gV w_554 w_556 wp_12 w_2 w_557) rfl rfl rfl (by decide +kernel) ⟨Nat.le_of_ble_eq_true rfl, Nat.le_of_ble_eq_true rfl⟩) ⟨rd_blind, va_recv hK hPm (ci := 2) (q0 := 0) rfl rfl, rd_pre hPm hK⟩ rfl rfl hl.1 rfl (lv_room (Nat.le_of_ble_eq_true rfl)) dM_sidesMeet_43 ⟨Nat.le_of_ble_eq_true rfl, Nat.le_of_ble_eq_true rfl⟩)) (fun z hz => ?_)
  rw [hz]; clear hz
  refine lv_aload_n hx hb dM_sidesMeet_46 rfl (lv_at hl 2 rfl) ?_
  refine lv_iload_n hx hb dM_sidesMeet_47 rfl (lv_at hl 3 rfl) ?_
  refine lv_iload hx hb dM_sidesMeet_48 (lv_at hl 7 rfl) ?_
  obtain ⟨u7, hu7, h⟩ := ob_some h
  refine vp_callSl (va_Run.run (va_runV (As := [.int x1, .int x5]) (rest := [.long u6, .long u5, .long u4, .long u3]) ⟨hx, hb, hml, hown, hw⟩ (k_M_x l dC dI cL cI qm v x1 x5 u7 hu7) (cwV 2 hw (gV w_550 w_552 wp_11 w_2 w_553) rfl rfl rfl (by decide +kernel) ⟨Nat.le_of_ble_eq_true rfl, Nat.le_of_ble_eq_true rfl⟩) ⟨rd_blind, va_recv hK hPm (ci := 2) (q0 := 0) rfl rfl, rd_pre hPm hK⟩ rfl rfl hl.1 rfl (lv_room (Nat.le_of_ble_eq_true rfl)) dM_sidesMeet_50 ⟨Nat.le_of_ble_eq_true rfl, Nat.le_of_ble_eq_true rfl⟩)) (fun z hz => ?_)
  rw [hz]; clear hz
  refine lv_aload_n hx hb dM_sidesMeet_53 rfl (lv_at hl 2 rfl) ?_
  refine lv_iload_n hx hb dM_sidesMeet_54 rfl (lv_at hl 3 rfl) ?_
  refine lv_iload hx hb dM_sidesMeet_55 (lv_at hl 7 rfl) ?_
  obtain ⟨u8, hu8, h⟩ := ob_some h
  refine vp_callSl (va_Run.run (wd_runV 10 (As := [.int x1, .int x5]) (rest := [.long u7, .long u6, .long u5, .long u4, .long u3]) ⟨hx, hb, hml, hown, hw⟩ (k_M_y l dC dI cL cI qm v x1 x5 u8 hu8) (cwV 2 hw (gV w_554 w_556 wp_12 w_2 w_557) rfl rfl rfl (by decide +kernel) ⟨Nat.le_of_ble_eq_true rfl, Nat.le_of_ble_eq_true rfl⟩) (Nat.le_of_ble_eq_true rfl) ⟨rd_blind, va_recv hK hPm (ci := 2) (q0 := 0) rfl rfl, rd_pre hPm hK⟩ rfl rfl hl.1 rfl (wd_room (Nat.le_of_ble_eq_true rfl)) dM_sidesMeet_57 ⟨Nat.le_of_ble_eq_true rfl, Nat.le_of_ble_eq_true rfl⟩)) (fun z hz => ?_)
  rw [hz]; clear hz
  refine lv_aload_n hx hb dM_sidesMeet_60 rfl (lv_at hl 2 rfl) ?_
  refine lv_iload_n hx hb dM_sidesMeet_61 rfl (lv_at hl 3 rfl) ?_
  refine lv_iload hx hb dM_sidesMeet_62 (lv_at hl 0 rfl) ?_
  obtain ⟨u9, hu9, h⟩ := ob_some h
  refine vp_callSl (va_Run.run (wd_runV 12 (As := [.int x1, .int u2]) (rest := [.long u8, .long u7, .long u6, .long u5, .long u4, .long u3]) ⟨hx, hb, hml, hown, hw⟩ (k_M_x l dC dI cL cI qm v x1 u2 u9 hu9) (cwV 2 hw (gV w_550 w_552 wp_11 w_2 w_553) rfl rfl rfl (by decide +kernel) ⟨Nat.le_of_ble_eq_true rfl, Nat.le_of_ble_eq_true rfl⟩) (Nat.le_of_ble_eq_true rfl) ⟨rd_blind, va_recv hK hPm (ci := 2) (q0 := 0) rfl rfl, rd_pre hPm hK⟩ rfl rfl hl.1 rfl (wd_room (Nat.le_of_ble_eq_true rfl)) dM_sidesMeet_64 ⟨Nat.le_of_ble_eq_true rfl, Nat.le_of_ble_eq_true rfl⟩)) (fun z hz => ?_)
  rw [hz]; clear hz
  refine lv_aload_n hx hb dM_sidesMeet_67 rfl (lv_at hl 2 rfl) ?_
  refine lv_iload_n hx hb dM_sidesMeet_68 rfl (lv_at hl 3 rfl) ?_
  refine lv_iload hx hb dM_sidesMeet_69 (lv_at hl 0 rfl) ?_
  obtain ⟨u10, hu10, h⟩ := ob_some h
  refine vp_callSl (va_Run.run (wd_runV 14 (As := [.int x1, .int u2]) (rest := [.long u9, .long u8, .long u7, .long u6, .long u5, .long u4, .long u3]) ⟨hx, hb, hml, hown, hw⟩ (k_M_y l dC dI cL cI qm v x1 u2 u10 hu10) (cwV 2 hw (gV w_554 w_556 wp_12 w_2 w_557) rfl rfl rfl (by decide +kernel) ⟨Nat.le_of_ble_eq_true rfl, Nat.le_of_ble_eq_true rfl⟩) (Nat.le_of_ble_eq_true rfl) ⟨rd_blind, va_recv hK hPm (ci := 2) (q0 := 0) rfl rfl, rd_pre hPm hK⟩ rfl rfl hl.1 rfl (wd_room (Nat.le_of_ble_eq_true rfl)) dM_sidesMeet_71 ⟨Nat.le_of_ble_eq_true rfl, Nat.le_of_ble_eq_true rfl⟩)) (fun z hz => ?_)
  rw [hz]; clear hz
  obtain ⟨u11, hu11, h⟩ := ob_some h
  refine vp_callSi (va_Run.run (va_runS (As := [.long u3, .long u4, .long u5, .long u6, .long u7, .long u8, .long u9, .long u10]) (rest := []) ⟨hx, hb, hml, hown, hw⟩ (k_M_meet l dC dI cL cI u3 u4 u5 u6 u7 u8 u9 u10 u11 hu11) (va_cwS 8 hw (gS w_588 w_589 w_2 w_590) rfl rfl rfl (by decide +kernel) ⟨Nat.le_of_ble_eq_true rfl, Nat.le_of_ble_eq_true rfl⟩) ⟨rd_blind, rd_pre trivial hK⟩ rfl rfl hl.1 rfl (lv_room (Nat.le_of_ble_eq_true rfl)) dM_sidesMeet_74 ⟨Nat.le_of_ble_eq_true rfl, Nat.le_of_ble_eq_true rfl⟩)) (fun z hz => ?_)
  rw [hz]; clear hz
  obtain ⟨hz, hr9⟩ := rb_of h
  exact W.zret hx hb hr hz (fun t ht hW => ⟨_, rfl, hr9, ht⟩) nil_locs dM_sidesMeet_77
theorem dM_isCrossing_0 : decode cM_isCrossing 0 = .ok (.iload_n 2, 1) := by decide +kernel
theorem dM_isCrossing_1 : decode cM_isCrossing 1 = .ok (.istore 4, 2) := by decide +kernel
theorem dM_isCrossing_3 : decode cM_isCrossing 3 = .ok (.iload 4, 2) := by decide +kernel
theorem dM_isCrossing_5 : decode cM_isCrossing 5 = .ok (.iload_n 3, 1) := by decide +kernel
theorem dM_isCrossing_6 : decode cM_isCrossing 6 = .ok (.if_icmp .ge 177, 3) := by decide +kernel
theorem dM_isCrossing_9 : decode cM_isCrossing 9 = .ok (.aload_n 0, 1) := by decide +kernel
theorem dM_isCrossing_10 : decode cM_isCrossing 10 = .ok (.iload_n 1, 1) := by decide +kernel
theorem dM_isCrossing_11 : decode cM_isCrossing 11 = .ok (.iload 4, 2) := by decide +kernel
theorem dM_isCrossing_13 : decode cM_isCrossing 13 = .ok (.iload_n 2, 1) := by decide +kernel
theorem dM_isCrossing_14 : decode cM_isCrossing 14 = .ok (.iload_n 3, 1) := by decide +kernel
theorem dM_isCrossing_15 : decode cM_isCrossing 15 = .ok (.invokevirtual 126, 3) := by decide +kernel
theorem dM_isCrossing_18 : decode cM_isCrossing 18 = .ok (.ifCond .eq 5, 3) := by decide +kernel
theorem dM_isCrossing_21 : decode cM_isCrossing 21 = .ok (.iconst 1, 1) := by decide +kernel
theorem dM_isCrossing_22 : decode cM_isCrossing 22 = .ok (.ireturn, 1) := by decide +kernel
theorem dM_isCrossing_23 : decode cM_isCrossing 23 = .ok (.iload_n 2, 1) := by decide +kernel
theorem dM_isCrossing_24 : decode cM_isCrossing 24 = .ok (.istore 5, 2) := by decide +kernel
theorem dM_isCrossing_26 : decode cM_isCrossing 26 = .ok (.iload 5, 2) := by decide +kernel
theorem dM_isCrossing_28 : decode cM_isCrossing 28 = .ok (.iload_n 3, 1) := by decide +kernel
theorem dM_isCrossing_29 : decode cM_isCrossing 29 = .ok (.if_icmp .ge 70, 3) := by decide +kernel
theorem dM_isCrossing_32 : decode cM_isCrossing 32 = .ok (.iload 4, 2) := by decide +kernel
theorem dM_isCrossing_34 : decode cM_isCrossing 34 = .ok (.iload 5, 2) := by decide +kernel
theorem dM_isCrossing_36 : decode cM_isCrossing 36 = .ok (.if_icmp .eq 31, 3) := by decide +kernel
theorem dM_isCrossing_39 : decode cM_isCrossing 39 = .ok (.iload 4, 2) := by decide +kernel
theorem dM_isCrossing_41 : decode cM_isCrossing 41 = .ok (.iload_n 2, 1) := by decide +kernel
theorem dM_isCrossing_42 : decode cM_isCrossing 42 = .ok (.iload_n 3, 1) := by decide +kernel
theorem dM_isCrossing_43 : decode cM_isCrossing 43 = .ok (.invokestatic 118, 3) := by decide +kernel
theorem dM_isCrossing_46 : decode cM_isCrossing 46 = .ok (.iload 5, 2) := by decide +kernel
theorem dM_isCrossing_48 : decode cM_isCrossing 48 = .ok (.if_icmp .eq 19, 3) := by decide +kernel
theorem dM_isCrossing_51 : decode cM_isCrossing 51 = .ok (.iload 5, 2) := by decide +kernel
theorem dM_isCrossing_53 : decode cM_isCrossing 53 = .ok (.iload_n 2, 1) := by decide +kernel
theorem dM_isCrossing_54 : decode cM_isCrossing 54 = .ok (.iload_n 3, 1) := by decide +kernel
theorem dM_isCrossing_55 : decode cM_isCrossing 55 = .ok (.invokestatic 118, 3) := by decide +kernel
theorem dM_isCrossing_58 : decode cM_isCrossing 58 = .ok (.iload 4, 2) := by decide +kernel
theorem dM_isCrossing_60 : decode cM_isCrossing 60 = .ok (.if_icmp .eq 7, 3) := by decide +kernel
theorem dM_isCrossing_63 : decode cM_isCrossing 63 = .ok (.iconst 1, 1) := by decide +kernel
theorem dM_isCrossing_64 : decode cM_isCrossing 64 = .ok (.goto 4, 3) := by decide +kernel
theorem dM_isCrossing_67 : decode cM_isCrossing 67 = .ok (.iconst 0, 1) := by decide +kernel
theorem dM_isCrossing_68 : decode cM_isCrossing 68 = .ok (.istore 6, 2) := by decide +kernel
theorem dM_isCrossing_70 : decode cM_isCrossing 70 = .ok (.iload 6, 2) := by decide +kernel
theorem dM_isCrossing_72 : decode cM_isCrossing 72 = .ok (.ifCond .eq 21, 3) := by decide +kernel
theorem dM_isCrossing_75 : decode cM_isCrossing 75 = .ok (.aload_n 0, 1) := by decide +kernel
theorem dM_isCrossing_76 : decode cM_isCrossing 76 = .ok (.iload_n 1, 1) := by decide +kernel
theorem dM_isCrossing_77 : decode cM_isCrossing 77 = .ok (.iload 4, 2) := by decide +kernel
theorem dM_isCrossing_79 : decode cM_isCrossing 79 = .ok (.iload_n 2, 1) := by decide +kernel
theorem dM_isCrossing_80 : decode cM_isCrossing 80 = .ok (.iload_n 3, 1) := by decide +kernel
theorem dM_isCrossing_81 : decode cM_isCrossing 81 = .ok (.iload 5, 2) := by decide +kernel
theorem dM_isCrossing_83 : decode cM_isCrossing 83 = .ok (.iload_n 2, 1) := by decide +kernel
theorem dM_isCrossing_84 : decode cM_isCrossing 84 = .ok (.iload_n 3, 1) := by decide +kernel
theorem dM_isCrossing_85 : decode cM_isCrossing 85 = .ok (.invokevirtual 130, 3) := by decide +kernel
theorem dM_isCrossing_88 : decode cM_isCrossing 88 = .ok (.ifCond .eq 5, 3) := by decide +kernel
theorem dM_isCrossing_91 : decode cM_isCrossing 91 = .ok (.iconst 1, 1) := by decide +kernel
theorem dM_isCrossing_92 : decode cM_isCrossing 92 = .ok (.ireturn, 1) := by decide +kernel
theorem dM_isCrossing_93 : decode cM_isCrossing 93 = .ok (.iinc 5 1, 3) := by decide +kernel
theorem dM_isCrossing_96 : decode cM_isCrossing 96 = .ok (.goto (-70), 3) := by decide +kernel
theorem dM_isCrossing_99 : decode cM_isCrossing 99 = .ok (.iconst 0, 1) := by decide +kernel
theorem dM_isCrossing_100 : decode cM_isCrossing 100 = .ok (.istore 5, 2) := by decide +kernel
theorem dM_isCrossing_102 : decode cM_isCrossing 102 = .ok (.iconst 0, 1) := by decide +kernel
theorem dM_isCrossing_103 : decode cM_isCrossing 103 = .ok (.istore 6, 2) := by decide +kernel
theorem dM_isCrossing_105 : decode cM_isCrossing 105 = .ok (.iload 6, 2) := by decide +kernel
theorem dM_isCrossing_107 : decode cM_isCrossing 107 = .ok (.aload_n 0, 1) := by decide +kernel
theorem dM_isCrossing_108 : decode cM_isCrossing 108 = .ok (.getfield 29, 3) := by decide +kernel
theorem dM_isCrossing_111 : decode cM_isCrossing 111 = .ok (.iload_n 1, 1) := by decide +kernel
theorem dM_isCrossing_112 : decode cM_isCrossing 112 = .ok (.iaload, 1) := by decide +kernel
theorem dM_isCrossing_113 : decode cM_isCrossing 113 = .ok (.if_icmp .ge 64, 3) := by decide +kernel
theorem dM_isCrossing_116 : decode cM_isCrossing 116 = .ok (.aload_n 0, 1) := by decide +kernel
theorem dM_isCrossing_117 : decode cM_isCrossing 117 = .ok (.getfield 26, 3) := by decide +kernel
theorem dM_isCrossing_120 : decode cM_isCrossing 120 = .ok (.bipush 16, 2) := by decide +kernel
theorem dM_isCrossing_122 : decode cM_isCrossing 122 = .ok (.iload_n 1, 1) := by decide +kernel
theorem dM_isCrossing_123 : decode cM_isCrossing 123 = .ok (.imul, 1) := by decide +kernel
theorem dM_isCrossing_124 : decode cM_isCrossing 124 = .ok (.iload 6, 2) := by decide +kernel
theorem dM_isCrossing_126 : decode cM_isCrossing 126 = .ok (.iadd, 1) := by decide +kernel
theorem dM_isCrossing_127 : decode cM_isCrossing 127 = .ok (.iaload, 1) := by decide +kernel
theorem dM_isCrossing_128 : decode cM_isCrossing 128 = .ok (.istore 7, 2) := by decide +kernel
theorem dM_isCrossing_130 : decode cM_isCrossing 130 = .ok (.iload 5, 2) := by decide +kernel
theorem dM_isCrossing_132 : decode cM_isCrossing 132 = .ok (.istore 8, 2) := by decide +kernel
theorem dM_isCrossing_134 : decode cM_isCrossing 134 = .ok (.iload 8, 2) := by decide +kernel
theorem dM_isCrossing_136 : decode cM_isCrossing 136 = .ok (.iload 7, 2) := by decide +kernel
theorem dM_isCrossing_138 : decode cM_isCrossing 138 = .ok (.if_icmp .ge 29, 3) := by decide +kernel
theorem dM_isCrossing_141 : decode cM_isCrossing 141 = .ok (.aload_n 0, 1) := by decide +kernel
theorem dM_isCrossing_142 : decode cM_isCrossing 142 = .ok (.iload_n 1, 1) := by decide +kernel
theorem dM_isCrossing_143 : decode cM_isCrossing 143 = .ok (.iload 4, 2) := by decide +kernel
theorem dM_isCrossing_145 : decode cM_isCrossing 145 = .ok (.iload_n 2, 1) := by decide +kernel
theorem dM_isCrossing_146 : decode cM_isCrossing 146 = .ok (.iload_n 3, 1) := by decide +kernel
theorem dM_isCrossing_147 : decode cM_isCrossing 147 = .ok (.iload 8, 2) := by decide +kernel
theorem dM_isCrossing_149 : decode cM_isCrossing 149 = .ok (.iload 5, 2) := by decide +kernel
theorem dM_isCrossing_151 : decode cM_isCrossing 151 = .ok (.iload 7, 2) := by decide +kernel
theorem dM_isCrossing_153 : decode cM_isCrossing 153 = .ok (.invokevirtual 130, 3) := by decide +kernel
theorem dM_isCrossing_156 : decode cM_isCrossing 156 = .ok (.ifCond .eq 5, 3) := by decide +kernel
theorem dM_isCrossing_159 : decode cM_isCrossing 159 = .ok (.iconst 1, 1) := by decide +kernel
theorem dM_isCrossing_160 : decode cM_isCrossing 160 = .ok (.ireturn, 1) := by decide +kernel
theorem dM_isCrossing_161 : decode cM_isCrossing 161 = .ok (.iinc 8 1, 3) := by decide +kernel
theorem dM_isCrossing_164 : decode cM_isCrossing 164 = .ok (.goto (-30), 3) := by decide +kernel
theorem dM_isCrossing_167 : decode cM_isCrossing 167 = .ok (.iload 7, 2) := by decide +kernel
theorem dM_isCrossing_169 : decode cM_isCrossing 169 = .ok (.istore 5, 2) := by decide +kernel
theorem dM_isCrossing_171 : decode cM_isCrossing 171 = .ok (.iinc 6 1, 3) := by decide +kernel
theorem dM_isCrossing_174 : decode cM_isCrossing 174 = .ok (.goto (-69), 3) := by decide +kernel
theorem dM_isCrossing_177 : decode cM_isCrossing 177 = .ok (.iinc 4 1, 3) := by decide +kernel
theorem dM_isCrossing_180 : decode cM_isCrossing 180 = .ok (.goto (-177), 3) := by decide +kernel
theorem dM_isCrossing_183 : decode cM_isCrossing 183 = .ok (.iconst 0, 1) := by decide +kernel
theorem dM_isCrossing_184 : decode cM_isCrossing 184 = .ok (.ireturn, 1) := by decide +kernel
def f_M_isCrossing_l134 (v : MV) (K3 : Int32 → Int32 → Int32 → Int32 → Option Int32) (K105 : Int32 → Int32 → Int32 → Int32 → Int32 → Int32 → Option Int32) : Nat → Int32 → Int32 → Int32 → Int32 → Int32 → Int32 → Int32 → Int32 → Option Int32
 | 0, _, _, _, _, _, _, _, _ => none
 | n + 1, p1, p2, p3, p4, p5, p6, p7, p8 => (if p7 ≤ p8 then (K105 p1 p2 p3 p4 p7 (p6 + 1)) else (f_M_sidesMeet v p1 p4 p2 p3 p8 p5 p7).bind fun u17 => (if u17 = 0 then ((f_M_isCrossing_l134 v K3 K105 n) p1 p2 p3 p4 p5 p6 p7 (p8 + 1)) else rb (1 : Int32)))
def f_M_isCrossing_l105 (v : MV) (K3 : Int32 → Int32 → Int32 → Int32 → Option Int32) : Nat → Int32 → Int32 → Int32 → Int32 → Int32 → Int32 → Option Int32
 | 0, _, _, _, _, _, _ => none
 | n + 1, p1, p2, p3, p4, p5, p6 => (ld 40 (md_rings v) p1).bind fun u10 => (if u10 ≤ p6 then (K3 p1 p2 p3 (p4 + 1)) else (ld 640 (md_ends v) (((16 : Int32) * p1) + p6)).bind fun u12 => (f_M_isCrossing_l134 v K3 (f_M_isCrossing_l105 v K3 n) 64 p1 p2 p3 p4 p5 p6 u12 p5))
def f_M_isCrossing_j93 (v : MV) (K3 : Int32 → Int32 → Int32 → Int32 → Option Int32) (K26 : Int32 → Int32 → Int32 → Int32 → Int32 → Option Int32) (p1 : Int32) (p2 : Int32) (p3 : Int32) (p4 : Int32) (p5 : Int32) : Option Int32 := (K26 p1 p2 p3 p4 (p5 + 1))
def f_M_isCrossing_j68 (v : MV) (K3 : Int32 → Int32 → Int32 → Int32 → Option Int32) (K26 : Int32 → Int32 → Int32 → Int32 → Int32 → Option Int32) (p1 : Int32) (p2 : Int32) (p3 : Int32) (p4 : Int32) (p5 : Int32) (s0 : Int32) : Option Int32 := (if s0 = 0 then (f_M_isCrossing_j93 v K3 K26 p1 p2 p3 p4 p5) else (f_M_sidesMeet v p1 p4 p2 p3 p5 p2 p3).bind fun u14 => (if u14 = 0 then (f_M_isCrossing_j93 v K3 K26 p1 p2 p3 p4 p5) else rb (1 : Int32)))
def f_M_isCrossing_j67 (v : MV) (K3 : Int32 → Int32 → Int32 → Int32 → Option Int32) (K26 : Int32 → Int32 → Int32 → Int32 → Int32 → Option Int32) (p1 : Int32) (p2 : Int32) (p3 : Int32) (p4 : Int32) (p5 : Int32) : Option Int32 := (f_M_isCrossing_j68 v K3 K26 p1 p2 p3 p4 p5 (0 : Int32))
def f_M_isCrossing_l26 (v : MV) (K3 : Int32 → Int32 → Int32 → Int32 → Option Int32) : Nat → Int32 → Int32 → Int32 → Int32 → Int32 → Option Int32
 | 0, _, _, _, _, _ => none
 | n + 1, p1, p2, p3, p4, p5 => (if p3 ≤ p5 then (f_M_isCrossing_l105 v K3 64 p1 p2 p3 p4 (0 : Int32) (0 : Int32)) else (if p4 = p5 then (f_M_isCrossing_j67 v K3 (f_M_isCrossing_l26 v K3 n) p1 p2 p3 p4 p5) else (f_M_behind p4 p2 p3).bind fun u6 => (if u6 = p5 then (f_M_isCrossing_j67 v K3 (f_M_isCrossing_l26 v K3 n) p1 p2 p3 p4 p5) else (f_M_behind p5 p2 p3).bind fun u8 => (if u8 = p4 then (f_M_isCrossing_j67 v K3 (f_M_isCrossing_l26 v K3 n) p1 p2 p3 p4 p5) else (f_M_isCrossing_j68 v K3 (f_M_isCrossing_l26 v K3 n) p1 p2 p3 p4 p5 (1 : Int32))))))
def f_M_isCrossing_l3 (v : MV) : Nat → Int32 → Int32 → Int32 → Int32 → Option Int32
 | 0, _, _, _, _ => none
 | n + 1, p1, p2, p3, p4 => (if p3 ≤ p4 then rb (0 : Int32) else (f_M_foldsBack v p1 p4 p2 p3).bind fun u2 => (if u2 = 0 then (f_M_isCrossing_l26 v (f_M_isCrossing_l3 v n) 64 p1 p2 p3 p4 p2) else rb (1 : Int32)))
def f_M_isCrossing (v : MV) (x1 : Int32) (x2 : Int32) (x3 : Int32) : Option Int32 := (f_M_isCrossing_l3 v 64 x1 x2 x3 x2)
set_option maxHeartbeats 4000000 in
set_option maxRecDepth 100000 in
theorem k_M_isCrossing (l : Launch) (dC : Nat → ClassId) (dI : Nat → Nat → Nat) (cL cI : ClassId) (qm : Nat → Nat) (v : MV) (x1 : Int32) (x2 : Int32) (x3 : Int32) (r : Int32) (h : f_M_isCrossing v x1 x2 x3 = some r) : Met l yM_isCrossing wsM_isCrossing ({ frames := 5, cells := 0, slots := 0, locals := 155 }) (rd_Pc [.ref (qm 0), .int x1, .int x2, .int x3] (fun H => va_P (dC, dI) cls3 (mdW cL cI qm v) H) (dC, dI) cls3 [(cL, .long), (cI, .int)]) (vp_Si (fun z => z = r)) 0 0 (fun _ => False) := by
  refine Met.ofW (cc := cM_isCrossing) (maxL := 9) (ret := (some .boolean)) (by decide) rfl ?_
  intro p e s m args below meth c s₁ B hml hv
  obtain ⟨rfl, hPm, hK⟩ := hv
  have hx := B.exec
  have hb := B.bytes
  have hr := B.returns
  have hw : ∀ w ∈ wG, w.before ([.ref (qm 0), .int x1, .int x2, .int x3] : List Value).toArray s = true := fun w hq => atoms_spec (ws := wsM_isCrossing) B.pre w (List.mem_cons_of_mem _ hq)
  have hown : s.vm.findClass R_M = some m.cls := findClass_of_methodNamed B.named
  have hlocks := B.notSynchronized
  have hl := lv_entry ([.ref (qm 0), .int x1, .int x2, .int x3] : List Value) (n := 9) (Nat.le_of_ble_eq_true rfl)
  rw [lg_entry_eq]
  generalize (lg_sl ([.ref (qm 0), .int x1, .int x2, .int x3] : List Value) ++ List.replicate (9 - (lg_sl ([.ref (qm 0), .int x1, .int x2, .int x3] : List Value)).length) Slot.unset).toArray = ls at hl ⊢
  have hl : lv_has ls 9 [(0, .ref (qm 0)), (1, .int x1), (2, .int x2), (3, .int x3)] := hl
  have k3 : ∀ (n3 : Nat), ∀ (p1 : Int32) (p2 : Int32) (p3 : Int32) (p4 : Int32), f_M_isCrossing_l3 v n3 p1 p2 p3 p4 = some r →  ∀ (ls : Array Slot), lv_has ls 9 [(0, .ref (qm 0)), (1, .int p1), (2, .int p2), (3, .int p3), (4, .int p4)] → W p l e (headSpec wsM_isCrossing ({ frames := 5, cells := 0, slots := 0, locals := 155 })).room s m ([.ref (qm 0), .int x1, .int x2, .int x3] : List Value).toArray below meth c s.heap [] 0 0 (MQ below (vp_Si (fun z => z = r)) ([.ref (qm 0), .int x1, .int x2, .int x3] : List Value).toArray s 0 0 (fun _ => False)) (F0 m 3 ls []) := by
    intro n3
    induction n3 with
    | zero => intro p1 p2 p3 p4 h; exact absurd h (by simp [f_M_isCrossing_l3])
    | succ n3 ih3 =>
      have k105 : ∀ (n105 : Nat), ∀ (p1 : Int32) (p2 : Int32) (p3 : Int32) (p4 : Int32) (p5 : Int32) (p6 : Int32), f_M_isCrossing_l105 v (f_M_isCrossing_l3 v n3) n105 p1 p2 p3 p4 p5 p6 = some r →  ∀ (ls : Array Slot), lv_has ls 9 [(0, .ref (qm 0)), (1, .int p1), (2, .int p2), (3, .int p3), (4, .int p4), (5, .int p5), (6, .int p6)] → W p l e (headSpec wsM_isCrossing ({ frames := 5, cells := 0, slots := 0, locals := 155 })).room s m ([.ref (qm 0), .int x1, .int x2, .int x3] : List Value).toArray below meth c s.heap [] 0 0 (MQ below (vp_Si (fun z => z = r)) ([.ref (qm 0), .int x1, .int x2, .int x3] : List Value).toArray s 0 0 (fun _ => False)) (F0 m 105 ls []) := by
        intro n105
        induction n105 with
        | zero => intro p1 p2 p3 p4 p5 p6 h; exact absurd h (by simp [f_M_isCrossing_l105])
        | succ n105 ih105 =>
          have k134 : ∀ (n134 : Nat), ∀ (p1 : Int32) (p2 : Int32) (p3 : Int32) (p4 : Int32) (p5 : Int32) (p6 : Int32) (p7 : Int32) (p8 : Int32), f_M_isCrossing_l134 v (f_M_isCrossing_l3 v n3) (f_M_isCrossing_l105 v (f_M_isCrossing_l3 v n3) n105) n134 p1 p2 p3 p4 p5 p6 p7 p8 = some r →  ∀ (ls : Array Slot), lv_has ls 9 [(0, .ref (qm 0)), (1, .int p1), (2, .int p2), (3, .int p3), (4, .int p4), (5, .int p5), (6, .int p6), (7, .int p7), (8, .int p8)] → W p l e (headSpec wsM_isCrossing ({ frames := 5, cells := 0, slots := 0, locals := 155 })).room s m ([.ref (qm 0), .int x1, .int x2, .int x3] : List Value).toArray below meth c s.heap [] 0 0 (MQ below (vp_Si (fun z => z = r)) ([.ref (qm 0), .int x1, .int x2, .int x3] : List Value).toArray s 0 0 (fun _ => False)) (F0 m 134 ls []) := by
            intro n134
            induction n134 with
            | zero => intro p1 p2 p3 p4 p5 p6 p7 p8 h; exact absurd h (by simp [f_M_isCrossing_l134])
            | succ n134 ih134 =>
              intro p1 p2 p3 p4 p5 p6 p7 p8 h  ls hl
              rw [f_M_isCrossing_l134] at h
              refine lv_iload hx hb dM_isCrossing_134 (lv_at hl 8 rfl) ?_
              refine lv_iload hx hb dM_isCrossing_136 (lv_at hl 7 rfl) ?_
              refine lv_icmp_ge (tgt := 167) hx hb dM_isCrossing_138 (by decide) (fun c16 => ?_) (fun c16 => ?_)
              · have h := it_t c16 h
                refine lv_iload hx hb dM_isCrossing_167 (lv_at hl 7 rfl) ?_
                refine lv_istore (lv' := [(5, .int p7), (0, .ref (qm 0)), (1, .int p1), (2, .int p2), (3, .int p3), (4, .int p4), (6, .int p6), (7, .int p7), (8, .int p8)]) hx hb dM_isCrossing_169 hl (by decide) rfl (fun ls hl => ?_)
                refine lv_iinc (v := p6 + 1) (lv' := [(6, .int (p6 + 1)), (5, .int p7), (0, .ref (qm 0)), (1, .int p1), (2, .int p2), (3, .int p3), (4, .int p4), (7, .int p7), (8, .int p8)]) hx hb dM_isCrossing_171 hl (k := 6) rfl rfl (by decide) rfl (fun ls hl => ?_)
                refine lv_goto (tgt := 105) hx hb dM_isCrossing_174 (by decide) ?_
                exact ih105 p1 p2 p3 p4 p7 (p6 + 1) h ls (lv_sub hl [2, 3, 4, 5, 6, 1, 0] rfl)
              · have h := it_f c16 h
                refine lv_aload_n hx hb dM_isCrossing_141 rfl (lv_at hl 0 rfl) ?_
                refine lv_iload_n hx hb dM_isCrossing_142 rfl (lv_at hl 1 rfl) ?_
                refine lv_iload hx hb dM_isCrossing_143 (lv_at hl 4 rfl) ?_
                refine lv_iload_n hx hb dM_isCrossing_145 rfl (lv_at hl 2 rfl) ?_
                refine lv_iload_n hx hb dM_isCrossing_146 rfl (lv_at hl 3 rfl) ?_
                refine lv_iload hx hb dM_isCrossing_147 (lv_at hl 8 rfl) ?_
                refine lv_iload hx hb dM_isCrossing_149 (lv_at hl 5 rfl) ?_
                refine lv_iload hx hb dM_isCrossing_151 (lv_at hl 7 rfl) ?_
                obtain ⟨u17, hu17, h⟩ := ob_some h
                refine vp_callSi (va_Run.run (va_runV (As := [.int p1, .int p4, .int p2, .int p3, .int p8, .int p5, .int p7]) (rest := []) ⟨hx, hb, hml, hown, hw⟩ (k_M_sidesMeet l dC dI cL cI qm v p1 p4 p2 p3 p8 p5 p7 u17 hu17) (cwV 7 hw (gV w_584 w_586 wp_15 w_2 w_587) rfl rfl rfl (by decide +kernel) ⟨Nat.le_of_ble_eq_true rfl, Nat.le_of_ble_eq_true rfl⟩) ⟨rd_blind, va_recv hK hPm (ci := 2) (q0 := 0) rfl rfl, rd_pre hPm hK⟩ rfl rfl hl.1 rfl (lv_room (Nat.le_of_ble_eq_true rfl)) dM_isCrossing_153 ⟨Nat.le_of_ble_eq_true rfl, Nat.le_of_ble_eq_true rfl⟩)) (fun z hz => ?_)
                rw [hz]; clear hz
                refine lv_if_eq (tgt := 161) hx hb dM_isCrossing_156 (by decide) (fun c18 => ?_) (fun c18 => ?_)
                · have h := it_t c18 h
                  refine lv_iinc (v := p8 + 1) (lv' := [(8, .int (p8 + 1)), (0, .ref (qm 0)), (1, .int p1), (2, .int p2), (3, .int p3), (4, .int p4), (5, .int p5), (6, .int p6), (7, .int p7)]) hx hb dM_isCrossing_161 hl (k := 8) rfl rfl (by decide) rfl (fun ls hl => ?_)
                  refine lv_goto (tgt := 134) hx hb dM_isCrossing_164 (by decide) ?_
                  exact ih134 p1 p2 p3 p4 p5 p6 p7 (p8 + 1) h ls (lv_sub hl [1, 2, 3, 4, 5, 6, 7, 8, 0] rfl)
                · have h := it_f c18 h
                  refine lv_iconst (v := 1) hx hb dM_isCrossing_159 (by decide) ?_
                  obtain ⟨hz, hr9⟩ := rb_of h
                  exact W.zret hx hb hr hz (fun t ht hW => ⟨_, rfl, hr9, ht⟩) nil_locs dM_isCrossing_160
          intro p1 p2 p3 p4 p5 p6 h  ls hl
          rw [f_M_isCrossing_l105] at h
          refine lv_iload hx hb dM_isCrossing_105 (lv_at hl 6 rfl) ?_
          refine lv_aload_n hx hb dM_isCrossing_107 rfl (lv_at hl 0 rfl) ?_
          refine va_get (D := (dC, dI)) (ci := 2) (v := .ref (qm 7)) (C := R_M) (T := T_M) (N := 15) hx hb hw in_M hown hK hPm 0 rfl rfl 8 (by decide) (hw _ w_453) (fun _ h9 => h9) rfl dM_isCrossing_108 ?_
          refine lv_iload_n hx hb dM_isCrossing_111 rfl (lv_at hl 1 rfl) ?_
          obtain ⟨u10, hu10, h⟩ := ob_some h
          obtain ⟨hiu10, eu10⟩ := ld_of hu10
          refine va_iald hx hb hK hPm 7 1 rfl rfl hiu10 dM_isCrossing_112 ?_
          rw [eu10]
          refine lv_icmp_ge (tgt := 177) hx hb dM_isCrossing_113 (by decide) (fun c11 => ?_) (fun c11 => ?_)
          · have h := it_t c11 h
            refine lv_iinc (v := p4 + 1) (lv' := [(4, .int (p4 + 1)), (0, .ref (qm 0)), (1, .int p1), (2, .int p2), (3, .int p3), (5, .int p5), (6, .int p6)]) hx hb dM_isCrossing_177 hl (k := 4) rfl rfl (by decide) rfl (fun ls hl => ?_)
            refine lv_goto (tgt := 3) hx hb dM_isCrossing_180 (by decide) ?_
            exact ih3 p1 p2 p3 (p4 + 1) h ls (lv_sub hl [1, 2, 3, 4, 0] rfl)
          · have h := it_f c11 h
            refine lv_aload_n hx hb dM_isCrossing_116 rfl (lv_at hl 0 rfl) ?_
            refine va_get (D := (dC, dI)) (ci := 2) (v := .ref (qm 6)) (C := R_M) (T := T_M) (N := 15) hx hb hw in_M hown hK hPm 0 rfl rfl 7 (by decide) (hw _ w_452) (fun _ h9 => h9) rfl dM_isCrossing_117 ?_
            refine lv_bipush (v := 16) hx hb dM_isCrossing_120 (by decide) ?_
            refine lv_iload_n hx hb dM_isCrossing_122 rfl (lv_at hl 1 rfl) ?_
            refine lv_imul hx hb dM_isCrossing_123 ?_
            refine lv_iload hx hb dM_isCrossing_124 (lv_at hl 6 rfl) ?_
            refine lv_iadd hx hb dM_isCrossing_126 ?_
            obtain ⟨u12, hu12, h⟩ := ob_some h
            obtain ⟨hiu12, eu12⟩ := ld_of hu12
            refine va_iald hx hb hK hPm 6 1 rfl rfl hiu12 dM_isCrossing_127 ?_
            rw [eu12]
            refine lv_istore (lv' := [(7, .int u12), (0, .ref (qm 0)), (1, .int p1), (2, .int p2), (3, .int p3), (4, .int p4), (5, .int p5), (6, .int p6)]) hx hb dM_isCrossing_128 hl (by decide) rfl (fun ls hl => ?_)
            refine lv_iload hx hb dM_isCrossing_130 (lv_at hl 6 rfl) ?_
            refine lv_istore (lv' := [(8, .int p5), (7, .int u12), (0, .ref (qm 0)), (1, .int p1), (2, .int p2), (3, .int p3), (4, .int p4), (5, .int p5), (6, .int p6)]) hx hb dM_isCrossing_132 hl (by decide) rfl (fun ls hl => ?_)
            exact k134 64 p1 p2 p3 p4 p5 p6 u12 p5 h ls (lv_sub hl [2, 3, 4, 5, 6, 7, 8, 1, 0] rfl)
      have k26 : ∀ (n26 : Nat), ∀ (p1 : Int32) (p2 : Int32) (p3 : Int32) (p4 : Int32) (p5 : Int32), f_M_isCrossing_l26 v (f_M_isCrossing_l3 v n3) n26 p1 p2 p3 p4 p5 = some r →  ∀ (ls : Array Slot), lv_has ls 9 [(0, .ref (qm 0)), (1, .int p1), (2, .int p2), (3, .int p3), (4, .int p4), (5, .int p5)] → W p l e (headSpec wsM_isCrossing ({ frames := 5, cells := 0, slots := 0, locals := 155 })).room s m ([.ref (qm 0), .int x1, .int x2, .int x3] : List Value).toArray below meth c s.heap [] 0 0 (MQ below (vp_Si (fun z => z = r)) ([.ref (qm 0), .int x1, .int x2, .int x3] : List Value).toArray s 0 0 (fun _ => False)) (F0 m 26 ls []) := by
        intro n26
        induction n26 with
        | zero => intro p1 p2 p3 p4 p5 h; exact absurd h (by simp [f_M_isCrossing_l26])
        | succ n26 ih26 =>
          have k93 : ∀ (p1 : Int32) (p2 : Int32) (p3 : Int32) (p4 : Int32) (p5 : Int32), f_M_isCrossing_j93 v (f_M_isCrossing_l3 v n3) (f_M_isCrossing_l26 v (f_M_isCrossing_l3 v n3) n26) p1 p2 p3 p4 p5 = some r →  ∀ (ls : Array Slot), lv_has ls 9 [(0, .ref (qm 0)), (1, .int p1), (2, .int p2), (3, .int p3), (4, .int p4), (5, .int p5)] → W p l e (headSpec wsM_isCrossing ({ frames := 5, cells := 0, slots := 0, locals := 155 })).room s m ([.ref (qm 0), .int x1, .int x2, .int x3] : List Value).toArray below meth c s.heap [] 0 0 (MQ below (vp_Si (fun z => z = r)) ([.ref (qm 0), .int x1, .int x2, .int x3] : List Value).toArray s 0 0 (fun _ => False)) (F0 m 93 ls []) := by
            intro p1 p2 p3 p4 p5 h  ls hl
            unfold f_M_isCrossing_j93 at h
            refine lv_iinc (v := p5 + 1) (lv' := [(5, .int (p5 + 1)), (0, .ref (qm 0)), (1, .int p1), (2, .int p2), (3, .int p3), (4, .int p4)]) hx hb dM_isCrossing_93 hl (k := 5) rfl rfl (by decide) rfl (fun ls hl => ?_)
            refine lv_goto (tgt := 26) hx hb dM_isCrossing_96 (by decide) ?_
            exact ih26 p1 p2 p3 p4 (p5 + 1) h ls (lv_sub hl [1, 2, 3, 4, 5, 0] rfl)
          have k68 : ∀ (p1 : Int32) (p2 : Int32) (p3 : Int32) (p4 : Int32) (p5 : Int32) (s0 : Int32), f_M_isCrossing_j68 v (f_M_isCrossing_l3 v n3) (f_M_isCrossing_l26 v (f_M_isCrossing_l3 v n3) n26) p1 p2 p3 p4 p5 s0 = some r →  ∀ (ls : Array Slot), lv_has ls 9 [(0, .ref (qm 0)), (1, .int p1), (2, .int p2), (3, .int p3), (4, .int p4), (5, .int p5)] → W p l e (headSpec wsM_isCrossing ({ frames := 5, cells := 0, slots := 0, locals := 155 })).room s m ([.ref (qm 0), .int x1, .int x2, .int x3] : List Value).toArray below meth c s.heap [] 0 0 (MQ below (vp_Si (fun z => z = r)) ([.ref (qm 0), .int x1, .int x2, .int x3] : List Value).toArray s 0 0 (fun _ => False)) (F0 m 68 ls [.int s0]) := by
            intro p1 p2 p3 p4 p5 s0 h  ls hl
            unfold f_M_isCrossing_j68 at h
            refine lv_istore (lv' := [(6, .int s0), (0, .ref (qm 0)), (1, .int p1), (2, .int p2), (3, .int p3), (4, .int p4), (5, .int p5)]) hx hb dM_isCrossing_68 hl (by decide) rfl (fun ls hl => ?_)
            refine lv_iload hx hb dM_isCrossing_70 (lv_at hl 0 rfl) ?_
            refine lv_if_eq (tgt := 93) hx hb dM_isCrossing_72 (by decide) (fun c13 => ?_) (fun c13 => ?_)
            · have h := it_t c13 h
              exact k93 p1 p2 p3 p4 p5 h ls (lv_sub hl [1, 2, 3, 4, 5, 6] rfl)
            · have h := it_f c13 h
              refine lv_aload_n hx hb dM_isCrossing_75 rfl (lv_at hl 1 rfl) ?_
              refine lv_iload_n hx hb dM_isCrossing_76 rfl (lv_at hl 2 rfl) ?_
              refine lv_iload hx hb dM_isCrossing_77 (lv_at hl 5 rfl) ?_
              refine lv_iload_n hx hb dM_isCrossing_79 rfl (lv_at hl 3 rfl) ?_
              refine lv_iload_n hx hb dM_isCrossing_80 rfl (lv_at hl 4 rfl) ?_
              refine lv_iload hx hb dM_isCrossing_81 (lv_at hl 6 rfl) ?_
              refine lv_iload_n hx hb dM_isCrossing_83 rfl (lv_at hl 3 rfl) ?_
              refine lv_iload_n hx hb dM_isCrossing_84 rfl (lv_at hl 4 rfl) ?_
              obtain ⟨u14, hu14, h⟩ := ob_some h
              refine vp_callSi (va_Run.run (va_runV (As := [.int p1, .int p4, .int p2, .int p3, .int p5, .int p2, .int p3]) (rest := []) ⟨hx, hb, hml, hown, hw⟩ (k_M_sidesMeet l dC dI cL cI qm v p1 p4 p2 p3 p5 p2 p3 u14 hu14) (cwV 7 hw (gV w_584 w_586 wp_15 w_2 w_587) rfl rfl rfl (by decide +kernel) ⟨Nat.le_of_ble_eq_true rfl, Nat.le_of_ble_eq_true rfl⟩) ⟨rd_blind, va_recv hK hPm (ci := 2) (q0 := 0) rfl rfl, rd_pre hPm hK⟩ rfl rfl hl.1 rfl (lv_room (Nat.le_of_ble_eq_true rfl)) dM_isCrossing_85 ⟨Nat.le_of_ble_eq_true rfl, Nat.le_of_ble_eq_true rfl⟩)) (fun z hz => ?_)
              rw [hz]; clear hz
              refine lv_if_eq (tgt := 93) hx hb dM_isCrossing_88 (by decide) (fun c15 => ?_) (fun c15 => ?_)
              · have h := it_t c15 h
                exact k93 p1 p2 p3 p4 p5 h ls (lv_sub hl [1, 2, 3, 4, 5, 6] rfl)
              · have h := it_f c15 h
                refine lv_iconst (v := 1) hx hb dM_isCrossing_91 (by decide) ?_
                obtain ⟨hz, hr9⟩ := rb_of h
                exact W.zret hx hb hr hz (fun t ht hW => ⟨_, rfl, hr9, ht⟩) nil_locs dM_isCrossing_92
          have k67 : ∀ (p1 : Int32) (p2 : Int32) (p3 : Int32) (p4 : Int32) (p5 : Int32), f_M_isCrossing_j67 v (f_M_isCrossing_l3 v n3) (f_M_isCrossing_l26 v (f_M_isCrossing_l3 v n3) n26) p1 p2 p3 p4 p5 = some r →  ∀ (ls : Array Slot), lv_has ls 9 [(0, .ref (qm 0)), (1, .int p1), (2, .int p2), (3, .int p3), (4, .int p4), (5, .int p5)] → W p l e (headSpec wsM_isCrossing ({ frames := 5, cells := 0, slots := 0, locals := 155 })).room s m ([.ref (qm 0), .int x1, .int x2, .int x3] : List Value).toArray below meth c s.heap [] 0 0 (MQ below (vp_Si (fun z => z = r)) ([.ref (qm 0), .int x1, .int x2, .int x3] : List Value).toArray s 0 0 (fun _ => False)) (F0 m 67 ls []) := by
            intro p1 p2 p3 p4 p5 h  ls hl
            unfold f_M_isCrossing_j67 at h
            refine lv_iconst (v := 0) hx hb dM_isCrossing_67 (by decide) ?_
            exact k68 p1 p2 p3 p4 p5 (0 : Int32) h ls (lv_sub hl [0, 1, 2, 3, 4, 5] rfl)
          intro p1 p2 p3 p4 p5 h  ls hl
          rw [f_M_isCrossing_l26] at h
          refine lv_iload hx hb dM_isCrossing_26 (lv_at hl 5 rfl) ?_
          refine lv_iload_n hx hb dM_isCrossing_28 rfl (lv_at hl 3 rfl) ?_
          refine lv_icmp_ge (tgt := 99) hx hb dM_isCrossing_29 (by decide) (fun c4 => ?_) (fun c4 => ?_)
          · have h := it_t c4 h
            refine lv_iconst (v := 0) hx hb dM_isCrossing_99 (by decide) ?_
            refine lv_istore (lv' := [(5, .int (0 : Int32)), (0, .ref (qm 0)), (1, .int p1), (2, .int p2), (3, .int p3), (4, .int p4)]) hx hb dM_isCrossing_100 hl (by decide) rfl (fun ls hl => ?_)
            refine lv_iconst (v := 0) hx hb dM_isCrossing_102 (by decide) ?_
            refine lv_istore (lv' := [(6, .int (0 : Int32)), (5, .int (0 : Int32)), (0, .ref (qm 0)), (1, .int p1), (2, .int p2), (3, .int p3), (4, .int p4)]) hx hb dM_isCrossing_103 hl (by decide) rfl (fun ls hl => ?_)
            exact k105 64 p1 p2 p3 p4 (0 : Int32) (0 : Int32) h ls (lv_sub hl [2, 3, 4, 5, 6, 1, 0] rfl)
          · have h := it_f c4 h
            refine lv_iload hx hb dM_isCrossing_32 (lv_at hl 4 rfl) ?_
            refine lv_iload hx hb dM_isCrossing_34 (lv_at hl 5 rfl) ?_
            refine lv_icmp_eq (tgt := 67) hx hb dM_isCrossing_36 (by decide) (fun c5 => ?_) (fun c5 => ?_)
            · have h := it_t c5 h
              exact k67 p1 p2 p3 p4 p5 h ls (lv_sub hl [0, 1, 2, 3, 4, 5] rfl)
            · have h := it_f c5 h
              refine lv_iload hx hb dM_isCrossing_39 (lv_at hl 4 rfl) ?_
              refine lv_iload_n hx hb dM_isCrossing_41 rfl (lv_at hl 2 rfl) ?_
              refine lv_iload_n hx hb dM_isCrossing_42 rfl (lv_at hl 3 rfl) ?_
              obtain ⟨u6, hu6, h⟩ := ob_some h
              refine vp_callSi (va_Run.run (va_runS (As := [.int p4, .int p2, .int p3]) (rest := []) ⟨hx, hb, hml, hown, hw⟩ (k_M_behind l dC dI cL cI p4 p2 p3 u6 hu6) (va_cwS 3 hw (gS w_575 w_576 w_2 w_577) rfl rfl rfl (by decide +kernel) ⟨Nat.le_of_ble_eq_true rfl, Nat.le_of_ble_eq_true rfl⟩) ⟨rd_blind, rd_pre trivial hK⟩ rfl rfl hl.1 rfl (lv_room (Nat.le_of_ble_eq_true rfl)) dM_isCrossing_43 ⟨Nat.le_of_ble_eq_true rfl, Nat.le_of_ble_eq_true rfl⟩)) (fun z hz => ?_)
              rw [hz]; clear hz
              refine lv_iload hx hb dM_isCrossing_46 (lv_at hl 5 rfl) ?_
              refine lv_icmp_eq (tgt := 67) hx hb dM_isCrossing_48 (by decide) (fun c7 => ?_) (fun c7 => ?_)
              · have h := it_t c7 h
                exact k67 p1 p2 p3 p4 p5 h ls (lv_sub hl [0, 1, 2, 3, 4, 5] rfl)
              · have h := it_f c7 h
                refine lv_iload hx hb dM_isCrossing_51 (lv_at hl 5 rfl) ?_
                refine lv_iload_n hx hb dM_isCrossing_53 rfl (lv_at hl 2 rfl) ?_
                refine lv_iload_n hx hb dM_isCrossing_54 rfl (lv_at hl 3 rfl) ?_
                obtain ⟨u8, hu8, h⟩ := ob_some h
                refine vp_callSi (va_Run.run (va_runS (As := [.int p5, .int p2, .int p3]) (rest := []) ⟨hx, hb, hml, hown, hw⟩ (k_M_behind l dC dI cL cI p5 p2 p3 u8 hu8) (va_cwS 3 hw (gS w_575 w_576 w_2 w_577) rfl rfl rfl (by decide +kernel) ⟨Nat.le_of_ble_eq_true rfl, Nat.le_of_ble_eq_true rfl⟩) ⟨rd_blind, rd_pre trivial hK⟩ rfl rfl hl.1 rfl (lv_room (Nat.le_of_ble_eq_true rfl)) dM_isCrossing_55 ⟨Nat.le_of_ble_eq_true rfl, Nat.le_of_ble_eq_true rfl⟩)) (fun z hz => ?_)
                rw [hz]; clear hz
                refine lv_iload hx hb dM_isCrossing_58 (lv_at hl 4 rfl) ?_
                refine lv_icmp_eq (tgt := 67) hx hb dM_isCrossing_60 (by decide) (fun c9 => ?_) (fun c9 => ?_)
                · have h := it_t c9 h
                  exact k67 p1 p2 p3 p4 p5 h ls (lv_sub hl [0, 1, 2, 3, 4, 5] rfl)
                · have h := it_f c9 h
                  refine lv_iconst (v := 1) hx hb dM_isCrossing_63 (by decide) ?_
                  refine lv_goto (tgt := 68) hx hb dM_isCrossing_64 (by decide) ?_
                  exact k68 p1 p2 p3 p4 p5 (1 : Int32) h ls (lv_sub hl [0, 1, 2, 3, 4, 5] rfl)
      intro p1 p2 p3 p4 h  ls hl
      rw [f_M_isCrossing_l3] at h
      refine lv_iload hx hb dM_isCrossing_3 (lv_at hl 4 rfl) ?_
      refine lv_iload_n hx hb dM_isCrossing_5 rfl (lv_at hl 3 rfl) ?_
      refine lv_icmp_ge (tgt := 183) hx hb dM_isCrossing_6 (by decide) (fun c1 => ?_) (fun c1 => ?_)
      · have h := it_t c1 h
        refine lv_iconst (v := 0) hx hb dM_isCrossing_183 (by decide) ?_
        obtain ⟨hz, hr9⟩ := rb_of h
        exact W.zret hx hb hr hz (fun t ht hW => ⟨_, rfl, hr9, ht⟩) nil_locs dM_isCrossing_184
      · have h := it_f c1 h
        refine lv_aload_n hx hb dM_isCrossing_9 rfl (lv_at hl 0 rfl) ?_
        refine lv_iload_n hx hb dM_isCrossing_10 rfl (lv_at hl 1 rfl) ?_
        refine lv_iload hx hb dM_isCrossing_11 (lv_at hl 4 rfl) ?_
        refine lv_iload_n hx hb dM_isCrossing_13 rfl (lv_at hl 2 rfl) ?_
        refine lv_iload_n hx hb dM_isCrossing_14 rfl (lv_at hl 3 rfl) ?_
        obtain ⟨u2, hu2, h⟩ := ob_some h
        refine vp_callSi (va_Run.run (va_runV (As := [.int p1, .int p4, .int p2, .int p3]) (rest := []) ⟨hx, hb, hml, hown, hw⟩ (k_M_foldsBack l dC dI cL cI qm v p1 p4 p2 p3 u2 hu2) (cwV 4 hw (gV w_571 w_573 wp_14 w_2 w_574) rfl rfl rfl (by decide +kernel) ⟨Nat.le_of_ble_eq_true rfl, Nat.le_of_ble_eq_true rfl⟩) ⟨rd_blind, va_recv hK hPm (ci := 2) (q0 := 0) rfl rfl, rd_pre hPm hK⟩ rfl rfl hl.1 rfl (lv_room (Nat.le_of_ble_eq_true rfl)) dM_isCrossing_15 ⟨Nat.le_of_ble_eq_true rfl, Nat.le_of_ble_eq_true rfl⟩)) (fun z hz => ?_)
        rw [hz]; clear hz
        refine lv_if_eq (tgt := 23) hx hb dM_isCrossing_18 (by decide) (fun c3 => ?_) (fun c3 => ?_)
        · have h := it_t c3 h
          refine lv_iload_n hx hb dM_isCrossing_23 rfl (lv_at hl 2 rfl) ?_
          refine lv_istore (lv' := [(5, .int p2), (0, .ref (qm 0)), (1, .int p1), (2, .int p2), (3, .int p3), (4, .int p4)]) hx hb dM_isCrossing_24 hl (by decide) rfl (fun ls hl => ?_)
          exact k26 64 p1 p2 p3 p4 p2 h ls (lv_sub hl [1, 2, 3, 4, 5, 0] rfl)
        · have h := it_f c3 h
          refine lv_iconst (v := 1) hx hb dM_isCrossing_21 (by decide) ?_
          obtain ⟨hz, hr9⟩ := rb_of h
          exact W.zret hx hb hr hz (fun t ht hW => ⟨_, rfl, hr9, ht⟩) nil_locs dM_isCrossing_22
  unfold f_M_isCrossing at h
  refine lv_iload_n hx hb dM_isCrossing_0 rfl (lv_at hl 2 rfl) ?_
  refine lv_istore (lv' := [(4, .int x2), (0, .ref (qm 0)), (1, .int x1), (2, .int x2), (3, .int x3)]) hx hb dM_isCrossing_1 hl (by decide) rfl (fun ls hl => ?_)
  exact k3 64 x1 x2 x3 x2 h ls (lv_sub hl [1, 2, 3, 4, 0] rfl)
theorem dM_hasArea_0 : decode cM_hasArea 0 = .ok (.aload_n 0, 1) := by decide +kernel
theorem dM_hasArea_1 : decode cM_hasArea 1 = .ok (.getfield 7, 3) := by decide +kernel
theorem dM_hasArea_4 : decode cM_hasArea 4 = .ok (.iload_n 1, 1) := by decide +kernel
theorem dM_hasArea_5 : decode cM_hasArea 5 = .ok (.iaload, 1) := by decide +kernel
theorem dM_hasArea_6 : decode cM_hasArea 6 = .ok (.iconst 2, 1) := by decide +kernel
theorem dM_hasArea_7 : decode cM_hasArea 7 = .ok (.if_icmp .eq 45, 3) := by decide +kernel
theorem dM_hasArea_10 : decode cM_hasArea 10 = .ok (.aload_n 0, 1) := by decide +kernel
theorem dM_hasArea_11 : decode cM_hasArea 11 = .ok (.getfield 7, 3) := by decide +kernel
theorem dM_hasArea_14 : decode cM_hasArea 14 = .ok (.iload_n 1, 1) := by decide +kernel
theorem dM_hasArea_15 : decode cM_hasArea 15 = .ok (.iaload, 1) := by decide +kernel
theorem dM_hasArea_16 : decode cM_hasArea 16 = .ok (.iconst 1, 1) := by decide +kernel
theorem dM_hasArea_17 : decode cM_hasArea 17 = .ok (.if_icmp .ne 39, 3) := by decide +kernel
theorem dM_hasArea_20 : decode cM_hasArea 20 = .ok (.aload_n 0, 1) := by decide +kernel
theorem dM_hasArea_21 : decode cM_hasArea 21 = .ok (.iload_n 1, 1) := by decide +kernel
theorem dM_hasArea_22 : decode cM_hasArea 22 = .ok (.iconst 0, 1) := by decide +kernel
theorem dM_hasArea_23 : decode cM_hasArea 23 = .ok (.invokevirtual 111, 3) := by decide +kernel
theorem dM_hasArea_26 : decode cM_hasArea 26 = .ok (.aload_n 0, 1) := by decide +kernel
theorem dM_hasArea_27 : decode cM_hasArea 27 = .ok (.iload_n 1, 1) := by decide +kernel
theorem dM_hasArea_28 : decode cM_hasArea 28 = .ok (.iconst 1, 1) := by decide +kernel
theorem dM_hasArea_29 : decode cM_hasArea 29 = .ok (.invokevirtual 111, 3) := by decide +kernel
theorem dM_hasArea_32 : decode cM_hasArea 32 = .ok (.lcmp, 1) := by decide +kernel
theorem dM_hasArea_33 : decode cM_hasArea 33 = .ok (.ifCond .ge 23, 3) := by decide +kernel
theorem dM_hasArea_36 : decode cM_hasArea 36 = .ok (.aload_n 0, 1) := by decide +kernel
theorem dM_hasArea_37 : decode cM_hasArea 37 = .ok (.iload_n 1, 1) := by decide +kernel
theorem dM_hasArea_38 : decode cM_hasArea 38 = .ok (.iconst 0, 1) := by decide +kernel
theorem dM_hasArea_39 : decode cM_hasArea 39 = .ok (.invokevirtual 115, 3) := by decide +kernel
theorem dM_hasArea_42 : decode cM_hasArea 42 = .ok (.aload_n 0, 1) := by decide +kernel
theorem dM_hasArea_43 : decode cM_hasArea 43 = .ok (.iload_n 1, 1) := by decide +kernel
theorem dM_hasArea_44 : decode cM_hasArea 44 = .ok (.iconst 1, 1) := by decide +kernel
theorem dM_hasArea_45 : decode cM_hasArea 45 = .ok (.invokevirtual 115, 3) := by decide +kernel
theorem dM_hasArea_48 : decode cM_hasArea 48 = .ok (.lcmp, 1) := by decide +kernel
theorem dM_hasArea_49 : decode cM_hasArea 49 = .ok (.ifCond .ge 7, 3) := by decide +kernel
theorem dM_hasArea_52 : decode cM_hasArea 52 = .ok (.iconst 1, 1) := by decide +kernel
theorem dM_hasArea_53 : decode cM_hasArea 53 = .ok (.goto 4, 3) := by decide +kernel
theorem dM_hasArea_56 : decode cM_hasArea 56 = .ok (.iconst 0, 1) := by decide +kernel
theorem dM_hasArea_57 : decode cM_hasArea 57 = .ok (.ireturn, 1) := by decide +kernel
def f_M_hasArea_j57 (v : MV) (s0 : Int32) : Option Int32 := rb s0
def f_M_hasArea_j56 (v : MV) : Option Int32 := (f_M_hasArea_j57 v (0 : Int32))
def f_M_hasArea_j52 (v : MV) : Option Int32 := (f_M_hasArea_j57 v (1 : Int32))
def f_M_hasArea (v : MV) (x1 : Int32) : Option Int32 := (ld 40 (md_kinds v) x1).bind fun u1 => (if u1 = (2 : Int32) then (f_M_hasArea_j52 v) else (ld 40 (md_kinds v) x1).bind fun u3 => (if u3 = (1 : Int32) then (f_M_x v x1 (0 : Int32)).bind fun u5 => (f_M_x v x1 (1 : Int32)).bind fun u6 => (if 0 ≤ (lg_cmp u5 u6) then (f_M_hasArea_j56 v) else (f_M_y v x1 (0 : Int32)).bind fun u8 => (f_M_y v x1 (1 : Int32)).bind fun u9 => (if 0 ≤ (lg_cmp u8 u9) then (f_M_hasArea_j56 v) else (f_M_hasArea_j52 v))) else (f_M_hasArea_j56 v)))
set_option maxHeartbeats 4000000 in
set_option maxRecDepth 100000 in
theorem k_M_hasArea (l : Launch) (dC : Nat → ClassId) (dI : Nat → Nat → Nat) (cL cI : ClassId) (qm : Nat → Nat) (v : MV) (x1 : Int32) (r : Int32) (h : f_M_hasArea v x1 = some r) : Met l yM_hasArea wsM_hasArea ({ frames := 1, cells := 0, slots := 0, locals := 22 }) (rd_Pc [.ref (qm 0), .int x1] (fun H => va_P (dC, dI) cls3 (mdW cL cI qm v) H) (dC, dI) cls3 [(cL, .long), (cI, .int)]) (vp_Si (fun z => z = r)) 0 0 (fun _ => False) := by
  refine Met.ofW (cc := cM_hasArea) (maxL := 2) (ret := (some .boolean)) (by decide) rfl ?_
  intro p e s m args below meth c s₁ B hml hv
  obtain ⟨rfl, hPm, hK⟩ := hv
  have hx := B.exec
  have hb := B.bytes
  have hr := B.returns
  have hw : ∀ w ∈ wG, w.before ([.ref (qm 0), .int x1] : List Value).toArray s = true := fun w hq => atoms_spec (ws := wsM_hasArea) B.pre w (List.mem_cons_of_mem _ hq)
  have hown : s.vm.findClass R_M = some m.cls := findClass_of_methodNamed B.named
  have hlocks := B.notSynchronized
  have hl := lv_entry ([.ref (qm 0), .int x1] : List Value) (n := 2) (Nat.le_of_ble_eq_true rfl)
  rw [lg_entry_eq]
  generalize (lg_sl ([.ref (qm 0), .int x1] : List Value) ++ List.replicate (2 - (lg_sl ([.ref (qm 0), .int x1] : List Value)).length) Slot.unset).toArray = ls at hl ⊢
  have hl : lv_has ls 2 [(0, .ref (qm 0)), (1, .int x1)] := hl
  have k57 : ∀ (s0 : Int32), f_M_hasArea_j57 v s0 = some r →  ∀ (ls : Array Slot), lv_has ls 2 [] → W p l e (headSpec wsM_hasArea ({ frames := 1, cells := 0, slots := 0, locals := 22 })).room s m ([.ref (qm 0), .int x1] : List Value).toArray below meth c s.heap [] 0 0 (MQ below (vp_Si (fun z => z = r)) ([.ref (qm 0), .int x1] : List Value).toArray s 0 0 (fun _ => False)) (F0 m 57 ls [.int s0]) := by
    intro s0 h  ls hl
    unfold f_M_hasArea_j57 at h
    obtain ⟨hz, hr9⟩ := rb_of h
    exact W.zret hx hb hr hz (fun t ht hW => ⟨_, rfl, hr9, ht⟩) nil_locs dM_hasArea_57
  have k56 : f_M_hasArea_j56 v = some r →  ∀ (ls : Array Slot), lv_has ls 2 [] → W p l e (headSpec wsM_hasArea ({ frames := 1, cells := 0, slots := 0, locals := 22 })).room s m ([.ref (qm 0), .int x1] : List Value).toArray below meth c s.heap [] 0 0 (MQ below (vp_Si (fun z => z = r)) ([.ref (qm 0), .int x1] : List Value).toArray s 0 0 (fun _ => False)) (F0 m 56 ls []) := by
    intro  h  ls hl
    unfold f_M_hasArea_j56 at h
    refine lv_iconst (v := 0) hx hb dM_hasArea_56 (by decide) ?_
    exact k57 (0 : Int32) h ls (lv_sub hl [] rfl)
  have k52 : f_M_hasArea_j52 v = some r →  ∀ (ls : Array Slot), lv_has ls 2 [] → W p l e (headSpec wsM_hasArea ({ frames := 1, cells := 0, slots := 0, locals := 22 })).room s m ([.ref (qm 0), .int x1] : List Value).toArray below meth c s.heap [] 0 0 (MQ below (vp_Si (fun z => z = r)) ([.ref (qm 0), .int x1] : List Value).toArray s 0 0 (fun _ => False)) (F0 m 52 ls []) := by
    intro  h  ls hl
    unfold f_M_hasArea_j52 at h
    refine lv_iconst (v := 1) hx hb dM_hasArea_52 (by decide) ?_
    refine lv_goto (tgt := 57) hx hb dM_hasArea_53 (by decide) ?_
    exact k57 (1 : Int32) h ls (lv_sub hl [] rfl)
  unfold f_M_hasArea at h
  refine lv_aload_n hx hb dM_hasArea_0 rfl (lv_at hl 0 rfl) ?_
  refine va_get (D := (dC, dI)) (ci := 2) (v := .ref (qm 1)) (C := R_M) (T := T_M) (N := 15) hx hb hw in_M hown hK hPm 0 rfl rfl 2 (by decide) (hw _ w_447) (fun _ h9 => h9) rfl dM_hasArea_1 ?_
  refine lv_iload_n hx hb dM_hasArea_4 rfl (lv_at hl 1 rfl) ?_
  obtain ⟨u1, hu1, h⟩ := ob_some h
  obtain ⟨hiu1, eu1⟩ := ld_of hu1
  refine va_iald hx hb hK hPm 1 1 rfl rfl hiu1 dM_hasArea_5 ?_
  rw [eu1]
  refine lv_iconst (v := 2) hx hb dM_hasArea_6 (by decide) ?_
  refine lv_icmp_eq (tgt := 52) hx hb dM_hasArea_7 (by decide) (fun c2 => ?_) (fun c2 => ?_)
  · have h := it_t c2 h
    exact k52 h ls (lv_sub hl [] rfl)
  · have h := it_f c2 h
    refine lv_aload_n hx hb dM_hasArea_10 rfl (lv_at hl 0 rfl) ?_
    refine va_get (D := (dC, dI)) (ci := 2) (v := .ref (qm 1)) (C := R_M) (T := T_M) (N := 15) hx hb hw in_M hown hK hPm 0 rfl rfl 2 (by decide) (hw _ w_447) (fun _ h9 => h9) rfl dM_hasArea_11 ?_
    refine lv_iload_n hx hb dM_hasArea_14 rfl (lv_at hl 1 rfl) ?_
    obtain ⟨u3, hu3, h⟩ := ob_some h
    obtain ⟨hiu3, eu3⟩ := ld_of hu3
    refine va_iald hx hb hK hPm 1 1 rfl rfl hiu3 dM_hasArea_15 ?_
    rw [eu3]
    refine lv_iconst (v := 1) hx hb dM_hasArea_16 (by decide) ?_
    refine lv_icmp_ne (tgt := 56) hx hb dM_hasArea_17 (by decide) (fun c4 => ?_) (fun c4 => ?_)
    · have h := it_f c4 h
      exact k56 h ls (lv_sub hl [] rfl)
    · have h := it_t c4 h
      refine lv_aload_n hx hb dM_hasArea_20 rfl (lv_at hl 0 rfl) ?_
      refine lv_iload_n hx hb dM_hasArea_21 rfl (lv_at hl 1 rfl) ?_
      refine lv_iconst (v := 0) hx hb dM_hasArea_22 (by decide) ?_
      obtain ⟨u5, hu5, h⟩ := ob_some h
      refine vp_callSl (va_Run.run (va_runV (As := [.int x1, .int (0 : Int32)]) (rest := []) ⟨hx, hb, hml, hown, hw⟩ (k_M_x l dC dI cL cI qm v x1 (0 : Int32) u5 hu5) (cwV 2 hw (gV w_550 w_552 wp_11 w_2 w_553) rfl rfl rfl (by decide +kernel) ⟨Nat.le_of_ble_eq_true rfl, Nat.le_of_ble_eq_true rfl⟩) ⟨rd_blind, va_recv hK hPm (ci := 2) (q0 := 0) rfl rfl, rd_pre hPm hK⟩ rfl rfl hl.1 rfl (lv_room (Nat.le_of_ble_eq_true rfl)) dM_hasArea_23 ⟨Nat.le_of_ble_eq_true rfl, Nat.le_of_ble_eq_true rfl⟩)) (fun z hz => ?_)
      rw [hz]; clear hz
      refine lv_aload_n hx hb dM_hasArea_26 rfl (lv_at hl 0 rfl) ?_
      refine lv_iload_n hx hb dM_hasArea_27 rfl (lv_at hl 1 rfl) ?_
      refine lv_iconst (v := 1) hx hb dM_hasArea_28 (by decide) ?_
      obtain ⟨u6, hu6, h⟩ := ob_some h
      refine vp_callSl (va_Run.run (va_runV (As := [.int x1, .int (1 : Int32)]) (rest := [.long u5]) ⟨hx, hb, hml, hown, hw⟩ (k_M_x l dC dI cL cI qm v x1 (1 : Int32) u6 hu6) (cwV 2 hw (gV w_550 w_552 wp_11 w_2 w_553) rfl rfl rfl (by decide +kernel) ⟨Nat.le_of_ble_eq_true rfl, Nat.le_of_ble_eq_true rfl⟩) ⟨rd_blind, va_recv hK hPm (ci := 2) (q0 := 0) rfl rfl, rd_pre hPm hK⟩ rfl rfl hl.1 rfl (lv_room (Nat.le_of_ble_eq_true rfl)) dM_hasArea_29 ⟨Nat.le_of_ble_eq_true rfl, Nat.le_of_ble_eq_true rfl⟩)) (fun z hz => ?_)
      rw [hz]; clear hz
      refine W.lcmp hx hb dM_hasArea_32 ?_
      refine lv_if_ge (tgt := 56) hx hb dM_hasArea_33 (by decide) (fun c7 => ?_) (fun c7 => ?_)
      · have h := it_t c7 h
        exact k56 h ls (lv_sub hl [] rfl)
      · have h := it_f c7 h
        refine lv_aload_n hx hb dM_hasArea_36 rfl (lv_at hl 0 rfl) ?_
        refine lv_iload_n hx hb dM_hasArea_37 rfl (lv_at hl 1 rfl) ?_
        refine lv_iconst (v := 0) hx hb dM_hasArea_38 (by decide) ?_
        obtain ⟨u8, hu8, h⟩ := ob_some h
        refine vp_callSl (va_Run.run (va_runV (As := [.int x1, .int (0 : Int32)]) (rest := []) ⟨hx, hb, hml, hown, hw⟩ (k_M_y l dC dI cL cI qm v x1 (0 : Int32) u8 hu8) (cwV 2 hw (gV w_554 w_556 wp_12 w_2 w_557) rfl rfl rfl (by decide +kernel) ⟨Nat.le_of_ble_eq_true rfl, Nat.le_of_ble_eq_true rfl⟩) ⟨rd_blind, va_recv hK hPm (ci := 2) (q0 := 0) rfl rfl, rd_pre hPm hK⟩ rfl rfl hl.1 rfl (lv_room (Nat.le_of_ble_eq_true rfl)) dM_hasArea_39 ⟨Nat.le_of_ble_eq_true rfl, Nat.le_of_ble_eq_true rfl⟩)) (fun z hz => ?_)
        rw [hz]; clear hz
        refine lv_aload_n hx hb dM_hasArea_42 rfl (lv_at hl 0 rfl) ?_
        refine lv_iload_n hx hb dM_hasArea_43 rfl (lv_at hl 1 rfl) ?_
        refine lv_iconst (v := 1) hx hb dM_hasArea_44 (by decide) ?_
        obtain ⟨u9, hu9, h⟩ := ob_some h
        refine vp_callSl (va_Run.run (va_runV (As := [.int x1, .int (1 : Int32)]) (rest := [.long u8]) ⟨hx, hb, hml, hown, hw⟩ (k_M_y l dC dI cL cI qm v x1 (1 : Int32) u9 hu9) (cwV 2 hw (gV w_554 w_556 wp_12 w_2 w_557) rfl rfl rfl (by decide +kernel) ⟨Nat.le_of_ble_eq_true rfl, Nat.le_of_ble_eq_true rfl⟩) ⟨rd_blind, va_recv hK hPm (ci := 2) (q0 := 0) rfl rfl, rd_pre hPm hK⟩ rfl rfl hl.1 rfl (lv_room (Nat.le_of_ble_eq_true rfl)) dM_hasArea_45 ⟨Nat.le_of_ble_eq_true rfl, Nat.le_of_ble_eq_true rfl⟩)) (fun z hz => ?_)
        rw [hz]; clear hz
        refine W.lcmp hx hb dM_hasArea_48 ?_
        refine lv_if_ge (tgt := 56) hx hb dM_hasArea_49 (by decide) (fun c10 => ?_) (fun c10 => ?_)
        · have h := it_t c10 h
          exact k56 h ls (lv_sub hl [] rfl)
        · have h := it_f c10 h
          exact k52 h ls (lv_sub hl [] rfl)
theorem dM_isInCore_0 : decode cM_isInCore 0 = .ok (.iconst 0, 1) := by decide +kernel
theorem dM_isInCore_1 : decode cM_isInCore 1 = .ok (.istore 7, 2) := by decide +kernel
theorem dM_isInCore_3 : decode cM_isInCore 3 = .ok (.bipush 48, 2) := by decide +kernel
theorem dM_isInCore_5 : decode cM_isInCore 5 = .ok (.iload_n 1, 1) := by decide +kernel
theorem dM_isInCore_6 : decode cM_isInCore 6 = .ok (.imul, 1) := by decide +kernel
theorem dM_isInCore_7 : decode cM_isInCore 7 = .ok (.istore 8, 2) := by decide +kernel
theorem dM_isInCore_9 : decode cM_isInCore 9 = .ok (.iload 8, 2) := by decide +kernel
theorem dM_isInCore_11 : decode cM_isInCore 11 = .ok (.bipush 48, 2) := by decide +kernel
theorem dM_isInCore_13 : decode cM_isInCore 13 = .ok (.iload_n 1, 1) := by decide +kernel
theorem dM_isInCore_14 : decode cM_isInCore 14 = .ok (.imul, 1) := by decide +kernel
theorem dM_isInCore_15 : decode cM_isInCore 15 = .ok (.aload_n 0, 1) := by decide +kernel
theorem dM_isInCore_16 : decode cM_isInCore 16 = .ok (.getfield 44, 3) := by decide +kernel
theorem dM_isInCore_19 : decode cM_isInCore 19 = .ok (.iload_n 1, 1) := by decide +kernel
theorem dM_isInCore_20 : decode cM_isInCore 20 = .ok (.iaload, 1) := by decide +kernel
theorem dM_isInCore_21 : decode cM_isInCore 21 = .ok (.iadd, 1) := by decide +kernel
theorem dM_isInCore_22 : decode cM_isInCore 22 = .ok (.if_icmp .ge 171, 3) := by decide +kernel
theorem dM_isInCore_25 : decode cM_isInCore 25 = .ok (.lload_n 3, 1) := by decide +kernel
theorem dM_isInCore_26 : decode cM_isInCore 26 = .ok (.lload 5, 2) := by decide +kernel
theorem dM_isInCore_28 : decode cM_isInCore 28 = .ok (.aload_n 0, 1) := by decide +kernel
theorem dM_isInCore_29 : decode cM_isInCore 29 = .ok (.getfield 32, 3) := by decide +kernel
theorem dM_isInCore_32 : decode cM_isInCore 32 = .ok (.iload 8, 2) := by decide +kernel
theorem dM_isInCore_34 : decode cM_isInCore 34 = .ok (.laload, 1) := by decide +kernel
theorem dM_isInCore_35 : decode cM_isInCore 35 = .ok (.aload_n 0, 1) := by decide +kernel
theorem dM_isInCore_36 : decode cM_isInCore 36 = .ok (.getfield 35, 3) := by decide +kernel
theorem dM_isInCore_39 : decode cM_isInCore 39 = .ok (.iload 8, 2) := by decide +kernel
theorem dM_isInCore_41 : decode cM_isInCore 41 = .ok (.laload, 1) := by decide +kernel
theorem dM_isInCore_42 : decode cM_isInCore 42 = .ok (.aload_n 0, 1) := by decide +kernel
theorem dM_isInCore_43 : decode cM_isInCore 43 = .ok (.getfield 38, 3) := by decide +kernel
theorem dM_isInCore_46 : decode cM_isInCore 46 = .ok (.iload 8, 2) := by decide +kernel
theorem dM_isInCore_48 : decode cM_isInCore 48 = .ok (.laload, 1) := by decide +kernel
theorem dM_isInCore_49 : decode cM_isInCore 49 = .ok (.aload_n 0, 1) := by decide +kernel
theorem dM_isInCore_50 : decode cM_isInCore 50 = .ok (.getfield 41, 3) := by decide +kernel
theorem dM_isInCore_53 : decode cM_isInCore 53 = .ok (.iload 8, 2) := by decide +kernel
theorem dM_isInCore_55 : decode cM_isInCore 55 = .ok (.laload, 1) := by decide +kernel
theorem dM_isInCore_56 : decode cM_isInCore 56 = .ok (.invokestatic 107, 3) := by decide +kernel
theorem dM_isInCore_59 : decode cM_isInCore 59 = .ok (.ifCond .eq 5, 3) := by decide +kernel
theorem dM_isInCore_62 : decode cM_isInCore 62 = .ok (.iconst 1, 1) := by decide +kernel
theorem dM_isInCore_63 : decode cM_isInCore 63 = .ok (.ireturn, 1) := by decide +kernel
theorem dM_isInCore_64 : decode cM_isInCore 64 = .ok (.aload_n 0, 1) := by decide +kernel
theorem dM_isInCore_65 : decode cM_isInCore 65 = .ok (.getfield 35, 3) := by decide +kernel
theorem dM_isInCore_68 : decode cM_isInCore 68 = .ok (.iload 8, 2) := by decide +kernel
theorem dM_isInCore_70 : decode cM_isInCore 70 = .ok (.laload, 1) := by decide +kernel
theorem dM_isInCore_71 : decode cM_isInCore 71 = .ok (.lload 5, 2) := by decide +kernel
theorem dM_isInCore_73 : decode cM_isInCore 73 = .ok (.lcmp, 1) := by decide +kernel
theorem dM_isInCore_74 : decode cM_isInCore 74 = .ok (.ifCond .le 7, 3) := by decide +kernel
theorem dM_isInCore_77 : decode cM_isInCore 77 = .ok (.iconst 1, 1) := by decide +kernel
theorem dM_isInCore_78 : decode cM_isInCore 78 = .ok (.goto 4, 3) := by decide +kernel
theorem dM_isInCore_81 : decode cM_isInCore 81 = .ok (.iconst 0, 1) := by decide +kernel
theorem dM_isInCore_82 : decode cM_isInCore 82 = .ok (.aload_n 0, 1) := by decide +kernel
theorem dM_isInCore_83 : decode cM_isInCore 83 = .ok (.getfield 41, 3) := by decide +kernel
theorem dM_isInCore_86 : decode cM_isInCore 86 = .ok (.iload 8, 2) := by decide +kernel
theorem dM_isInCore_88 : decode cM_isInCore 88 = .ok (.laload, 1) := by decide +kernel
theorem dM_isInCore_89 : decode cM_isInCore 89 = .ok (.lload 5, 2) := by decide +kernel
theorem dM_isInCore_91 : decode cM_isInCore 91 = .ok (.lcmp, 1) := by decide +kernel
theorem dM_isInCore_92 : decode cM_isInCore 92 = .ok (.ifCond .le 7, 3) := by decide +kernel
theorem dM_isInCore_95 : decode cM_isInCore 95 = .ok (.iconst 1, 1) := by decide +kernel
theorem dM_isInCore_96 : decode cM_isInCore 96 = .ok (.goto 4, 3) := by decide +kernel
theorem dM_isInCore_99 : decode cM_isInCore 99 = .ok (.iconst 0, 1) := by decide +kernel
theorem dM_isInCore_100 : decode cM_isInCore 100 = .ok (.if_icmp .eq 87, 3) := by decide +kernel
theorem dM_isInCore_103 : decode cM_isInCore 103 = .ok (.aload_n 0, 1) := by decide +kernel
theorem dM_isInCore_104 : decode cM_isInCore 104 = .ok (.getfield 32, 3) := by decide +kernel
theorem dM_isInCore_107 : decode cM_isInCore 107 = .ok (.iload 8, 2) := by decide +kernel
theorem dM_isInCore_109 : decode cM_isInCore 109 = .ok (.laload, 1) := by decide +kernel
theorem dM_isInCore_110 : decode cM_isInCore 110 = .ok (.aload_n 0, 1) := by decide +kernel
theorem dM_isInCore_111 : decode cM_isInCore 111 = .ok (.getfield 35, 3) := by decide +kernel
theorem dM_isInCore_114 : decode cM_isInCore 114 = .ok (.iload 8, 2) := by decide +kernel
theorem dM_isInCore_116 : decode cM_isInCore 116 = .ok (.laload, 1) := by decide +kernel
theorem dM_isInCore_117 : decode cM_isInCore 117 = .ok (.aload_n 0, 1) := by decide +kernel
theorem dM_isInCore_118 : decode cM_isInCore 118 = .ok (.getfield 38, 3) := by decide +kernel
theorem dM_isInCore_121 : decode cM_isInCore 121 = .ok (.iload 8, 2) := by decide +kernel
theorem dM_isInCore_123 : decode cM_isInCore 123 = .ok (.laload, 1) := by decide +kernel
theorem dM_isInCore_124 : decode cM_isInCore 124 = .ok (.aload_n 0, 1) := by decide +kernel
theorem dM_isInCore_125 : decode cM_isInCore 125 = .ok (.getfield 41, 3) := by decide +kernel
theorem dM_isInCore_128 : decode cM_isInCore 128 = .ok (.iload 8, 2) := by decide +kernel
theorem dM_isInCore_130 : decode cM_isInCore 130 = .ok (.laload, 1) := by decide +kernel
theorem dM_isInCore_131 : decode cM_isInCore 131 = .ok (.lload_n 3, 1) := by decide +kernel
theorem dM_isInCore_132 : decode cM_isInCore 132 = .ok (.lload 5, 2) := by decide +kernel
theorem dM_isInCore_134 : decode cM_isInCore 134 = .ok (.invokestatic 103, 3) := by decide +kernel
theorem dM_isInCore_137 : decode cM_isInCore 137 = .ok (.ifCond .le 7, 3) := by decide +kernel
theorem dM_isInCore_140 : decode cM_isInCore 140 = .ok (.iconst 1, 1) := by decide +kernel
theorem dM_isInCore_141 : decode cM_isInCore 141 = .ok (.goto 4, 3) := by decide +kernel
theorem dM_isInCore_144 : decode cM_isInCore 144 = .ok (.iconst 0, 1) := by decide +kernel
theorem dM_isInCore_145 : decode cM_isInCore 145 = .ok (.istore 9, 2) := by decide +kernel
theorem dM_isInCore_147 : decode cM_isInCore 147 = .ok (.iload 9, 2) := by decide +kernel
theorem dM_isInCore_149 : decode cM_isInCore 149 = .ok (.aload_n 0, 1) := by decide +kernel
theorem dM_isInCore_150 : decode cM_isInCore 150 = .ok (.getfield 41, 3) := by decide +kernel
theorem dM_isInCore_153 : decode cM_isInCore 153 = .ok (.iload 8, 2) := by decide +kernel
theorem dM_isInCore_155 : decode cM_isInCore 155 = .ok (.laload, 1) := by decide +kernel
theorem dM_isInCore_156 : decode cM_isInCore 156 = .ok (.aload_n 0, 1) := by decide +kernel
theorem dM_isInCore_157 : decode cM_isInCore 157 = .ok (.getfield 35, 3) := by decide +kernel
theorem dM_isInCore_160 : decode cM_isInCore 160 = .ok (.iload 8, 2) := by decide +kernel
theorem dM_isInCore_162 : decode cM_isInCore 162 = .ok (.laload, 1) := by decide +kernel
theorem dM_isInCore_163 : decode cM_isInCore 163 = .ok (.lcmp, 1) := by decide +kernel
theorem dM_isInCore_164 : decode cM_isInCore 164 = .ok (.ifCond .le 7, 3) := by decide +kernel
theorem dM_isInCore_167 : decode cM_isInCore 167 = .ok (.iconst 1, 1) := by decide +kernel
theorem dM_isInCore_168 : decode cM_isInCore 168 = .ok (.goto 4, 3) := by decide +kernel
theorem dM_isInCore_171 : decode cM_isInCore 171 = .ok (.iconst 0, 1) := by decide +kernel
theorem dM_isInCore_172 : decode cM_isInCore 172 = .ok (.if_icmp .ne 15, 3) := by decide +kernel
theorem dM_isInCore_175 : decode cM_isInCore 175 = .ok (.iload 7, 2) := by decide +kernel
theorem dM_isInCore_177 : decode cM_isInCore 177 = .ok (.ifCond .ne 7, 3) := by decide +kernel
theorem dM_isInCore_180 : decode cM_isInCore 180 = .ok (.iconst 1, 1) := by decide +kernel
theorem dM_isInCore_181 : decode cM_isInCore 181 = .ok (.goto 4, 3) := by decide +kernel
theorem dM_isInCore_184 : decode cM_isInCore 184 = .ok (.iconst 0, 1) := by decide +kernel
theorem dM_isInCore_185 : decode cM_isInCore 185 = .ok (.istore 7, 2) := by decide +kernel
theorem dM_isInCore_187 : decode cM_isInCore 187 = .ok (.iinc 8 1, 3) := by decide +kernel
theorem dM_isInCore_190 : decode cM_isInCore 190 = .ok (.goto (-181), 3) := by decide +kernel
theorem dM_isInCore_193 : decode cM_isInCore 193 = .ok (.iload 7, 2) := by decide +kernel
theorem dM_isInCore_195 : decode cM_isInCore 195 = .ok (.ifCond .eq 15, 3) := by decide +kernel
theorem dM_isInCore_198 : decode cM_isInCore 198 = .ok (.aload_n 0, 1) := by decide +kernel
theorem dM_isInCore_199 : decode cM_isInCore 199 = .ok (.iload_n 2, 1) := by decide +kernel
theorem dM_isInCore_200 : decode cM_isInCore 200 = .ok (.invokevirtual 145, 3) := by decide +kernel
theorem dM_isInCore_203 : decode cM_isInCore 203 = .ok (.ifCond .eq 7, 3) := by decide +kernel
theorem dM_isInCore_206 : decode cM_isInCore 206 = .ok (.iconst 1, 1) := by decide +kernel
theorem dM_isInCore_207 : decode cM_isInCore 207 = .ok (.goto 4, 3) := by decide +kernel
theorem dM_isInCore_210 : decode cM_isInCore 210 = .ok (.iconst 0, 1) := by decide +kernel
theorem dM_isInCore_211 : decode cM_isInCore 211 = .ok (.ireturn, 1) := by decide +kernel
def f_M_isInCore_j211 (v : MV) (s0 : Int32) : Option Int32 := rb s0
def f_M_isInCore_j210 (v : MV) : Option Int32 := (f_M_isInCore_j211 v (0 : Int32))
def f_M_isInCore_j187 (v : MV) (K9 : Int32 → Int32 → Int64 → Int64 → Int32 → Int32 → Option Int32) (p1 : Int32) (p2 : Int32) (p3 : Int64) (p5 : Int64) (p7 : Int32) (p8 : Int32) : Option Int32 := (K9 p1 p2 p3 p5 p7 (p8 + 1))
def f_M_isInCore_j185 (v : MV) (K9 : Int32 → Int32 → Int64 → Int64 → Int32 → Int32 → Option Int32) (p1 : Int32) (p2 : Int32) (p3 : Int64) (p5 : Int64) (p8 : Int32) (s0 : Int32) : Option Int32 := (f_M_isInCore_j187 v K9 p1 p2 p3 p5 s0 p8)
def f_M_isInCore_j172 (v : MV) (K9 : Int32 → Int32 → Int64 → Int64 → Int32 → Int32 → Option Int32) (p1 : Int32) (p2 : Int32) (p3 : Int64) (p5 : Int64) (p7 : Int32) (p8 : Int32) (s0 : Int32) (s1 : Int32) : Option Int32 := (if s0 = s1 then (if p7 = 0 then (f_M_isInCore_j185 v K9 p1 p2 p3 p5 p8 (1 : Int32)) else (f_M_isInCore_j185 v K9 p1 p2 p3 p5 p8 (0 : Int32))) else (f_M_isInCore_j187 v K9 p1 p2 p3 p5 p7 p8))
def f_M_isInCore_j145 (v : MV) (K9 : Int32 → Int32 → Int64 → Int64 → Int32 → Int32 → Option Int32) (p1 : Int32) (p2 : Int32) (p3 : Int64) (p5 : Int64) (p7 : Int32) (p8 : Int32) (s0 : Int32) : Option Int32 := (ld 96 (md_by v) p8).bind fun u23 => (ld 96 (md_ay v) p8).bind fun u24 => (if (lg_cmp u23 u24) ≤ 0 then (f_M_isInCore_j172 v K9 p1 p2 p3 p5 p7 p8 s0 (0 : Int32)) else (f_M_isInCore_j172 v K9 p1 p2 p3 p5 p7 p8 s0 (1 : Int32)))
def f_M_isInCore_j100 (v : MV) (K9 : Int32 → Int32 → Int64 → Int64 → Int32 → Int32 → Option Int32) (p1 : Int32) (p2 : Int32) (p3 : Int64) (p5 : Int64) (p7 : Int32) (p8 : Int32) (s0 : Int32) (s1 : Int32) : Option Int32 := (if s0 = s1 then (f_M_isInCore_j187 v K9 p1 p2 p3 p5 p7 p8) else (ld 96 (md_ax v) p8).bind fun u17 => (ld 96 (md_ay v) p8).bind fun u18 => (ld 96 (md_bx v) p8).bind fun u19 => (ld 96 (md_by v) p8).bind fun u20 => (f_M_turnOf u17 u18 u19 u20 p3 p5).bind fun u21 => (if u21 ≤ 0 then (f_M_isInCore_j145 v K9 p1 p2 p3 p5 p7 p8 (0 : Int32)) else (f_M_isInCore_j145 v K9 p1 p2 p3 p5 p7 p8 (1 : Int32))))
def f_M_isInCore_j82 (v : MV) (K9 : Int32 → Int32 → Int64 → Int64 → Int32 → Int32 → Option Int32) (p1 : Int32) (p2 : Int32) (p3 : Int64) (p5 : Int64) (p7 : Int32) (p8 : Int32) (s0 : Int32) : Option Int32 := (ld 96 (md_by v) p8).bind fun u14 => (if (lg_cmp u14 p5) ≤ 0 then (f_M_isInCore_j100 v K9 p1 p2 p3 p5 p7 p8 s0 (0 : Int32)) else (f_M_isInCore_j100 v K9 p1 p2 p3 p5 p7 p8 s0 (1 : Int32)))
def f_M_isInCore_l9 (v : MV) : Nat → Int32 → Int32 → Int64 → Int64 → Int32 → Int32 → Option Int32
 | 0, _, _, _, _, _, _ => none
 | n + 1, p1, p2, p3, p5, p7, p8 => (ld 2 (md_size v) p1).bind fun u1 => (if (((48 : Int32) * p1) + u1) ≤ p8 then (if p7 = 0 then (f_M_isInCore_j210 v) else (f_M_hasArea v p2).bind fun u4 => (if u4 = 0 then (f_M_isInCore_j210 v) else (f_M_isInCore_j211 v (1 : Int32)))) else (ld 96 (md_ax v) p8).bind fun u6 => (ld 96 (md_ay v) p8).bind fun u7 => (ld 96 (md_bx v) p8).bind fun u8 => (ld 96 (md_by v) p8).bind fun u9 => (f_M_isOn p3 p5 u6 u7 u8 u9).bind fun u10 => (if u10 = 0 then (ld 96 (md_ay v) p8).bind fun u12 => (if (lg_cmp u12 p5) ≤ 0 then (f_M_isInCore_j82 v (f_M_isInCore_l9 v n) p1 p2 p3 p5 p7 p8 (0 : Int32)) else (f_M_isInCore_j82 v (f_M_isInCore_l9 v n) p1 p2 p3 p5 p7 p8 (1 : Int32))) else rb (1 : Int32)))
def f_M_isInCore (v : MV) (x1 : Int32) (x2 : Int32) (x3 : Int64) (x5 : Int64) : Option Int32 := (f_M_isInCore_l9 v 64 x1 x2 x3 x5 (0 : Int32) ((48 : Int32) * x1))
set_option maxHeartbeats 4000000 in
set_option maxRecDepth 100000 in
theorem k_M_isInCore (l : Launch) (dC : Nat → ClassId) (dI : Nat → Nat → Nat) (cL cI : ClassId) (qm : Nat → Nat) (v : MV) (x1 : Int32) (x2 : Int32) (x3 : Int64) (x5 : Int64) (r : Int32) (h : f_M_isInCore v x1 x2 x3 x5 = some r) : Met l yM_isInCore wsM_isInCore ({ frames := 3, cells := 0, slots := 0, locals := 89 }) (rd_Pc [.ref (qm 0), .int x1, .int x2, .long x3, .long x5] (fun H => va_P (dC, dI) cls3 (mdW cL cI qm v) H) (dC, dI) cls3 [(cL, .long), (cI, .int)]) (vp_Si (fun z => z = r)) 0 0 (fun _ => False) := by
  refine Met.ofW (cc := cM_isInCore) (maxL := 10) (ret := (some .boolean)) (by decide) rfl ?_
  intro p e s m args below meth c s₁ B hml hv
  obtain ⟨rfl, hPm, hK⟩ := hv
  have hx := B.exec
  have hb := B.bytes
  have hr := B.returns
  have hw : ∀ w ∈ wG, w.before ([.ref (qm 0), .int x1, .int x2, .long x3, .long x5] : List Value).toArray s = true := fun w hq => atoms_spec (ws := wsM_isInCore) B.pre w (List.mem_cons_of_mem _ hq)
  have hown : s.vm.findClass R_M = some m.cls := findClass_of_methodNamed B.named
  have hlocks := B.notSynchronized
  have hl := lv_entry ([.ref (qm 0), .int x1, .int x2, .long x3, .long x5] : List Value) (n := 10) (Nat.le_of_ble_eq_true rfl)
  rw [lg_entry_eq]
  generalize (lg_sl ([.ref (qm 0), .int x1, .int x2, .long x3, .long x5] : List Value) ++ List.replicate (10 - (lg_sl ([.ref (qm 0), .int x1, .int x2, .long x3, .long x5] : List Value)).length) Slot.unset).toArray = ls at hl ⊢
  have hl : lv_has ls 10 [(0, .ref (qm 0)), (1, .int x1), (2, .int x2), (3, .long x3), (5, .long x5)] := hl
  have k211 : ∀ (s0 : Int32), f_M_isInCore_j211 v s0 = some r →  ∀ (ls : Array Slot), lv_has ls 10 [] → W p l e (headSpec wsM_isInCore ({ frames := 3, cells := 0, slots := 0, locals := 89 })).room s m ([.ref (qm 0), .int x1, .int x2, .long x3, .long x5] : List Value).toArray below meth c s.heap [] 0 0 (MQ below (vp_Si (fun z => z = r)) ([.ref (qm 0), .int x1, .int x2, .long x3, .long x5] : List Value).toArray s 0 0 (fun _ => False)) (F0 m 211 ls [.int s0]) := by
    intro s0 h  ls hl
    unfold f_M_isInCore_j211 at h
    obtain ⟨hz, hr9⟩ := rb_of h
    exact W.zret hx hb hr hz (fun t ht hW => ⟨_, rfl, hr9, ht⟩) nil_locs dM_isInCore_211
  have k210 : f_M_isInCore_j210 v = some r →  ∀ (ls : Array Slot), lv_has ls 10 [] → W p l e (headSpec wsM_isInCore ({ frames := 3, cells := 0, slots := 0, locals := 89 })).room s m ([.ref (qm 0), .int x1, .int x2, .long x3, .long x5] : List Value).toArray below meth c s.heap [] 0 0 (MQ below (vp_Si (fun z => z = r)) ([.ref (qm 0), .int x1, .int x2, .long x3, .long x5] : List Value).toArray s 0 0 (fun _ => False)) (F0 m 210 ls []) := by
    intro  h  ls hl
    unfold f_M_isInCore_j210 at h
    refine lv_iconst (v := 0) hx hb dM_isInCore_210 (by decide) ?_
    exact k211 (0 : Int32) h ls (lv_sub hl [] rfl)
  have k9 : ∀ (n9 : Nat), ∀ (p1 : Int32) (p2 : Int32) (p3 : Int64) (p5 : Int64) (p7 : Int32) (p8 : Int32), f_M_isInCore_l9 v n9 p1 p2 p3 p5 p7 p8 = some r →  ∀ (ls : Array Slot), lv_has ls 10 [(0, .ref (qm 0)), (1, .int p1), (2, .int p2), (3, .long p3), (5, .long p5), (7, .int p7), (8, .int p8)] → W p l e (headSpec wsM_isInCore ({ frames := 3, cells := 0, slots := 0, locals := 89 })).room s m ([.ref (qm 0), .int x1, .int x2, .long x3, .long x5] : List Value).toArray below meth c s.heap [] 0 0 (MQ below (vp_Si (fun z => z = r)) ([.ref (qm 0), .int x1, .int x2, .long x3, .long x5] : List Value).toArray s 0 0 (fun _ => False)) (F0 m 9 ls []) := by
    intro n9
    induction n9 with
    | zero => intro p1 p2 p3 p5 p7 p8 h; exact absurd h (by simp [f_M_isInCore_l9])
    | succ n9 ih9 =>
      have k187 : ∀ (p1 : Int32) (p2 : Int32) (p3 : Int64) (p5 : Int64) (p7 : Int32) (p8 : Int32), f_M_isInCore_j187 v (f_M_isInCore_l9 v n9) p1 p2 p3 p5 p7 p8 = some r →  ∀ (ls : Array Slot), lv_has ls 10 [(0, .ref (qm 0)), (1, .int p1), (2, .int p2), (3, .long p3), (5, .long p5), (7, .int p7), (8, .int p8)] → W p l e (headSpec wsM_isInCore ({ frames := 3, cells := 0, slots := 0, locals := 89 })).room s m ([.ref (qm 0), .int x1, .int x2, .long x3, .long x5] : List Value).toArray below meth c s.heap [] 0 0 (MQ below (vp_Si (fun z => z = r)) ([.ref (qm 0), .int x1, .int x2, .long x3, .long x5] : List Value).toArray s 0 0 (fun _ => False)) (F0 m 187 ls []) := by
        intro p1 p2 p3 p5 p7 p8 h  ls hl
        unfold f_M_isInCore_j187 at h
        refine lv_iinc (v := p8 + 1) (lv' := [(8, .int (p8 + 1)), (0, .ref (qm 0)), (1, .int p1), (2, .int p2), (3, .long p3), (5, .long p5), (7, .int p7)]) hx hb dM_isInCore_187 hl (k := 6) rfl rfl (by decide) rfl (fun ls hl => ?_)
        refine lv_goto (tgt := 9) hx hb dM_isInCore_190 (by decide) ?_
        exact ih9 p1 p2 p3 p5 p7 (p8 + 1) h ls (lv_sub hl [1, 2, 3, 4, 5, 6, 0] rfl)
      have k185 : ∀ (p1 : Int32) (p2 : Int32) (p3 : Int64) (p5 : Int64) (p8 : Int32) (s0 : Int32), f_M_isInCore_j185 v (f_M_isInCore_l9 v n9) p1 p2 p3 p5 p8 s0 = some r →  ∀ (ls : Array Slot), lv_has ls 10 [(0, .ref (qm 0)), (1, .int p1), (2, .int p2), (3, .long p3), (5, .long p5), (8, .int p8)] → W p l e (headSpec wsM_isInCore ({ frames := 3, cells := 0, slots := 0, locals := 89 })).room s m ([.ref (qm 0), .int x1, .int x2, .long x3, .long x5] : List Value).toArray below meth c s.heap [] 0 0 (MQ below (vp_Si (fun z => z = r)) ([.ref (qm 0), .int x1, .int x2, .long x3, .long x5] : List Value).toArray s 0 0 (fun _ => False)) (F0 m 185 ls [.int s0]) := by
        intro p1 p2 p3 p5 p8 s0 h  ls hl
        unfold f_M_isInCore_j185 at h
        refine lv_istore (lv' := [(7, .int s0), (0, .ref (qm 0)), (1, .int p1), (2, .int p2), (3, .long p3), (5, .long p5), (8, .int p8)]) hx hb dM_isInCore_185 hl (by decide) rfl (fun ls hl => ?_)
        exact k187 p1 p2 p3 p5 s0 p8 h ls (lv_sub hl [1, 2, 3, 4, 5, 0, 6] rfl)
      have k172 : ∀ (p1 : Int32) (p2 : Int32) (p3 : Int64) (p5 : Int64) (p7 : Int32) (p8 : Int32) (s0 : Int32) (s1 : Int32), f_M_isInCore_j172 v (f_M_isInCore_l9 v n9) p1 p2 p3 p5 p7 p8 s0 s1 = some r →  ∀ (ls : Array Slot), lv_has ls 10 [(0, .ref (qm 0)), (1, .int p1), (2, .int p2), (3, .long p3), (5, .long p5), (7, .int p7), (8, .int p8)] → W p l e (headSpec wsM_isInCore ({ frames := 3, cells := 0, slots := 0, locals := 89 })).room s m ([.ref (qm 0), .int x1, .int x2, .long x3, .long x5] : List Value).toArray below meth c s.heap [] 0 0 (MQ below (vp_Si (fun z => z = r)) ([.ref (qm 0), .int x1, .int x2, .long x3, .long x5] : List Value).toArray s 0 0 (fun _ => False)) (F0 m 172 ls [.int s1, .int s0]) := by
        intro p1 p2 p3 p5 p7 p8 s0 s1 h  ls hl
        unfold f_M_isInCore_j172 at h
        refine lv_icmp_ne (tgt := 187) hx hb dM_isInCore_172 (by decide) (fun c26 => ?_) (fun c26 => ?_)
        · have h := it_f c26 h
          exact k187 p1 p2 p3 p5 p7 p8 h ls (lv_sub hl [0, 1, 2, 3, 4, 5, 6] rfl)
        · have h := it_t c26 h
          refine lv_iload hx hb dM_isInCore_175 (lv_at hl 5 rfl) ?_
          refine lv_if_ne (tgt := 184) hx hb dM_isInCore_177 (by decide) (fun c27 => ?_) (fun c27 => ?_)
          · have h := it_f c27 h
            refine lv_iconst (v := 0) hx hb dM_isInCore_184 (by decide) ?_
            exact k185 p1 p2 p3 p5 p8 (0 : Int32) h ls (lv_sub hl [0, 1, 2, 3, 4, 6] rfl)
          · have h := it_t c27 h
            refine lv_iconst (v := 1) hx hb dM_isInCore_180 (by decide) ?_
            refine lv_goto (tgt := 185) hx hb dM_isInCore_181 (by decide) ?_
            exact k185 p1 p2 p3 p5 p8 (1 : Int32) h ls (lv_sub hl [0, 1, 2, 3, 4, 6] rfl)
      have k145 : ∀ (p1 : Int32) (p2 : Int32) (p3 : Int64) (p5 : Int64) (p7 : Int32) (p8 : Int32) (s0 : Int32), f_M_isInCore_j145 v (f_M_isInCore_l9 v n9) p1 p2 p3 p5 p7 p8 s0 = some r →  ∀ (ls : Array Slot), lv_has ls 10 [(0, .ref (qm 0)), (1, .int p1), (2, .int p2), (3, .long p3), (5, .long p5), (7, .int p7), (8, .int p8)] → W p l e (headSpec wsM_isInCore ({ frames := 3, cells := 0, slots := 0, locals := 89 })).room s m ([.ref (qm 0), .int x1, .int x2, .long x3, .long x5] : List Value).toArray below meth c s.heap [] 0 0 (MQ below (vp_Si (fun z => z = r)) ([.ref (qm 0), .int x1, .int x2, .long x3, .long x5] : List Value).toArray s 0 0 (fun _ => False)) (F0 m 145 ls [.int s0]) := by
        intro p1 p2 p3 p5 p7 p8 s0 h  ls hl
        unfold f_M_isInCore_j145 at h
        refine lv_istore (lv' := [(9, .int s0), (0, .ref (qm 0)), (1, .int p1), (2, .int p2), (3, .long p3), (5, .long p5), (7, .int p7), (8, .int p8)]) hx hb dM_isInCore_145 hl (by decide) rfl (fun ls hl => ?_)
        refine lv_iload hx hb dM_isInCore_147 (lv_at hl 0 rfl) ?_
        refine lv_aload_n hx hb dM_isInCore_149 rfl (lv_at hl 1 rfl) ?_
        refine va_get (D := (dC, dI)) (ci := 2) (v := .ref (qm 11)) (C := R_M) (T := T_M) (N := 15) hx hb hw in_M hown hK hPm 0 rfl rfl 12 (by decide) (hw _ w_457) (fun _ h9 => h9) rfl dM_isInCore_150 ?_
        refine lv_iload hx hb dM_isInCore_153 (lv_at hl 7 rfl) ?_
        obtain ⟨u23, hu23, h⟩ := ob_some h
        obtain ⟨hiu23, eu23⟩ := ld_of hu23
        refine va_lald hx hb hK hPm 11 0 rfl rfl hiu23 dM_isInCore_155 ?_
        rw [eu23]
        refine lv_aload_n hx hb dM_isInCore_156 rfl (lv_at hl 1 rfl) ?_
        refine va_get (D := (dC, dI)) (ci := 2) (v := .ref (qm 9)) (C := R_M) (T := T_M) (N := 15) hx hb hw in_M hown hK hPm 0 rfl rfl 10 (by decide) (hw _ w_455) (fun _ h9 => h9) rfl dM_isInCore_157 ?_
        refine lv_iload hx hb dM_isInCore_160 (lv_at hl 7 rfl) ?_
        obtain ⟨u24, hu24, h⟩ := ob_some h
        obtain ⟨hiu24, eu24⟩ := ld_of hu24
        refine va_lald hx hb hK hPm 9 0 rfl rfl hiu24 dM_isInCore_162 ?_
        rw [eu24]
        refine W.lcmp hx hb dM_isInCore_163 ?_
        refine lv_if_le (tgt := 171) hx hb dM_isInCore_164 (by decide) (fun c25 => ?_) (fun c25 => ?_)
        · have h := it_t c25 h
          refine lv_iconst (v := 0) hx hb dM_isInCore_171 (by decide) ?_
          exact k172 p1 p2 p3 p5 p7 p8 s0 (0 : Int32) h ls (lv_sub hl [1, 2, 3, 4, 5, 6, 7] rfl)
        · have h := it_f c25 h
          refine lv_iconst (v := 1) hx hb dM_isInCore_167 (by decide) ?_
          refine lv_goto (tgt := 172) hx hb dM_isInCore_168 (by decide) ?_
          exact k172 p1 p2 p3 p5 p7 p8 s0 (1 : Int32) h ls (lv_sub hl [1, 2, 3, 4, 5, 6, 7] rfl)
      have k100 : ∀ (p1 : Int32) (p2 : Int32) (p3 : Int64) (p5 : Int64) (p7 : Int32) (p8 : Int32) (s0 : Int32) (s1 : Int32), f_M_isInCore_j100 v (f_M_isInCore_l9 v n9) p1 p2 p3 p5 p7 p8 s0 s1 = some r →  ∀ (ls : Array Slot), lv_has ls 10 [(0, .ref (qm 0)), (1, .int p1), (2, .int p2), (3, .long p3), (5, .long p5), (7, .int p7), (8, .int p8)] → W p l e (headSpec wsM_isInCore ({ frames := 3, cells := 0, slots := 0, locals := 89 })).room s m ([.ref (qm 0), .int x1, .int x2, .long x3, .long x5] : List Value).toArray below meth c s.heap [] 0 0 (MQ below (vp_Si (fun z => z = r)) ([.ref (qm 0), .int x1, .int x2, .long x3, .long x5] : List Value).toArray s 0 0 (fun _ => False)) (F0 m 100 ls [.int s1, .int s0]) := by
        intro p1 p2 p3 p5 p7 p8 s0 s1 h  ls hl
        unfold f_M_isInCore_j100 at h
        refine lv_icmp_eq (tgt := 187) hx hb dM_isInCore_100 (by decide) (fun c16 => ?_) (fun c16 => ?_)
        · have h := it_t c16 h
          exact k187 p1 p2 p3 p5 p7 p8 h ls (lv_sub hl [0, 1, 2, 3, 4, 5, 6] rfl)
        · have h := it_f c16 h
          refine lv_aload_n hx hb dM_isInCore_103 rfl (lv_at hl 0 rfl) ?_
          refine va_get (D := (dC, dI)) (ci := 2) (v := .ref (qm 8)) (C := R_M) (T := T_M) (N := 15) hx hb hw in_M hown hK hPm 0 rfl rfl 9 (by decide) (hw _ w_454) (fun _ h9 => h9) rfl dM_isInCore_104 ?_
          refine lv_iload hx hb dM_isInCore_107 (lv_at hl 6 rfl) ?_
          obtain ⟨u17, hu17, h⟩ := ob_some h
          obtain ⟨hiu17, eu17⟩ := ld_of hu17
          refine va_lald hx hb hK hPm 8 0 rfl rfl hiu17 dM_isInCore_109 ?_
          rw [eu17]
          refine lv_aload_n hx hb dM_isInCore_110 rfl (lv_at hl 0 rfl) ?_
          refine va_get (D := (dC, dI)) (ci := 2) (v := .ref (qm 9)) (C := R_M) (T := T_M) (N := 15) hx hb hw in_M hown hK hPm 0 rfl rfl 10 (by decide) (hw _ w_455) (fun _ h9 => h9) rfl dM_isInCore_111 ?_
          refine lv_iload hx hb dM_isInCore_114 (lv_at hl 6 rfl) ?_
          obtain ⟨u18, hu18, h⟩ := ob_some h
          obtain ⟨hiu18, eu18⟩ := ld_of hu18
          refine va_lald hx hb hK hPm 9 0 rfl rfl hiu18 dM_isInCore_116 ?_
          rw [eu18]
          refine lv_aload_n hx hb dM_isInCore_117 rfl (lv_at hl 0 rfl) ?_
          refine va_get (D := (dC, dI)) (ci := 2) (v := .ref (qm 10)) (C := R_M) (T := T_M) (N := 15) hx hb hw in_M hown hK hPm 0 rfl rfl 11 (by decide) (hw _ w_456) (fun _ h9 => h9) rfl dM_isInCore_118 ?_
          refine lv_iload hx hb dM_isInCore_121 (lv_at hl 6 rfl) ?_
          obtain ⟨u19, hu19, h⟩ := ob_some h
          obtain ⟨hiu19, eu19⟩ := ld_of hu19
          refine va_lald hx hb hK hPm 10 0 rfl rfl hiu19 dM_isInCore_123 ?_
          rw [eu19]
          refine lv_aload_n hx hb dM_isInCore_124 rfl (lv_at hl 0 rfl) ?_
          refine va_get (D := (dC, dI)) (ci := 2) (v := .ref (qm 11)) (C := R_M) (T := T_M) (N := 15) hx hb hw in_M hown hK hPm 0 rfl rfl 12 (by decide) (hw _ w_457) (fun _ h9 => h9) rfl dM_isInCore_125 ?_
          refine lv_iload hx hb dM_isInCore_128 (lv_at hl 6 rfl) ?_
          obtain ⟨u20, hu20, h⟩ := ob_some h
          obtain ⟨hiu20, eu20⟩ := ld_of hu20
          refine va_lald hx hb hK hPm 11 0 rfl rfl hiu20 dM_isInCore_130 ?_
          rw [eu20]
          refine lv_lload_n hx hb dM_isInCore_131 rfl (lv_at hl 3 rfl) ?_
          refine lv_lload hx hb dM_isInCore_132 (lv_at hl 4 rfl) ?_
          obtain ⟨u21, hu21, h⟩ := ob_some h
          refine vp_callSi (va_Run.run (va_runS (As := [.long u17, .long u18, .long u19, .long u20, .long p3, .long p5]) (rest := []) ⟨hx, hb, hml, hown, hw⟩ (k_M_turnOf l dC dI cL cI u17 u18 u19 u20 p3 p5 u21 hu21) (va_cwS 6 hw (gS w_558 w_559 w_2 w_560) rfl rfl rfl (by decide +kernel) ⟨Nat.le_of_ble_eq_true rfl, Nat.le_of_ble_eq_true rfl⟩) ⟨rd_blind, rd_pre trivial hK⟩ rfl rfl hl.1 rfl (lv_room (Nat.le_of_ble_eq_true rfl)) dM_isInCore_134 ⟨Nat.le_of_ble_eq_true rfl, Nat.le_of_ble_eq_true rfl⟩)) (fun z hz => ?_)
          rw [hz]; clear hz
          refine lv_if_le (tgt := 144) hx hb dM_isInCore_137 (by decide) (fun c22 => ?_) (fun c22 => ?_)
          · have h := it_t c22 h
            refine lv_iconst (v := 0) hx hb dM_isInCore_144 (by decide) ?_
            exact k145 p1 p2 p3 p5 p7 p8 (0 : Int32) h ls (lv_sub hl [0, 1, 2, 3, 4, 5, 6] rfl)
          · have h := it_f c22 h
            refine lv_iconst (v := 1) hx hb dM_isInCore_140 (by decide) ?_
            refine lv_goto (tgt := 145) hx hb dM_isInCore_141 (by decide) ?_
            exact k145 p1 p2 p3 p5 p7 p8 (1 : Int32) h ls (lv_sub hl [0, 1, 2, 3, 4, 5, 6] rfl)
      have k82 : ∀ (p1 : Int32) (p2 : Int32) (p3 : Int64) (p5 : Int64) (p7 : Int32) (p8 : Int32) (s0 : Int32), f_M_isInCore_j82 v (f_M_isInCore_l9 v n9) p1 p2 p3 p5 p7 p8 s0 = some r →  ∀ (ls : Array Slot), lv_has ls 10 [(0, .ref (qm 0)), (1, .int p1), (2, .int p2), (3, .long p3), (5, .long p5), (7, .int p7), (8, .int p8)] → W p l e (headSpec wsM_isInCore ({ frames := 3, cells := 0, slots := 0, locals := 89 })).room s m ([.ref (qm 0), .int x1, .int x2, .long x3, .long x5] : List Value).toArray below meth c s.heap [] 0 0 (MQ below (vp_Si (fun z => z = r)) ([.ref (qm 0), .int x1, .int x2, .long x3, .long x5] : List Value).toArray s 0 0 (fun _ => False)) (F0 m 82 ls [.int s0]) := by
        intro p1 p2 p3 p5 p7 p8 s0 h  ls hl
        unfold f_M_isInCore_j82 at h
        refine lv_aload_n hx hb dM_isInCore_82 rfl (lv_at hl 0 rfl) ?_
        refine va_get (D := (dC, dI)) (ci := 2) (v := .ref (qm 11)) (C := R_M) (T := T_M) (N := 15) hx hb hw in_M hown hK hPm 0 rfl rfl 12 (by decide) (hw _ w_457) (fun _ h9 => h9) rfl dM_isInCore_83 ?_
        refine lv_iload hx hb dM_isInCore_86 (lv_at hl 6 rfl) ?_
        obtain ⟨u14, hu14, h⟩ := ob_some h
        obtain ⟨hiu14, eu14⟩ := ld_of hu14
        refine va_lald hx hb hK hPm 11 0 rfl rfl hiu14 dM_isInCore_88 ?_
        rw [eu14]
        refine lv_lload hx hb dM_isInCore_89 (lv_at hl 4 rfl) ?_
        refine W.lcmp hx hb dM_isInCore_91 ?_
        refine lv_if_le (tgt := 99) hx hb dM_isInCore_92 (by decide) (fun c15 => ?_) (fun c15 => ?_)
        · have h := it_t c15 h
          refine lv_iconst (v := 0) hx hb dM_isInCore_99 (by decide) ?_
          exact k100 p1 p2 p3 p5 p7 p8 s0 (0 : Int32) h ls (lv_sub hl [0, 1, 2, 3, 4, 5, 6] rfl)
        · have h := it_f c15 h
          refine lv_iconst (v := 1) hx hb dM_isInCore_95 (by decide) ?_
          refine lv_goto (tgt := 100) hx hb dM_isInCore_96 (by decide) ?_
          exact k100 p1 p2 p3 p5 p7 p8 s0 (1 : Int32) h ls (lv_sub hl [0, 1, 2, 3, 4, 5, 6] rfl)
      intro p1 p2 p3 p5 p7 p8 h  ls hl
      rw [f_M_isInCore_l9] at h
      refine lv_iload hx hb dM_isInCore_9 (lv_at hl 6 rfl) ?_
      refine lv_bipush (v := 48) hx hb dM_isInCore_11 (by decide) ?_
      refine lv_iload_n hx hb dM_isInCore_13 rfl (lv_at hl 1 rfl) ?_
      refine lv_imul hx hb dM_isInCore_14 ?_
      refine lv_aload_n hx hb dM_isInCore_15 rfl (lv_at hl 0 rfl) ?_
      refine va_get (D := (dC, dI)) (ci := 2) (v := .ref (qm 12)) (C := R_M) (T := T_M) (N := 15) hx hb hw in_M hown hK hPm 0 rfl rfl 13 (by decide) (hw _ w_458) (fun _ h9 => h9) rfl dM_isInCore_16 ?_
      refine lv_iload_n hx hb dM_isInCore_19 rfl (lv_at hl 1 rfl) ?_
      obtain ⟨u1, hu1, h⟩ := ob_some h
      obtain ⟨hiu1, eu1⟩ := ld_of hu1
      refine va_iald hx hb hK hPm 12 1 rfl rfl hiu1 dM_isInCore_20 ?_
      rw [eu1]
      refine lv_iadd hx hb dM_isInCore_21 ?_
      refine lv_icmp_ge (tgt := 193) hx hb dM_isInCore_22 (by decide) (fun c2 => ?_) (fun c2 => ?_)
      · have h := it_t c2 h
        refine lv_iload hx hb dM_isInCore_193 (lv_at hl 5 rfl) ?_
        refine lv_if_eq (tgt := 210) hx hb dM_isInCore_195 (by decide) (fun c3 => ?_) (fun c3 => ?_)
        · have h := it_t c3 h
          exact k210 h ls (lv_sub hl [] rfl)
        · have h := it_f c3 h
          refine lv_aload_n hx hb dM_isInCore_198 rfl (lv_at hl 0 rfl) ?_
          refine lv_iload_n hx hb dM_isInCore_199 rfl (lv_at hl 2 rfl) ?_
          obtain ⟨u4, hu4, h⟩ := ob_some h
          refine vp_callSi (va_Run.run (va_runV (As := [.int p2]) (rest := []) ⟨hx, hb, hml, hown, hw⟩ (k_M_hasArea l dC dI cL cI qm v p2 u4 hu4) (cwV 1 hw (gV w_619 w_621 wp_22 w_2 w_622) rfl rfl rfl (by decide +kernel) ⟨Nat.le_of_ble_eq_true rfl, Nat.le_of_ble_eq_true rfl⟩) ⟨rd_blind, va_recv hK hPm (ci := 2) (q0 := 0) rfl rfl, rd_pre hPm hK⟩ rfl rfl hl.1 rfl (lv_room (Nat.le_of_ble_eq_true rfl)) dM_isInCore_200 ⟨Nat.le_of_ble_eq_true rfl, Nat.le_of_ble_eq_true rfl⟩)) (fun z hz => ?_)
          rw [hz]; clear hz
          refine lv_if_eq (tgt := 210) hx hb dM_isInCore_203 (by decide) (fun c5 => ?_) (fun c5 => ?_)
          · have h := it_t c5 h
            exact k210 h ls (lv_sub hl [] rfl)
          · have h := it_f c5 h
            refine lv_iconst (v := 1) hx hb dM_isInCore_206 (by decide) ?_
            refine lv_goto (tgt := 211) hx hb dM_isInCore_207 (by decide) ?_
            exact k211 (1 : Int32) h ls (lv_sub hl [] rfl)
      · have h := it_f c2 h
        refine lv_lload_n hx hb dM_isInCore_25 rfl (lv_at hl 3 rfl) ?_
        refine lv_lload hx hb dM_isInCore_26 (lv_at hl 4 rfl) ?_
        refine lv_aload_n hx hb dM_isInCore_28 rfl (lv_at hl 0 rfl) ?_
        refine va_get (D := (dC, dI)) (ci := 2) (v := .ref (qm 8)) (C := R_M) (T := T_M) (N := 15) hx hb hw in_M hown hK hPm 0 rfl rfl 9 (by decide) (hw _ w_454) (fun _ h9 => h9) rfl dM_isInCore_29 ?_
        refine lv_iload hx hb dM_isInCore_32 (lv_at hl 6 rfl) ?_
        obtain ⟨u6, hu6, h⟩ := ob_some h
        obtain ⟨hiu6, eu6⟩ := ld_of hu6
        refine va_lald hx hb hK hPm 8 0 rfl rfl hiu6 dM_isInCore_34 ?_
        rw [eu6]
        refine lv_aload_n hx hb dM_isInCore_35 rfl (lv_at hl 0 rfl) ?_
        refine va_get (D := (dC, dI)) (ci := 2) (v := .ref (qm 9)) (C := R_M) (T := T_M) (N := 15) hx hb hw in_M hown hK hPm 0 rfl rfl 10 (by decide) (hw _ w_455) (fun _ h9 => h9) rfl dM_isInCore_36 ?_
        refine lv_iload hx hb dM_isInCore_39 (lv_at hl 6 rfl) ?_
        obtain ⟨u7, hu7, h⟩ := ob_some h
        obtain ⟨hiu7, eu7⟩ := ld_of hu7
        refine va_lald hx hb hK hPm 9 0 rfl rfl hiu7 dM_isInCore_41 ?_
        rw [eu7]
        refine lv_aload_n hx hb dM_isInCore_42 rfl (lv_at hl 0 rfl) ?_
        refine va_get (D := (dC, dI)) (ci := 2) (v := .ref (qm 10)) (C := R_M) (T := T_M) (N := 15) hx hb hw in_M hown hK hPm 0 rfl rfl 11 (by decide) (hw _ w_456) (fun _ h9 => h9) rfl dM_isInCore_43 ?_
        refine lv_iload hx hb dM_isInCore_46 (lv_at hl 6 rfl) ?_
        obtain ⟨u8, hu8, h⟩ := ob_some h
        obtain ⟨hiu8, eu8⟩ := ld_of hu8
        refine va_lald hx hb hK hPm 10 0 rfl rfl hiu8 dM_isInCore_48 ?_
        rw [eu8]
        refine lv_aload_n hx hb dM_isInCore_49 rfl (lv_at hl 0 rfl) ?_
        refine va_get (D := (dC, dI)) (ci := 2) (v := .ref (qm 11)) (C := R_M) (T := T_M) (N := 15) hx hb hw in_M hown hK hPm 0 rfl rfl 12 (by decide) (hw _ w_457) (fun _ h9 => h9) rfl dM_isInCore_50 ?_
        refine lv_iload hx hb dM_isInCore_53 (lv_at hl 6 rfl) ?_
        obtain ⟨u9, hu9, h⟩ := ob_some h
        obtain ⟨hiu9, eu9⟩ := ld_of hu9
        refine va_lald hx hb hK hPm 11 0 rfl rfl hiu9 dM_isInCore_55 ?_
        rw [eu9]
        obtain ⟨u10, hu10, h⟩ := ob_some h
        refine vp_callSi (va_Run.run (va_runS (As := [.long p3, .long p5, .long u6, .long u7, .long u8, .long u9]) (rest := []) ⟨hx, hb, hml, hown, hw⟩ (k_M_isOn l dC dI cL cI p3 p5 u6 u7 u8 u9 u10 hu10) (va_cwS 6 hw (gS w_578 w_579 w_2 w_580) rfl rfl rfl (by decide +kernel) ⟨Nat.le_of_ble_eq_true rfl, Nat.le_of_ble_eq_true rfl⟩) ⟨rd_blind, rd_pre trivial hK⟩ rfl rfl hl.1 rfl (lv_room (Nat.le_of_ble_eq_true rfl)) dM_isInCore_56 ⟨Nat.le_of_ble_eq_true rfl, Nat.le_of_ble_eq_true rfl⟩)) (fun z hz => ?_)
        rw [hz]; clear hz
        refine lv_if_eq (tgt := 64) hx hb dM_isInCore_59 (by decide) (fun c11 => ?_) (fun c11 => ?_)
        · have h := it_t c11 h
          refine lv_aload_n hx hb dM_isInCore_64 rfl (lv_at hl 0 rfl) ?_
          refine va_get (D := (dC, dI)) (ci := 2) (v := .ref (qm 9)) (C := R_M) (T := T_M) (N := 15) hx hb hw in_M hown hK hPm 0 rfl rfl 10 (by decide) (hw _ w_455) (fun _ h9 => h9) rfl dM_isInCore_65 ?_
          refine lv_iload hx hb dM_isInCore_68 (lv_at hl 6 rfl) ?_
          obtain ⟨u12, hu12, h⟩ := ob_some h
          obtain ⟨hiu12, eu12⟩ := ld_of hu12
          refine va_lald hx hb hK hPm 9 0 rfl rfl hiu12 dM_isInCore_70 ?_
          rw [eu12]
          refine lv_lload hx hb dM_isInCore_71 (lv_at hl 4 rfl) ?_
          refine W.lcmp hx hb dM_isInCore_73 ?_
          refine lv_if_le (tgt := 81) hx hb dM_isInCore_74 (by decide) (fun c13 => ?_) (fun c13 => ?_)
          · have h := it_t c13 h
            refine lv_iconst (v := 0) hx hb dM_isInCore_81 (by decide) ?_
            exact k82 p1 p2 p3 p5 p7 p8 (0 : Int32) h ls (lv_sub hl [0, 1, 2, 3, 4, 5, 6] rfl)
          · have h := it_f c13 h
            refine lv_iconst (v := 1) hx hb dM_isInCore_77 (by decide) ?_
            refine lv_goto (tgt := 82) hx hb dM_isInCore_78 (by decide) ?_
            exact k82 p1 p2 p3 p5 p7 p8 (1 : Int32) h ls (lv_sub hl [0, 1, 2, 3, 4, 5, 6] rfl)
        · have h := it_f c11 h
          refine lv_iconst (v := 1) hx hb dM_isInCore_62 (by decide) ?_
          obtain ⟨hz, hr9⟩ := rb_of h
          exact W.zret hx hb hr hz (fun t ht hW => ⟨_, rfl, hr9, ht⟩) nil_locs dM_isInCore_63
  unfold f_M_isInCore at h
  refine lv_iconst (v := 0) hx hb dM_isInCore_0 (by decide) ?_
  refine lv_istore (lv' := [(7, .int (0 : Int32)), (0, .ref (qm 0)), (1, .int x1), (2, .int x2), (3, .long x3), (5, .long x5)]) hx hb dM_isInCore_1 hl (by decide) rfl (fun ls hl => ?_)
  refine lv_bipush (v := 48) hx hb dM_isInCore_3 (by decide) ?_
  refine lv_iload_n hx hb dM_isInCore_5 rfl (lv_at hl 2 rfl) ?_
  refine lv_imul hx hb dM_isInCore_6 ?_
  refine lv_istore (lv' := [(8, .int ((48 : Int32) * x1)), (7, .int (0 : Int32)), (0, .ref (qm 0)), (1, .int x1), (2, .int x2), (3, .long x3), (5, .long x5)]) hx hb dM_isInCore_7 hl (by decide) rfl (fun ls hl => ?_)
  exact k9 64 x1 x2 x3 x5 (0 : Int32) ((48 : Int32) * x1) h ls (lv_sub hl [2, 3, 4, 5, 6, 1, 0] rfl)
theorem dM_haveCommon_0 : decode cM_haveCommon 0 = .ok (.iconst 0, 1) := by decide +kernel
theorem dM_haveCommon_1 : decode cM_haveCommon 1 = .ok (.istore_n 3, 1) := by decide +kernel
theorem dM_haveCommon_2 : decode cM_haveCommon 2 = .ok (.iload_n 3, 1) := by decide +kernel
theorem dM_haveCommon_3 : decode cM_haveCommon 3 = .ok (.aload_n 0, 1) := by decide +kernel
theorem dM_haveCommon_4 : decode cM_haveCommon 4 = .ok (.getfield 44, 3) := by decide +kernel
theorem dM_haveCommon_7 : decode cM_haveCommon 7 = .ok (.iconst 0, 1) := by decide +kernel
theorem dM_haveCommon_8 : decode cM_haveCommon 8 = .ok (.iaload, 1) := by decide +kernel
theorem dM_haveCommon_9 : decode cM_haveCommon 9 = .ok (.if_icmp .ge 116, 3) := by decide +kernel
theorem dM_haveCommon_12 : decode cM_haveCommon 12 = .ok (.aload_n 0, 1) := by decide +kernel
theorem dM_haveCommon_13 : decode cM_haveCommon 13 = .ok (.iconst 1, 1) := by decide +kernel
theorem dM_haveCommon_14 : decode cM_haveCommon 14 = .ok (.iload_n 2, 1) := by decide +kernel
theorem dM_haveCommon_15 : decode cM_haveCommon 15 = .ok (.aload_n 0, 1) := by decide +kernel
theorem dM_haveCommon_16 : decode cM_haveCommon 16 = .ok (.getfield 32, 3) := by decide +kernel
theorem dM_haveCommon_19 : decode cM_haveCommon 19 = .ok (.iload_n 3, 1) := by decide +kernel
theorem dM_haveCommon_20 : decode cM_haveCommon 20 = .ok (.laload, 1) := by decide +kernel
theorem dM_haveCommon_21 : decode cM_haveCommon 21 = .ok (.aload_n 0, 1) := by decide +kernel
theorem dM_haveCommon_22 : decode cM_haveCommon 22 = .ok (.getfield 35, 3) := by decide +kernel
theorem dM_haveCommon_25 : decode cM_haveCommon 25 = .ok (.iload_n 3, 1) := by decide +kernel
theorem dM_haveCommon_26 : decode cM_haveCommon 26 = .ok (.laload, 1) := by decide +kernel
theorem dM_haveCommon_27 : decode cM_haveCommon 27 = .ok (.invokevirtual 161, 3) := by decide +kernel
theorem dM_haveCommon_30 : decode cM_haveCommon 30 = .ok (.ifCond .eq 5, 3) := by decide +kernel
theorem dM_haveCommon_33 : decode cM_haveCommon 33 = .ok (.iconst 1, 1) := by decide +kernel
theorem dM_haveCommon_34 : decode cM_haveCommon 34 = .ok (.ireturn, 1) := by decide +kernel
theorem dM_haveCommon_35 : decode cM_haveCommon 35 = .ok (.bipush 48, 2) := by decide +kernel
theorem dM_haveCommon_37 : decode cM_haveCommon 37 = .ok (.istore 4, 2) := by decide +kernel
theorem dM_haveCommon_39 : decode cM_haveCommon 39 = .ok (.iload 4, 2) := by decide +kernel
theorem dM_haveCommon_41 : decode cM_haveCommon 41 = .ok (.bipush 48, 2) := by decide +kernel
theorem dM_haveCommon_43 : decode cM_haveCommon 43 = .ok (.aload_n 0, 1) := by decide +kernel
theorem dM_haveCommon_44 : decode cM_haveCommon 44 = .ok (.getfield 44, 3) := by decide +kernel
theorem dM_haveCommon_47 : decode cM_haveCommon 47 = .ok (.iconst 1, 1) := by decide +kernel
theorem dM_haveCommon_48 : decode cM_haveCommon 48 = .ok (.iaload, 1) := by decide +kernel
theorem dM_haveCommon_49 : decode cM_haveCommon 49 = .ok (.iadd, 1) := by decide +kernel
theorem dM_haveCommon_50 : decode cM_haveCommon 50 = .ok (.if_icmp .ge 69, 3) := by decide +kernel
theorem dM_haveCommon_53 : decode cM_haveCommon 53 = .ok (.aload_n 0, 1) := by decide +kernel
theorem dM_haveCommon_54 : decode cM_haveCommon 54 = .ok (.getfield 32, 3) := by decide +kernel
theorem dM_haveCommon_57 : decode cM_haveCommon 57 = .ok (.iload_n 3, 1) := by decide +kernel
theorem dM_haveCommon_58 : decode cM_haveCommon 58 = .ok (.laload, 1) := by decide +kernel
theorem dM_haveCommon_59 : decode cM_haveCommon 59 = .ok (.aload_n 0, 1) := by decide +kernel
theorem dM_haveCommon_60 : decode cM_haveCommon 60 = .ok (.getfield 35, 3) := by decide +kernel
theorem dM_haveCommon_63 : decode cM_haveCommon 63 = .ok (.iload_n 3, 1) := by decide +kernel
theorem dM_haveCommon_64 : decode cM_haveCommon 64 = .ok (.laload, 1) := by decide +kernel
theorem dM_haveCommon_65 : decode cM_haveCommon 65 = .ok (.aload_n 0, 1) := by decide +kernel
theorem dM_haveCommon_66 : decode cM_haveCommon 66 = .ok (.getfield 38, 3) := by decide +kernel
theorem dM_haveCommon_69 : decode cM_haveCommon 69 = .ok (.iload_n 3, 1) := by decide +kernel
theorem dM_haveCommon_70 : decode cM_haveCommon 70 = .ok (.laload, 1) := by decide +kernel
theorem dM_haveCommon_71 : decode cM_haveCommon 71 = .ok (.aload_n 0, 1) := by decide +kernel
theorem dM_haveCommon_72 : decode cM_haveCommon 72 = .ok (.getfield 41, 3) := by decide +kernel
theorem dM_haveCommon_75 : decode cM_haveCommon 75 = .ok (.iload_n 3, 1) := by decide +kernel
theorem dM_haveCommon_76 : decode cM_haveCommon 76 = .ok (.laload, 1) := by decide +kernel
theorem dM_haveCommon_77 : decode cM_haveCommon 77 = .ok (.aload_n 0, 1) := by decide +kernel
theorem dM_haveCommon_78 : decode cM_haveCommon 78 = .ok (.getfield 32, 3) := by decide +kernel
theorem dM_haveCommon_81 : decode cM_haveCommon 81 = .ok (.iload 4, 2) := by decide +kernel
theorem dM_haveCommon_83 : decode cM_haveCommon 83 = .ok (.laload, 1) := by decide +kernel
theorem dM_haveCommon_84 : decode cM_haveCommon 84 = .ok (.aload_n 0, 1) := by decide +kernel
theorem dM_haveCommon_85 : decode cM_haveCommon 85 = .ok (.getfield 35, 3) := by decide +kernel
theorem dM_haveCommon_88 : decode cM_haveCommon 88 = .ok (.iload 4, 2) := by decide +kernel
theorem dM_haveCommon_90 : decode cM_haveCommon 90 = .ok (.laload, 1) := by decide +kernel
theorem dM_haveCommon_91 : decode cM_haveCommon 91 = .ok (.aload_n 0, 1) := by decide +kernel
theorem dM_haveCommon_92 : decode cM_haveCommon 92 = .ok (.getfield 38, 3) := by decide +kernel
theorem dM_haveCommon_95 : decode cM_haveCommon 95 = .ok (.iload 4, 2) := by decide +kernel
theorem dM_haveCommon_97 : decode cM_haveCommon 97 = .ok (.laload, 1) := by decide +kernel
theorem dM_haveCommon_98 : decode cM_haveCommon 98 = .ok (.aload_n 0, 1) := by decide +kernel
theorem dM_haveCommon_99 : decode cM_haveCommon 99 = .ok (.getfield 41, 3) := by decide +kernel
theorem dM_haveCommon_102 : decode cM_haveCommon 102 = .ok (.iload 4, 2) := by decide +kernel
theorem dM_haveCommon_104 : decode cM_haveCommon 104 = .ok (.laload, 1) := by decide +kernel
theorem dM_haveCommon_105 : decode cM_haveCommon 105 = .ok (.invokestatic 122, 3) := by decide +kernel
theorem dM_haveCommon_108 : decode cM_haveCommon 108 = .ok (.ifCond .eq 5, 3) := by decide +kernel
theorem dM_haveCommon_111 : decode cM_haveCommon 111 = .ok (.iconst 1, 1) := by decide +kernel
theorem dM_haveCommon_112 : decode cM_haveCommon 112 = .ok (.ireturn, 1) := by decide +kernel
theorem dM_haveCommon_113 : decode cM_haveCommon 113 = .ok (.iinc 4 1, 3) := by decide +kernel
theorem dM_haveCommon_116 : decode cM_haveCommon 116 = .ok (.goto (-77), 3) := by decide +kernel
theorem dM_haveCommon_119 : decode cM_haveCommon 119 = .ok (.iinc 3 1, 3) := by decide +kernel
theorem dM_haveCommon_122 : decode cM_haveCommon 122 = .ok (.goto (-120), 3) := by decide +kernel
theorem dM_haveCommon_125 : decode cM_haveCommon 125 = .ok (.bipush 48, 2) := by decide +kernel
theorem dM_haveCommon_127 : decode cM_haveCommon 127 = .ok (.istore_n 3, 1) := by decide +kernel
theorem dM_haveCommon_128 : decode cM_haveCommon 128 = .ok (.iload_n 3, 1) := by decide +kernel
theorem dM_haveCommon_129 : decode cM_haveCommon 129 = .ok (.bipush 48, 2) := by decide +kernel
theorem dM_haveCommon_131 : decode cM_haveCommon 131 = .ok (.aload_n 0, 1) := by decide +kernel
theorem dM_haveCommon_132 : decode cM_haveCommon 132 = .ok (.getfield 44, 3) := by decide +kernel
theorem dM_haveCommon_135 : decode cM_haveCommon 135 = .ok (.iconst 1, 1) := by decide +kernel
theorem dM_haveCommon_136 : decode cM_haveCommon 136 = .ok (.iaload, 1) := by decide +kernel
theorem dM_haveCommon_137 : decode cM_haveCommon 137 = .ok (.iadd, 1) := by decide +kernel
theorem dM_haveCommon_138 : decode cM_haveCommon 138 = .ok (.if_icmp .ge 32, 3) := by decide +kernel
theorem dM_haveCommon_141 : decode cM_haveCommon 141 = .ok (.aload_n 0, 1) := by decide +kernel
theorem dM_haveCommon_142 : decode cM_haveCommon 142 = .ok (.iconst 0, 1) := by decide +kernel
theorem dM_haveCommon_143 : decode cM_haveCommon 143 = .ok (.iload_n 1, 1) := by decide +kernel
theorem dM_haveCommon_144 : decode cM_haveCommon 144 = .ok (.aload_n 0, 1) := by decide +kernel
theorem dM_haveCommon_145 : decode cM_haveCommon 145 = .ok (.getfield 32, 3) := by decide +kernel
theorem dM_haveCommon_148 : decode cM_haveCommon 148 = .ok (.iload_n 3, 1) := by decide +kernel
theorem dM_haveCommon_149 : decode cM_haveCommon 149 = .ok (.laload, 1) := by decide +kernel
theorem dM_haveCommon_150 : decode cM_haveCommon 150 = .ok (.aload_n 0, 1) := by decide +kernel
theorem dM_haveCommon_151 : decode cM_haveCommon 151 = .ok (.getfield 35, 3) := by decide +kernel
theorem dM_haveCommon_154 : decode cM_haveCommon 154 = .ok (.iload_n 3, 1) := by decide +kernel
theorem dM_haveCommon_155 : decode cM_haveCommon 155 = .ok (.laload, 1) := by decide +kernel
theorem dM_haveCommon_156 : decode cM_haveCommon 156 = .ok (.invokevirtual 161, 3) := by decide +kernel
theorem dM_haveCommon_159 : decode cM_haveCommon 159 = .ok (.ifCond .eq 5, 3) := by decide +kernel
theorem dM_haveCommon_162 : decode cM_haveCommon 162 = .ok (.iconst 1, 1) := by decide +kernel
theorem dM_haveCommon_163 : decode cM_haveCommon 163 = .ok (.ireturn, 1) := by decide +kernel
theorem dM_haveCommon_164 : decode cM_haveCommon 164 = .ok (.iinc 3 1, 3) := by decide +kernel
theorem dM_haveCommon_167 : decode cM_haveCommon 167 = .ok (.goto (-39), 3) := by decide +kernel
theorem dM_haveCommon_170 : decode cM_haveCommon 170 = .ok (.iconst 0, 1) := by decide +kernel
theorem dM_haveCommon_171 : decode cM_haveCommon 171 = .ok (.ireturn, 1) := by decide +kernel
def f_M_haveCommon_l128 (v : MV) : Nat → Int32 → Int32 → Option Int32
 | 0, _, _ => none
 | n + 1, p1, p3 => (ld 2 (md_size v) (1 : Int32)).bind fun u7 => (if ((48 : Int32) + u7) ≤ p3 then rb (0 : Int32) else (ld 96 (md_ax v) p3).bind fun u9 => (ld 96 (md_ay v) p3).bind fun u10 => (f_M_isInCore v (0 : Int32) p1 u9 u10).bind fun u11 => (if u11 = 0 then ((f_M_haveCommon_l128 v n) p1 (p3 + 1)) else rb (1 : Int32)))
def f_M_haveCommon_l39 (v : MV) (K2 : Int32 → Int32 → Int32 → Option Int32) : Nat → Int32 → Int32 → Int32 → Int32 → Option Int32
 | 0, _, _, _, _ => none
 | n + 1, p1, p2, p3, p4 => (ld 2 (md_size v) (1 : Int32)).bind fun u13 => (if ((48 : Int32) + u13) ≤ p4 then (K2 p1 p2 (p3 + 1)) else (ld 96 (md_ax v) p3).bind fun u15 => (ld 96 (md_ay v) p3).bind fun u16 => (ld 96 (md_bx v) p3).bind fun u17 => (ld 96 (md_by v) p3).bind fun u18 => (ld 96 (md_ax v) p4).bind fun u19 => (ld 96 (md_ay v) p4).bind fun u20 => (ld 96 (md_bx v) p4).bind fun u21 => (ld 96 (md_by v) p4).bind fun u22 => (f_M_meet u15 u16 u17 u18 u19 u20 u21 u22).bind fun u23 => (if u23 = 0 then ((f_M_haveCommon_l39 v K2 n) p1 p2 p3 (p4 + 1)) else rb (1 : Int32)))
def f_M_haveCommon_l2 (v : MV) : Nat → Int32 → Int32 → Int32 → Option Int32
 | 0, _, _, _ => none
 | n + 1, p1, p2, p3 => (ld 2 (md_size v) (0 : Int32)).bind fun u1 => (if u1 ≤ p3 then (f_M_haveCommon_l128 v 64 p1 (48 : Int32)) else (ld 96 (md_ax v) p3).bind fun u3 => (ld 96 (md_ay v) p3).bind fun u4 => (f_M_isInCore v (1 : Int32) p2 u3 u4).bind fun u5 => (if u5 = 0 then (f_M_haveCommon_l39 v (f_M_haveCommon_l2 v n) 64 p1 p2 p3 (48 : Int32)) else rb (1 : Int32)))
def f_M_haveCommon (v : MV) (x1 : Int32) (x2 : Int32) : Option Int32 := (f_M_haveCommon_l2 v 64 x1 x2 (0 : Int32))
set_option maxHeartbeats 4000000 in
set_option maxRecDepth 100000 in
theorem k_M_haveCommon (l : Launch) (dC : Nat → ClassId) (dI : Nat → Nat → Nat) (cL cI : ClassId) (qm : Nat → Nat) (v : MV) (x1 : Int32) (x2 : Int32) (r : Int32) (h : f_M_haveCommon v x1 x2 = some r) : Met l yM_haveCommon wsM_haveCommon ({ frames := 4, cells := 0, slots := 0, locals := 126 }) (rd_Pc [.ref (qm 0), .int x1, .int x2] (fun H => va_P (dC, dI) cls3 (mdW cL cI qm v) H) (dC, dI) cls3 [(cL, .long), (cI, .int)]) (vp_Si (fun z => z = r)) 0 0 (fun _ => False) := by
  refine Met.ofW (cc := cM_haveCommon) (maxL := 5) (ret := (some .boolean)) (by decide) rfl ?_
  intro p e s m args below meth c s₁ B hml hv
  obtain ⟨rfl, hPm, hK⟩ := hv
  have hx := B.exec
  have hb := B.bytes
  have hr := B.returns
  have hw : ∀ w ∈ wG, w.before ([.ref (qm 0), .int x1, .int x2] : List Value).toArray s = true := fun w hq => atoms_spec (ws := wsM_haveCommon) B.pre w (List.mem_cons_of_mem _ hq)
  have hown : s.vm.findClass R_M = some m.cls := findClass_of_methodNamed B.named
  have hlocks := B.notSynchronized
  have hl := lv_entry ([.ref (qm 0), .int x1, .int x2] : List Value) (n := 5) (Nat.le_of_ble_eq_true rfl)
  rw [lg_entry_eq]
  generalize (lg_sl ([.ref (qm 0), .int x1, .int x2] : List Value) ++ List.replicate (5 - (lg_sl ([.ref (qm 0), .int x1, .int x2] : List Value)).length) Slot.unset).toArray = ls at hl ⊢
  have hl : lv_has ls 5 [(0, .ref (qm 0)), (1, .int x1), (2, .int x2)] := hl
  have k128 : ∀ (n128 : Nat), ∀ (p1 : Int32) (p3 : Int32), f_M_haveCommon_l128 v n128 p1 p3 = some r →  ∀ (ls : Array Slot), lv_has ls 5 [(0, .ref (qm 0)), (1, .int p1), (3, .int p3)] → W p l e (headSpec wsM_haveCommon ({ frames := 4, cells := 0, slots := 0, locals := 126 })).room s m ([.ref (qm 0), .int x1, .int x2] : List Value).toArray below meth c s.heap [] 0 0 (MQ below (vp_Si (fun z => z = r)) ([.ref (qm 0), .int x1, .int x2] : List Value).toArray s 0 0 (fun _ => False)) (F0 m 128 ls []) := by
    intro n128
    induction n128 with
    | zero => intro p1 p3 h; exact absurd h (by simp [f_M_haveCommon_l128])
    | succ n128 ih128 =>
      intro p1 p3 h  ls hl
      rw [f_M_haveCommon_l128] at h
      refine lv_iload_n hx hb dM_haveCommon_128 rfl (lv_at hl 2 rfl) ?_
      refine lv_bipush (v := 48) hx hb dM_haveCommon_129 (by decide) ?_
      refine lv_aload_n hx hb dM_haveCommon_131 rfl (lv_at hl 0 rfl) ?_
      refine va_get (D := (dC, dI)) (ci := 2) (v := .ref (qm 12)) (C := R_M) (T := T_M) (N := 15) hx hb hw in_M hown hK hPm 0 rfl rfl 13 (by decide) (hw _ w_458) (fun _ h9 => h9) rfl dM_haveCommon_132 ?_
      refine lv_iconst (v := 1) hx hb dM_haveCommon_135 (by decide) ?_
      obtain ⟨u7, hu7, h⟩ := ob_some h
      obtain ⟨hiu7, eu7⟩ := ld_of hu7
      refine va_iald hx hb hK hPm 12 1 rfl rfl hiu7 dM_haveCommon_136 ?_
      rw [eu7]
      refine lv_iadd hx hb dM_haveCommon_137 ?_
      refine lv_icmp_ge (tgt := 170) hx hb dM_haveCommon_138 (by decide) (fun c8 => ?_) (fun c8 => ?_)
      · have h := it_t c8 h
        refine lv_iconst (v := 0) hx hb dM_haveCommon_170 (by decide) ?_
        obtain ⟨hz, hr9⟩ := rb_of h
        exact W.zret hx hb hr hz (fun t ht hW => ⟨_, rfl, hr9, ht⟩) nil_locs dM_haveCommon_171
      · have h := it_f c8 h
        refine lv_aload_n hx hb dM_haveCommon_141 rfl (lv_at hl 0 rfl) ?_
        refine lv_iconst (v := 0) hx hb dM_haveCommon_142 (by decide) ?_
        refine lv_iload_n hx hb dM_haveCommon_143 rfl (lv_at hl 1 rfl) ?_
        refine lv_aload_n hx hb dM_haveCommon_144 rfl (lv_at hl 0 rfl) ?_
        refine va_get (D := (dC, dI)) (ci := 2) (v := .ref (qm 8)) (C := R_M) (T := T_M) (N := 15) hx hb hw in_M hown hK hPm 0 rfl rfl 9 (by decide) (hw _ w_454) (fun _ h9 => h9) rfl dM_haveCommon_145 ?_
        refine lv_iload_n hx hb dM_haveCommon_148 rfl (lv_at hl 2 rfl) ?_
        obtain ⟨u9, hu9, h⟩ := ob_some h
        obtain ⟨hiu9, eu9⟩ := ld_of hu9
        refine va_lald hx hb hK hPm 8 0 rfl rfl hiu9 dM_haveCommon_149 ?_
        rw [eu9]
        refine lv_aload_n hx hb dM_haveCommon_150 rfl (lv_at hl 0 rfl) ?_
        refine va_get (D := (dC, dI)) (ci := 2) (v := .ref (qm 9)) (C := R_M) (T := T_M) (N := 15) hx hb hw in_M hown hK hPm 0 rfl rfl 10 (by decide) (hw _ w_455) (fun _ h9 => h9) rfl dM_haveCommon_151 ?_
        refine lv_iload_n hx hb dM_haveCommon_154 rfl (lv_at hl 2 rfl) ?_
        obtain ⟨u10, hu10, h⟩ := ob_some h
        obtain ⟨hiu10, eu10⟩ := ld_of hu10
        refine va_lald hx hb hK hPm 9 0 rfl rfl hiu10 dM_haveCommon_155 ?_
        rw [eu10]
        obtain ⟨u11, hu11, h⟩ := ob_some h
        refine vp_callSi (va_Run.run (va_runV (As := [.int (0 : Int32), .int p1, .long u9, .long u10]) (rest := []) ⟨hx, hb, hml, hown, hw⟩ (k_M_isInCore l dC dI cL cI qm v (0 : Int32) p1 u9 u10 u11 hu11) (cwV 4 hw (gV w_615 w_617 wp_21 w_2 w_618) rfl rfl rfl (by decide +kernel) ⟨Nat.le_of_ble_eq_true rfl, Nat.le_of_ble_eq_true rfl⟩) ⟨rd_blind, va_recv hK hPm (ci := 2) (q0 := 0) rfl rfl, rd_pre hPm hK⟩ rfl rfl hl.1 rfl (lv_room (Nat.le_of_ble_eq_true rfl)) dM_haveCommon_156 ⟨Nat.le_of_ble_eq_true rfl, Nat.le_of_ble_eq_true rfl⟩)) (fun z hz => ?_)
        rw [hz]; clear hz
        refine lv_if_eq (tgt := 164) hx hb dM_haveCommon_159 (by decide) (fun c12 => ?_) (fun c12 => ?_)
        · have h := it_t c12 h
          refine lv_iinc (v := p3 + 1) (lv' := [(3, .int (p3 + 1)), (0, .ref (qm 0)), (1, .int p1)]) hx hb dM_haveCommon_164 hl (k := 2) rfl rfl (by decide) rfl (fun ls hl => ?_)
          refine lv_goto (tgt := 128) hx hb dM_haveCommon_167 (by decide) ?_
          exact ih128 p1 (p3 + 1) h ls (lv_sub hl [1, 2, 0] rfl)
        · have h := it_f c12 h
          refine lv_iconst (v := 1) hx hb dM_haveCommon_162 (by decide) ?_
          obtain ⟨hz, hr9⟩ := rb_of h
          exact W.zret hx hb hr hz (fun t ht hW => ⟨_, rfl, hr9, ht⟩) nil_locs dM_haveCommon_163
  have k2 : ∀ (n2 : Nat), ∀ (p1 : Int32) (p2 : Int32) (p3 : Int32), f_M_haveCommon_l2 v n2 p1 p2 p3 = some r →  ∀ (ls : Array Slot), lv_has ls 5 [(0, .ref (qm 0)), (1, .int p1), (2, .int p2), (3, .int p3)] → W p l e (headSpec wsM_haveCommon ({ frames := 4, cells := 0, slots := 0, locals := 126 })).room s m ([.ref (qm 0), .int x1, .int x2] : List Value).toArray below meth c s.heap [] 0 0 (MQ below (vp_Si (fun z => z = r)) ([.ref (qm 0), .int x1, .int x2] : List Value).toArray s 0 0 (fun _ => False)) (F0 m 2 ls []) := by
    intro n2
    induction n2 with
    | zero => intro p1 p2 p3 h; exact absurd h (by simp [f_M_haveCommon_l2])
    | succ n2 ih2 =>
      have k39 : ∀ (n39 : Nat), ∀ (p1 : Int32) (p2 : Int32) (p3 : Int32) (p4 : Int32), f_M_haveCommon_l39 v (f_M_haveCommon_l2 v n2) n39 p1 p2 p3 p4 = some r →  ∀ (ls : Array Slot), lv_has ls 5 [(0, .ref (qm 0)), (1, .int p1), (2, .int p2), (3, .int p3), (4, .int p4)] → W p l e (headSpec wsM_haveCommon ({ frames := 4, cells := 0, slots := 0, locals := 126 })).room s m ([.ref (qm 0), .int x1, .int x2] : List Value).toArray below meth c s.heap [] 0 0 (MQ below (vp_Si (fun z => z = r)) ([.ref (qm 0), .int x1, .int x2] : List Value).toArray s 0 0 (fun _ => False)) (F0 m 39 ls []) := by
        intro n39
        induction n39 with
        | zero => intro p1 p2 p3 p4 h; exact absurd h (by simp [f_M_haveCommon_l39])
        | succ n39 ih39 =>
          intro p1 p2 p3 p4 h  ls hl
          rw [f_M_haveCommon_l39] at h
          refine lv_iload hx hb dM_haveCommon_39 (lv_at hl 4 rfl) ?_
          refine lv_bipush (v := 48) hx hb dM_haveCommon_41 (by decide) ?_
          refine lv_aload_n hx hb dM_haveCommon_43 rfl (lv_at hl 0 rfl) ?_
          refine va_get (D := (dC, dI)) (ci := 2) (v := .ref (qm 12)) (C := R_M) (T := T_M) (N := 15) hx hb hw in_M hown hK hPm 0 rfl rfl 13 (by decide) (hw _ w_458) (fun _ h9 => h9) rfl dM_haveCommon_44 ?_
          refine lv_iconst (v := 1) hx hb dM_haveCommon_47 (by decide) ?_
          obtain ⟨u13, hu13, h⟩ := ob_some h
          obtain ⟨hiu13, eu13⟩ := ld_of hu13
          refine va_iald hx hb hK hPm 12 1 rfl rfl hiu13 dM_haveCommon_48 ?_
          rw [eu13]
          refine lv_iadd hx hb dM_haveCommon_49 ?_
          refine lv_icmp_ge (tgt := 119) hx hb dM_haveCommon_50 (by decide) (fun c14 => ?_) (fun c14 => ?_)
          · have h := it_t c14 h
            refine lv_iinc (v := p3 + 1) (lv' := [(3, .int (p3 + 1)), (0, .ref (qm 0)), (1, .int p1), (2, .int p2), (4, .int p4)]) hx hb dM_haveCommon_119 hl (k := 3) rfl rfl (by decide) rfl (fun ls hl => ?_)
            refine lv_goto (tgt := 2) hx hb dM_haveCommon_122 (by decide) ?_
            exact ih2 p1 p2 (p3 + 1) h ls (lv_sub hl [1, 2, 3, 0] rfl)
          · have h := it_f c14 h
            refine lv_aload_n hx hb dM_haveCommon_53 rfl (lv_at hl 0 rfl) ?_
            refine va_get (D := (dC, dI)) (ci := 2) (v := .ref (qm 8)) (C := R_M) (T := T_M) (N := 15) hx hb hw in_M hown hK hPm 0 rfl rfl 9 (by decide) (hw _ w_454) (fun _ h9 => h9) rfl dM_haveCommon_54 ?_
            refine lv_iload_n hx hb dM_haveCommon_57 rfl (lv_at hl 3 rfl) ?_
            obtain ⟨u15, hu15, h⟩ := ob_some h
            obtain ⟨hiu15, eu15⟩ := ld_of hu15
            refine va_lald hx hb hK hPm 8 0 rfl rfl hiu15 dM_haveCommon_58 ?_
            rw [eu15]
            refine lv_aload_n hx hb dM_haveCommon_59 rfl (lv_at hl 0 rfl) ?_
            refine va_get (D := (dC, dI)) (ci := 2) (v := .ref (qm 9)) (C := R_M) (T := T_M) (N := 15) hx hb hw in_M hown hK hPm 0 rfl rfl 10 (by decide) (hw _ w_455) (fun _ h9 => h9) rfl dM_haveCommon_60 ?_
            refine lv_iload_n hx hb dM_haveCommon_63 rfl (lv_at hl 3 rfl) ?_
            obtain ⟨u16, hu16, h⟩ := ob_some h
            obtain ⟨hiu16, eu16⟩ := ld_of hu16
            refine va_lald hx hb hK hPm 9 0 rfl rfl hiu16 dM_haveCommon_64 ?_
            rw [eu16]
            refine lv_aload_n hx hb dM_haveCommon_65 rfl (lv_at hl 0 rfl) ?_
            refine va_get (D := (dC, dI)) (ci := 2) (v := .ref (qm 10)) (C := R_M) (T := T_M) (N := 15) hx hb hw in_M hown hK hPm 0 rfl rfl 11 (by decide) (hw _ w_456) (fun _ h9 => h9) rfl dM_haveCommon_66 ?_
            refine lv_iload_n hx hb dM_haveCommon_69 rfl (lv_at hl 3 rfl) ?_
            obtain ⟨u17, hu17, h⟩ := ob_some h
            obtain ⟨hiu17, eu17⟩ := ld_of hu17
            refine va_lald hx hb hK hPm 10 0 rfl rfl hiu17 dM_haveCommon_70 ?_
            rw [eu17]
            refine lv_aload_n hx hb dM_haveCommon_71 rfl (lv_at hl 0 rfl) ?_
            refine va_get (D := (dC, dI)) (ci := 2) (v := .ref (qm 11)) (C := R_M) (T := T_M) (N := 15) hx hb hw in_M hown hK hPm 0 rfl rfl 12 (by decide) (hw _ w_457) (fun _ h9 => h9) rfl dM_haveCommon_72 ?_
            refine lv_iload_n hx hb dM_haveCommon_75 rfl (lv_at hl 3 rfl) ?_
            obtain ⟨u18, hu18, h⟩ := ob_some h
            obtain ⟨hiu18, eu18⟩ := ld_of hu18
            refine va_lald hx hb hK hPm 11 0 rfl rfl hiu18 dM_haveCommon_76 ?_
            rw [eu18]
            refine lv_aload_n hx hb dM_haveCommon_77 rfl (lv_at hl 0 rfl) ?_
            refine va_get (D := (dC, dI)) (ci := 2) (v := .ref (qm 8)) (C := R_M) (T := T_M) (N := 15) hx hb hw in_M hown hK hPm 0 rfl rfl 9 (by decide) (hw _ w_454) (fun _ h9 => h9) rfl dM_haveCommon_78 ?_
            refine lv_iload hx hb dM_haveCommon_81 (lv_at hl 4 rfl) ?_
            obtain ⟨u19, hu19, h⟩ := ob_some h
            obtain ⟨hiu19, eu19⟩ := ld_of hu19
            refine va_lald hx hb hK hPm 8 0 rfl rfl hiu19 dM_haveCommon_83 ?_
            rw [eu19]
            refine lv_aload_n hx hb dM_haveCommon_84 rfl (lv_at hl 0 rfl) ?_
            refine va_get (D := (dC, dI)) (ci := 2) (v := .ref (qm 9)) (C := R_M) (T := T_M) (N := 15) hx hb hw in_M hown hK hPm 0 rfl rfl 10 (by decide) (hw _ w_455) (fun _ h9 => h9) rfl dM_haveCommon_85 ?_
            refine lv_iload hx hb dM_haveCommon_88 (lv_at hl 4 rfl) ?_
            obtain ⟨u20, hu20, h⟩ := ob_some h
            obtain ⟨hiu20, eu20⟩ := ld_of hu20
            refine va_lald hx hb hK hPm 9 0 rfl rfl hiu20 dM_haveCommon_90 ?_
            rw [eu20]
            refine lv_aload_n hx hb dM_haveCommon_91 rfl (lv_at hl 0 rfl) ?_
            refine va_get (D := (dC, dI)) (ci := 2) (v := .ref (qm 10)) (C := R_M) (T := T_M) (N := 15) hx hb hw in_M hown hK hPm 0 rfl rfl 11 (by decide) (hw _ w_456) (fun _ h9 => h9) rfl dM_haveCommon_92 ?_
            refine lv_iload hx hb dM_haveCommon_95 (lv_at hl 4 rfl) ?_
            obtain ⟨u21, hu21, h⟩ := ob_some h
            obtain ⟨hiu21, eu21⟩ := ld_of hu21
            refine va_lald hx hb hK hPm 10 0 rfl rfl hiu21 dM_haveCommon_97 ?_
            rw [eu21]
            refine lv_aload_n hx hb dM_haveCommon_98 rfl (lv_at hl 0 rfl) ?_
            refine va_get (D := (dC, dI)) (ci := 2) (v := .ref (qm 11)) (C := R_M) (T := T_M) (N := 15) hx hb hw in_M hown hK hPm 0 rfl rfl 12 (by decide) (hw _ w_457) (fun _ h9 => h9) rfl dM_haveCommon_99 ?_
            refine lv_iload hx hb dM_haveCommon_102 (lv_at hl 4 rfl) ?_
            obtain ⟨u22, hu22, h⟩ := ob_some h
            obtain ⟨hiu22, eu22⟩ := ld_of hu22
            refine va_lald hx hb hK hPm 11 0 rfl rfl hiu22 dM_haveCommon_104 ?_
            rw [eu22]
            obtain ⟨u23, hu23, h⟩ := ob_some h
            refine vp_callSi (va_Run.run (va_runS (As := [.long u15, .long u16, .long u17, .long u18, .long u19, .long u20, .long u21, .long u22]) (rest := []) ⟨hx, hb, hml, hown, hw⟩ (k_M_meet l dC dI cL cI u15 u16 u17 u18 u19 u20 u21 u22 u23 hu23) (va_cwS 8 hw (gS w_588 w_589 w_2 w_590) rfl rfl rfl (by decide +kernel) ⟨Nat.le_of_ble_eq_true rfl, Nat.le_of_ble_eq_true rfl⟩) ⟨rd_blind, rd_pre trivial hK⟩ rfl rfl hl.1 rfl (lv_room (Nat.le_of_ble_eq_true rfl)) dM_haveCommon_105 ⟨Nat.le_of_ble_eq_true rfl, Nat.le_of_ble_eq_true rfl⟩)) (fun z hz => ?_)
            rw [hz]; clear hz
            refine lv_if_eq (tgt := 113) hx hb dM_haveCommon_108 (by decide) (fun c24 => ?_) (fun c24 => ?_)
            · have h := it_t c24 h
              refine lv_iinc (v := p4 + 1) (lv' := [(4, .int (p4 + 1)), (0, .ref (qm 0)), (1, .int p1), (2, .int p2), (3, .int p3)]) hx hb dM_haveCommon_113 hl (k := 4) rfl rfl (by decide) rfl (fun ls hl => ?_)
              refine lv_goto (tgt := 39) hx hb dM_haveCommon_116 (by decide) ?_
              exact ih39 p1 p2 p3 (p4 + 1) h ls (lv_sub hl [1, 2, 3, 4, 0] rfl)
            · have h := it_f c24 h
              refine lv_iconst (v := 1) hx hb dM_haveCommon_111 (by decide) ?_
              obtain ⟨hz, hr9⟩ := rb_of h
              exact W.zret hx hb hr hz (fun t ht hW => ⟨_, rfl, hr9, ht⟩) nil_locs dM_haveCommon_112
      intro p1 p2 p3 h  ls hl
      rw [f_M_haveCommon_l2] at h
      refine lv_iload_n hx hb dM_haveCommon_2 rfl (lv_at hl 3 rfl) ?_
      refine lv_aload_n hx hb dM_haveCommon_3 rfl (lv_at hl 0 rfl) ?_
      refine va_get (D := (dC, dI)) (ci := 2) (v := .ref (qm 12)) (C := R_M) (T := T_M) (N := 15) hx hb hw in_M hown hK hPm 0 rfl rfl 13 (by decide) (hw _ w_458) (fun _ h9 => h9) rfl dM_haveCommon_4 ?_
      refine lv_iconst (v := 0) hx hb dM_haveCommon_7 (by decide) ?_
      obtain ⟨u1, hu1, h⟩ := ob_some h
      obtain ⟨hiu1, eu1⟩ := ld_of hu1
      refine va_iald hx hb hK hPm 12 1 rfl rfl hiu1 dM_haveCommon_8 ?_
      rw [eu1]
      refine lv_icmp_ge (tgt := 125) hx hb dM_haveCommon_9 (by decide) (fun c2 => ?_) (fun c2 => ?_)
      · have h := it_t c2 h
        refine lv_bipush (v := 48) hx hb dM_haveCommon_125 (by decide) ?_
        refine lv_istore_n (lv' := [(3, .int (48 : Int32)), (0, .ref (qm 0)), (1, .int p1), (2, .int p2)]) hx hb dM_haveCommon_127 rfl hl (by decide) rfl (fun ls hl => ?_)
        exact k128 64 p1 (48 : Int32) h ls (lv_sub hl [1, 2, 0] rfl)
      · have h := it_f c2 h
        refine lv_aload_n hx hb dM_haveCommon_12 rfl (lv_at hl 0 rfl) ?_
        refine lv_iconst (v := 1) hx hb dM_haveCommon_13 (by decide) ?_
        refine lv_iload_n hx hb dM_haveCommon_14 rfl (lv_at hl 2 rfl) ?_
        refine lv_aload_n hx hb dM_haveCommon_15 rfl (lv_at hl 0 rfl) ?_
        refine va_get (D := (dC, dI)) (ci := 2) (v := .ref (qm 8)) (C := R_M) (T := T_M) (N := 15) hx hb hw in_M hown hK hPm 0 rfl rfl 9 (by decide) (hw _ w_454) (fun _ h9 => h9) rfl dM_haveCommon_16 ?_
        refine lv_iload_n hx hb dM_haveCommon_19 rfl (lv_at hl 3 rfl) ?_
        obtain ⟨u3, hu3, h⟩ := ob_some h
        obtain ⟨hiu3, eu3⟩ := ld_of hu3
        refine va_lald hx hb hK hPm 8 0 rfl rfl hiu3 dM_haveCommon_20 ?_
        rw [eu3]
        refine lv_aload_n hx hb dM_haveCommon_21 rfl (lv_at hl 0 rfl) ?_
        refine va_get (D := (dC, dI)) (ci := 2) (v := .ref (qm 9)) (C := R_M) (T := T_M) (N := 15) hx hb hw in_M hown hK hPm 0 rfl rfl 10 (by decide) (hw _ w_455) (fun _ h9 => h9) rfl dM_haveCommon_22 ?_
        refine lv_iload_n hx hb dM_haveCommon_25 rfl (lv_at hl 3 rfl) ?_
        obtain ⟨u4, hu4, h⟩ := ob_some h
        obtain ⟨hiu4, eu4⟩ := ld_of hu4
        refine va_lald hx hb hK hPm 9 0 rfl rfl hiu4 dM_haveCommon_26 ?_
        rw [eu4]
        obtain ⟨u5, hu5, h⟩ := ob_some h
        refine vp_callSi (va_Run.run (va_runV (As := [.int (1 : Int32), .int p2, .long u3, .long u4]) (rest := []) ⟨hx, hb, hml, hown, hw⟩ (k_M_isInCore l dC dI cL cI qm v (1 : Int32) p2 u3 u4 u5 hu5) (cwV 4 hw (gV w_615 w_617 wp_21 w_2 w_618) rfl rfl rfl (by decide +kernel) ⟨Nat.le_of_ble_eq_true rfl, Nat.le_of_ble_eq_true rfl⟩) ⟨rd_blind, va_recv hK hPm (ci := 2) (q0 := 0) rfl rfl, rd_pre hPm hK⟩ rfl rfl hl.1 rfl (lv_room (Nat.le_of_ble_eq_true rfl)) dM_haveCommon_27 ⟨Nat.le_of_ble_eq_true rfl, Nat.le_of_ble_eq_true rfl⟩)) (fun z hz => ?_)
        rw [hz]; clear hz
        refine lv_if_eq (tgt := 35) hx hb dM_haveCommon_30 (by decide) (fun c6 => ?_) (fun c6 => ?_)
        · have h := it_t c6 h
          refine lv_bipush (v := 48) hx hb dM_haveCommon_35 (by decide) ?_
          refine lv_istore (lv' := [(4, .int (48 : Int32)), (0, .ref (qm 0)), (1, .int p1), (2, .int p2), (3, .int p3)]) hx hb dM_haveCommon_37 hl (by decide) rfl (fun ls hl => ?_)
          exact k39 64 p1 p2 p3 (48 : Int32) h ls (lv_sub hl [1, 2, 3, 4, 0] rfl)
        · have h := it_f c6 h
          refine lv_iconst (v := 1) hx hb dM_haveCommon_33 (by decide) ?_
          obtain ⟨hz, hr9⟩ := rb_of h
          exact W.zret hx hb hr hz (fun t ht hW => ⟨_, rfl, hr9, ht⟩) nil_locs dM_haveCommon_34
  unfold f_M_haveCommon at h
  refine lv_iconst (v := 0) hx hb dM_haveCommon_0 (by decide) ?_
  refine lv_istore_n (lv' := [(3, .int (0 : Int32)), (0, .ref (qm 0)), (1, .int x1), (2, .int x2)]) hx hb dM_haveCommon_1 rfl hl (by decide) rfl (fun ls hl => ?_)
  exact k2 64 x1 x2 (0 : Int32) h ls (lv_sub hl [1, 2, 3, 0] rfl)
end
section
/-! the reference: covering, laid by program -/
theorem dM_isLine_0 : decode cM_isLine 0 = .ok (.aload_n 2, 1) := by decide +kernel
theorem dM_isLine_1 : decode cM_isLine 1 = .ok (.iload_n 0, 1) := by decide +kernel
theorem dM_isLine_2 : decode cM_isLine 2 = .ok (.laload, 1) := by decide +kernel
theorem dM_isLine_3 : decode cM_isLine 3 = .ok (.aload_n 3, 1) := by decide +kernel
theorem dM_isLine_4 : decode cM_isLine 4 = .ok (.iload_n 0, 1) := by decide +kernel
theorem dM_isLine_5 : decode cM_isLine 5 = .ok (.laload, 1) := by decide +kernel
theorem dM_isLine_6 : decode cM_isLine 6 = .ok (.aload 4, 2) := by decide +kernel
theorem dM_isLine_8 : decode cM_isLine 8 = .ok (.iload_n 0, 1) := by decide +kernel
theorem dM_isLine_9 : decode cM_isLine 9 = .ok (.laload, 1) := by decide +kernel
theorem dM_isLine_10 : decode cM_isLine 10 = .ok (.aload 5, 2) := by decide +kernel
theorem dM_isLine_12 : decode cM_isLine 12 = .ok (.iload_n 0, 1) := by decide +kernel
theorem dM_isLine_13 : decode cM_isLine 13 = .ok (.laload, 1) := by decide +kernel
theorem dM_isLine_14 : decode cM_isLine 14 = .ok (.aload_n 2, 1) := by decide +kernel
theorem dM_isLine_15 : decode cM_isLine 15 = .ok (.iload_n 1, 1) := by decide +kernel
theorem dM_isLine_16 : decode cM_isLine 16 = .ok (.laload, 1) := by decide +kernel
theorem dM_isLine_17 : decode cM_isLine 17 = .ok (.aload_n 3, 1) := by decide +kernel
theorem dM_isLine_18 : decode cM_isLine 18 = .ok (.iload_n 1, 1) := by decide +kernel
theorem dM_isLine_19 : decode cM_isLine 19 = .ok (.laload, 1) := by decide +kernel
theorem dM_isLine_20 : decode cM_isLine 20 = .ok (.invokestatic 103, 3) := by decide +kernel
theorem dM_isLine_23 : decode cM_isLine 23 = .ok (.ifCond .ne 35, 3) := by decide +kernel
theorem dM_isLine_26 : decode cM_isLine 26 = .ok (.aload_n 2, 1) := by decide +kernel
theorem dM_isLine_27 : decode cM_isLine 27 = .ok (.iload_n 0, 1) := by decide +kernel
theorem dM_isLine_28 : decode cM_isLine 28 = .ok (.laload, 1) := by decide +kernel
theorem dM_isLine_29 : decode cM_isLine 29 = .ok (.aload_n 3, 1) := by decide +kernel
theorem dM_isLine_30 : decode cM_isLine 30 = .ok (.iload_n 0, 1) := by decide +kernel
theorem dM_isLine_31 : decode cM_isLine 31 = .ok (.laload, 1) := by decide +kernel
theorem dM_isLine_32 : decode cM_isLine 32 = .ok (.aload 4, 2) := by decide +kernel
theorem dM_isLine_34 : decode cM_isLine 34 = .ok (.iload_n 0, 1) := by decide +kernel
theorem dM_isLine_35 : decode cM_isLine 35 = .ok (.laload, 1) := by decide +kernel
theorem dM_isLine_36 : decode cM_isLine 36 = .ok (.aload 5, 2) := by decide +kernel
theorem dM_isLine_38 : decode cM_isLine 38 = .ok (.iload_n 0, 1) := by decide +kernel
theorem dM_isLine_39 : decode cM_isLine 39 = .ok (.laload, 1) := by decide +kernel
theorem dM_isLine_40 : decode cM_isLine 40 = .ok (.aload 4, 2) := by decide +kernel
theorem dM_isLine_42 : decode cM_isLine 42 = .ok (.iload_n 1, 1) := by decide +kernel
theorem dM_isLine_43 : decode cM_isLine 43 = .ok (.laload, 1) := by decide +kernel
theorem dM_isLine_44 : decode cM_isLine 44 = .ok (.aload 5, 2) := by decide +kernel
theorem dM_isLine_46 : decode cM_isLine 46 = .ok (.iload_n 1, 1) := by decide +kernel
theorem dM_isLine_47 : decode cM_isLine 47 = .ok (.laload, 1) := by decide +kernel
theorem dM_isLine_48 : decode cM_isLine 48 = .ok (.invokestatic 103, 3) := by decide +kernel
theorem dM_isLine_51 : decode cM_isLine 51 = .ok (.ifCond .ne 7, 3) := by decide +kernel
theorem dM_isLine_54 : decode cM_isLine 54 = .ok (.iconst 1, 1) := by decide +kernel
theorem dM_isLine_55 : decode cM_isLine 55 = .ok (.goto 4, 3) := by decide +kernel
theorem dM_isLine_58 : decode cM_isLine 58 = .ok (.iconst 0, 1) := by decide +kernel
theorem dM_isLine_59 : decode cM_isLine 59 = .ok (.ireturn, 1) := by decide +kernel
def f_M_isLine_j59 (g2 : Nat → Int64) (g3 : Nat → Int64) (g4 : Nat → Int64) (g5 : Nat → Int64) (s0 : Int32) : Option Int32 := rb s0
def f_M_isLine_j58 (g2 : Nat → Int64) (g3 : Nat → Int64) (g4 : Nat → Int64) (g5 : Nat → Int64) : Option Int32 := (f_M_isLine_j59 g2 g3 g4 g5 (0 : Int32))
def f_M_isLine (g2 : Nat → Int64) (g3 : Nat → Int64) (g4 : Nat → Int64) (g5 : Nat → Int64) (x0 : Int32) (x1 : Int32) : Option Int32 := (ld 96 g2 x0).bind fun u1 => (ld 96 g3 x0).bind fun u2 => (ld 96 g4 x0).bind fun u3 => (ld 96 g5 x0).bind fun u4 => (ld 96 g2 x1).bind fun u5 => (ld 96 g3 x1).bind fun u6 => (f_M_turnOf u1 u2 u3 u4 u5 u6).bind fun u7 => (if u7 = 0 then (ld 96 g2 x0).bind fun u9 => (ld 96 g3 x0).bind fun u10 => (ld 96 g4 x0).bind fun u11 => (ld 96 g5 x0).bind fun u12 => (ld 96 g4 x1).bind fun u13 => (ld 96 g5 x1).bind fun u14 => (f_M_turnOf u9 u10 u11 u12 u13 u14).bind fun u15 => (if u15 = 0 then (f_M_isLine_j59 g2 g3 g4 g5 (1 : Int32)) else (f_M_isLine_j58 g2 g3 g4 g5)) else (f_M_isLine_j58 g2 g3 g4 g5))
set_option maxHeartbeats 4000000 in
set_option maxRecDepth 100000 in
theorem k_M_isLine (l : Launch) (dC : Nat → ClassId) (dI : Nat → Nat → Nat) (cL cI : ClassId) (r2 : Nat) (g2 : Nat → Int64) (r3 : Nat) (g3 : Nat → Int64) (r4 : Nat) (g4 : Nat → Int64) (r5 : Nat) (g5 : Nat → Int64) (x0 : Int32) (x1 : Int32) (r : Int32) (h : f_M_isLine g2 g3 g4 g5 x0 x1 = some r) : Met l yM_isLine wsM_isLine ({ frames := 2, cells := 0, slots := 0, locals := 58 }) (rd_Pc [.int x0, .int x1, .ref r2, .ref r3, .ref r4, .ref r5] (fun H => va_P (dC, dI) cls3 [(r2, .inl (cL, 96, .inr (.inl g2)))] H ∧ va_P (dC, dI) cls3 [(r3, .inl (cL, 96, .inr (.inl g3)))] H ∧ va_P (dC, dI) cls3 [(r4, .inl (cL, 96, .inr (.inl g4)))] H ∧ va_P (dC, dI) cls3 [(r5, .inl (cL, 96, .inr (.inl g5)))] H) (dC, dI) cls3 [(cL, .long), (cI, .int)]) (vp_Si (fun z => z = r)) 0 0 (fun _ => False) := by
  refine Met.ofW (cc := cM_isLine) (maxL := 6) (ret := (some .boolean)) (by decide) rfl ?_
  intro p e s m args below meth c s₁ B hml hv
  obtain ⟨rfl, ⟨hr2, hr3, hr4, hr5⟩, hK⟩ := hv
  have hx := B.exec
  have hb := B.bytes
  have hr := B.returns
  have hw : ∀ w ∈ wG, w.before ([.int x0, .int x1, .ref r2, .ref r3, .ref r4, .ref r5] : List Value).toArray s = true := fun w hq => atoms_spec (ws := wsM_isLine) B.pre w (List.mem_cons_of_mem _ hq)
  have hown : s.vm.findClass R_M = some m.cls := findClass_of_methodNamed B.named
  have hlocks := B.notSynchronized
  have hl := lv_entry ([.int x0, .int x1, .ref r2, .ref r3, .ref r4, .ref r5] : List Value) (n := 6) (Nat.le_of_ble_eq_true rfl)
  rw [lg_entry_eq]
  generalize (lg_sl ([.int x0, .int x1, .ref r2, .ref r3, .ref r4, .ref r5] : List Value) ++ List.replicate (6 - (lg_sl ([.int x0, .int x1, .ref r2, .ref r3, .ref r4, .ref r5] : List Value)).length) Slot.unset).toArray = ls at hl ⊢
  have hl : lv_has ls 6 [(0, .int x0), (1, .int x1), (2, .ref r2), (3, .ref r3), (4, .ref r4), (5, .ref r5)] := hl
  have k59 : ∀ (s0 : Int32), f_M_isLine_j59 g2 g3 g4 g5 s0 = some r →  ∀ (ls : Array Slot), lv_has ls 6 [] → W p l e (headSpec wsM_isLine ({ frames := 2, cells := 0, slots := 0, locals := 58 })).room s m ([.int x0, .int x1, .ref r2, .ref r3, .ref r4, .ref r5] : List Value).toArray below meth c s.heap [] 0 0 (MQ below (vp_Si (fun z => z = r)) ([.int x0, .int x1, .ref r2, .ref r3, .ref r4, .ref r5] : List Value).toArray s 0 0 (fun _ => False)) (F0 m 59 ls [.int s0]) := by
    intro s0 h  ls hl
    unfold f_M_isLine_j59 at h
    obtain ⟨hz, hr9⟩ := rb_of h
    exact W.zret hx hb hr hz (fun t ht hW => ⟨_, rfl, hr9, ht⟩) nil_locs dM_isLine_59
  have k58 : f_M_isLine_j58 g2 g3 g4 g5 = some r →  ∀ (ls : Array Slot), lv_has ls 6 [] → W p l e (headSpec wsM_isLine ({ frames := 2, cells := 0, slots := 0, locals := 58 })).room s m ([.int x0, .int x1, .ref r2, .ref r3, .ref r4, .ref r5] : List Value).toArray below meth c s.heap [] 0 0 (MQ below (vp_Si (fun z => z = r)) ([.int x0, .int x1, .ref r2, .ref r3, .ref r4, .ref r5] : List Value).toArray s 0 0 (fun _ => False)) (F0 m 58 ls []) := by
    intro  h  ls hl
    unfold f_M_isLine_j58 at h
    refine lv_iconst (v := 0) hx hb dM_isLine_58 (by decide) ?_
    exact k59 (0 : Int32) h ls (lv_sub hl [] rfl)
  unfold f_M_isLine at h
  refine lv_aload_n hx hb dM_isLine_0 rfl (lv_at hl 2 rfl) ?_
  refine lv_iload_n hx hb dM_isLine_1 rfl (lv_at hl 0 rfl) ?_
  obtain ⟨u1, hu1, h⟩ := ob_some h
  obtain ⟨hiu1, eu1⟩ := ld_of hu1
  refine va_lald hx hb hK hr2 0 0 rfl rfl hiu1 dM_isLine_2 ?_
  rw [eu1]
  refine lv_aload_n hx hb dM_isLine_3 rfl (lv_at hl 3 rfl) ?_
  refine lv_iload_n hx hb dM_isLine_4 rfl (lv_at hl 0 rfl) ?_
  obtain ⟨u2, hu2, h⟩ := ob_some h
  obtain ⟨hiu2, eu2⟩ := ld_of hu2
  refine va_lald hx hb hK hr3 0 0 rfl rfl hiu2 dM_isLine_5 ?_
  rw [eu2]
  refine lv_aload hx hb dM_isLine_6 (lv_at hl 4 rfl) ?_
  refine lv_iload_n hx hb dM_isLine_8 rfl (lv_at hl 0 rfl) ?_
  obtain ⟨u3, hu3, h⟩ := ob_some h
  obtain ⟨hiu3, eu3⟩ := ld_of hu3
  refine va_lald hx hb hK hr4 0 0 rfl rfl hiu3 dM_isLine_9 ?_
  rw [eu3]
  refine lv_aload hx hb dM_isLine_10 (lv_at hl 5 rfl) ?_
  refine lv_iload_n hx hb dM_isLine_12 rfl (lv_at hl 0 rfl) ?_
  obtain ⟨u4, hu4, h⟩ := ob_some h
  obtain ⟨hiu4, eu4⟩ := ld_of hu4
  refine va_lald hx hb hK hr5 0 0 rfl rfl hiu4 dM_isLine_13 ?_
  rw [eu4]
  refine lv_aload_n hx hb dM_isLine_14 rfl (lv_at hl 2 rfl) ?_
  refine lv_iload_n hx hb dM_isLine_15 rfl (lv_at hl 1 rfl) ?_
  obtain ⟨u5, hu5, h⟩ := ob_some h
  obtain ⟨hiu5, eu5⟩ := ld_of hu5
  refine va_lald hx hb hK hr2 0 0 rfl rfl hiu5 dM_isLine_16 ?_
  rw [eu5]
  refine lv_aload_n hx hb dM_isLine_17 rfl (lv_at hl 3 rfl) ?_
  refine lv_iload_n hx hb dM_isLine_18 rfl (lv_at hl 1 rfl) ?_
  obtain ⟨u6, hu6, h⟩ := ob_some h
  obtain ⟨hiu6, eu6⟩ := ld_of hu6
  refine va_lald hx hb hK hr3 0 0 rfl rfl hiu6 dM_isLine_19 ?_
  rw [eu6]
  obtain ⟨u7, hu7, h⟩ := ob_some h
  refine vp_callSi (va_Run.run (va_runS (As := [.long u1, .long u2, .long u3, .long u4, .long u5, .long u6]) (rest := []) ⟨hx, hb, hml, hown, hw⟩ (k_M_turnOf l dC dI cL cI u1 u2 u3 u4 u5 u6 u7 hu7) (va_cwS 6 hw (gS w_558 w_559 w_2 w_560) rfl rfl rfl (by decide +kernel) ⟨Nat.le_of_ble_eq_true rfl, Nat.le_of_ble_eq_true rfl⟩) ⟨rd_blind, rd_pre trivial hK⟩ rfl rfl hl.1 rfl (lv_room (Nat.le_of_ble_eq_true rfl)) dM_isLine_20 ⟨Nat.le_of_ble_eq_true rfl, Nat.le_of_ble_eq_true rfl⟩)) (fun z hz => ?_)
  rw [hz]; clear hz
  refine lv_if_ne (tgt := 58) hx hb dM_isLine_23 (by decide) (fun c8 => ?_) (fun c8 => ?_)
  · have h := it_f c8 h
    exact k58 h ls (lv_sub hl [] rfl)
  · have h := it_t c8 h
    refine lv_aload_n hx hb dM_isLine_26 rfl (lv_at hl 2 rfl) ?_
    refine lv_iload_n hx hb dM_isLine_27 rfl (lv_at hl 0 rfl) ?_
    obtain ⟨u9, hu9, h⟩ := ob_some h
    obtain ⟨hiu9, eu9⟩ := ld_of hu9
    refine va_lald hx hb hK hr2 0 0 rfl rfl hiu9 dM_isLine_28 ?_
    rw [eu9]
    refine lv_aload_n hx hb dM_isLine_29 rfl (lv_at hl 3 rfl) ?_
    refine lv_iload_n hx hb dM_isLine_30 rfl (lv_at hl 0 rfl) ?_
    obtain ⟨u10, hu10, h⟩ := ob_some h
    obtain ⟨hiu10, eu10⟩ := ld_of hu10
    refine va_lald hx hb hK hr3 0 0 rfl rfl hiu10 dM_isLine_31 ?_
    rw [eu10]
    refine lv_aload hx hb dM_isLine_32 (lv_at hl 4 rfl) ?_
    refine lv_iload_n hx hb dM_isLine_34 rfl (lv_at hl 0 rfl) ?_
    obtain ⟨u11, hu11, h⟩ := ob_some h
    obtain ⟨hiu11, eu11⟩ := ld_of hu11
    refine va_lald hx hb hK hr4 0 0 rfl rfl hiu11 dM_isLine_35 ?_
    rw [eu11]
    refine lv_aload hx hb dM_isLine_36 (lv_at hl 5 rfl) ?_
    refine lv_iload_n hx hb dM_isLine_38 rfl (lv_at hl 0 rfl) ?_
    obtain ⟨u12, hu12, h⟩ := ob_some h
    obtain ⟨hiu12, eu12⟩ := ld_of hu12
    refine va_lald hx hb hK hr5 0 0 rfl rfl hiu12 dM_isLine_39 ?_
    rw [eu12]
    refine lv_aload hx hb dM_isLine_40 (lv_at hl 4 rfl) ?_
    refine lv_iload_n hx hb dM_isLine_42 rfl (lv_at hl 1 rfl) ?_
    obtain ⟨u13, hu13, h⟩ := ob_some h
    obtain ⟨hiu13, eu13⟩ := ld_of hu13
    refine va_lald hx hb hK hr4 0 0 rfl rfl hiu13 dM_isLine_43 ?_
    rw [eu13]
    refine lv_aload hx hb dM_isLine_44 (lv_at hl 5 rfl) ?_
    refine lv_iload_n hx hb dM_isLine_46 rfl (lv_at hl 1 rfl) ?_
    obtain ⟨u14, hu14, h⟩ := ob_some h
    obtain ⟨hiu14, eu14⟩ := ld_of hu14
    refine va_lald hx hb hK hr5 0 0 rfl rfl hiu14 dM_isLine_47 ?_
    rw [eu14]
    obtain ⟨u15, hu15, h⟩ := ob_some h
    refine vp_callSi (va_Run.run (va_runS (As := [.long u9, .long u10, .long u11, .long u12, .long u13, .long u14]) (rest := []) ⟨hx, hb, hml, hown, hw⟩ (k_M_turnOf l dC dI cL cI u9 u10 u11 u12 u13 u14 u15 hu15) (va_cwS 6 hw (gS w_558 w_559 w_2 w_560) rfl rfl rfl (by decide +kernel) ⟨Nat.le_of_ble_eq_true rfl, Nat.le_of_ble_eq_true rfl⟩) ⟨rd_blind, rd_pre trivial hK⟩ rfl rfl hl.1 rfl (lv_room (Nat.le_of_ble_eq_true rfl)) dM_isLine_48 ⟨Nat.le_of_ble_eq_true rfl, Nat.le_of_ble_eq_true rfl⟩)) (fun z hz => ?_)
    rw [hz]; clear hz
    refine lv_if_ne (tgt := 58) hx hb dM_isLine_51 (by decide) (fun c16 => ?_) (fun c16 => ?_)
    · have h := it_f c16 h
      exact k58 h ls (lv_sub hl [] rfl)
    · have h := it_t c16 h
      refine lv_iconst (v := 1) hx hb dM_isLine_54 (by decide) ?_
      refine lv_goto (tgt := 59) hx hb dM_isLine_55 (by decide) ?_
      exact k59 (1 : Int32) h ls (lv_sub hl [] rfl)
theorem dM_isAhead_0 : decode cM_isAhead 0 = .ok (.aload_n 0, 1) := by decide +kernel
theorem dM_isAhead_1 : decode cM_isAhead 1 = .ok (.getfield 38, 3) := by decide +kernel
theorem dM_isAhead_4 : decode cM_isAhead 4 = .ok (.iload_n 1, 1) := by decide +kernel
theorem dM_isAhead_5 : decode cM_isAhead 5 = .ok (.laload, 1) := by decide +kernel
theorem dM_isAhead_6 : decode cM_isAhead 6 = .ok (.aload_n 0, 1) := by decide +kernel
theorem dM_isAhead_7 : decode cM_isAhead 7 = .ok (.getfield 32, 3) := by decide +kernel
theorem dM_isAhead_10 : decode cM_isAhead 10 = .ok (.iload_n 1, 1) := by decide +kernel
theorem dM_isAhead_11 : decode cM_isAhead 11 = .ok (.laload, 1) := by decide +kernel
theorem dM_isAhead_12 : decode cM_isAhead 12 = .ok (.lsub, 1) := by decide +kernel
theorem dM_isAhead_13 : decode cM_isAhead 13 = .ok (.lload_n 2, 1) := by decide +kernel
theorem dM_isAhead_14 : decode cM_isAhead 14 = .ok (.lload 6, 2) := by decide +kernel
theorem dM_isAhead_16 : decode cM_isAhead 16 = .ok (.lsub, 1) := by decide +kernel
theorem dM_isAhead_17 : decode cM_isAhead 17 = .ok (.lmul, 1) := by decide +kernel
theorem dM_isAhead_18 : decode cM_isAhead 18 = .ok (.aload_n 0, 1) := by decide +kernel
theorem dM_isAhead_19 : decode cM_isAhead 19 = .ok (.getfield 41, 3) := by decide +kernel
theorem dM_isAhead_22 : decode cM_isAhead 22 = .ok (.iload_n 1, 1) := by decide +kernel
theorem dM_isAhead_23 : decode cM_isAhead 23 = .ok (.laload, 1) := by decide +kernel
theorem dM_isAhead_24 : decode cM_isAhead 24 = .ok (.aload_n 0, 1) := by decide +kernel
theorem dM_isAhead_25 : decode cM_isAhead 25 = .ok (.getfield 35, 3) := by decide +kernel
theorem dM_isAhead_28 : decode cM_isAhead 28 = .ok (.iload_n 1, 1) := by decide +kernel
theorem dM_isAhead_29 : decode cM_isAhead 29 = .ok (.laload, 1) := by decide +kernel
theorem dM_isAhead_30 : decode cM_isAhead 30 = .ok (.lsub, 1) := by decide +kernel
theorem dM_isAhead_31 : decode cM_isAhead 31 = .ok (.lload 4, 2) := by decide +kernel
theorem dM_isAhead_33 : decode cM_isAhead 33 = .ok (.lload 8, 2) := by decide +kernel
theorem dM_isAhead_35 : decode cM_isAhead 35 = .ok (.lsub, 1) := by decide +kernel
theorem dM_isAhead_36 : decode cM_isAhead 36 = .ok (.lmul, 1) := by decide +kernel
theorem dM_isAhead_37 : decode cM_isAhead 37 = .ok (.ladd, 1) := by decide +kernel
theorem dM_isAhead_38 : decode cM_isAhead 38 = .ok (.lconst 0, 1) := by decide +kernel
theorem dM_isAhead_39 : decode cM_isAhead 39 = .ok (.lcmp, 1) := by decide +kernel
theorem dM_isAhead_40 : decode cM_isAhead 40 = .ok (.ifCond .le 7, 3) := by decide +kernel
theorem dM_isAhead_43 : decode cM_isAhead 43 = .ok (.iconst 1, 1) := by decide +kernel
theorem dM_isAhead_44 : decode cM_isAhead 44 = .ok (.goto 4, 3) := by decide +kernel
theorem dM_isAhead_47 : decode cM_isAhead 47 = .ok (.iconst 0, 1) := by decide +kernel
theorem dM_isAhead_48 : decode cM_isAhead 48 = .ok (.ireturn, 1) := by decide +kernel
def f_M_isAhead_j48 (v : MV) (s0 : Int32) : Option Int32 := rb s0
def f_M_isAhead (v : MV) (x1 : Int32) (x2 : Int64) (x4 : Int64) (x6 : Int64) (x8 : Int64) : Option Int32 := (ld 96 (md_bx v) x1).bind fun u1 => (ld 96 (md_ax v) x1).bind fun u2 => (ld 96 (md_by v) x1).bind fun u3 => (ld 96 (md_ay v) x1).bind fun u4 => (if (lg_cmp (((u1 - u2) * (x2 - x6)) + ((u3 - u4) * (x4 - x8))) (0 : Int64)) ≤ 0 then (f_M_isAhead_j48 v (0 : Int32)) else (f_M_isAhead_j48 v (1 : Int32)))
set_option maxHeartbeats 4000000 in
set_option maxRecDepth 100000 in
theorem k_M_isAhead (l : Launch) (dC : Nat → ClassId) (dI : Nat → Nat → Nat) (cL cI : ClassId) (qm : Nat → Nat) (v : MV) (x1 : Int32) (x2 : Int64) (x4 : Int64) (x6 : Int64) (x8 : Int64) (r : Int32) (h : f_M_isAhead v x1 x2 x4 x6 x8 = some r) : Met l yM_isAhead wsM_isAhead ({ frames := 0, cells := 0, slots := 0, locals := 0 }) (rd_Pc [.ref (qm 0), .int x1, .long x2, .long x4, .long x6, .long x8] (fun H => va_P (dC, dI) cls3 (mdW cL cI qm v) H) (dC, dI) cls3 [(cL, .long), (cI, .int)]) (vp_Si (fun z => z = r)) 0 0 (fun _ => False) := by
  refine Met.ofW (cc := cM_isAhead) (maxL := 10) (ret := (some .boolean)) (by decide) rfl ?_
  intro p e s m args below meth c s₁ B hml hv
  obtain ⟨rfl, hPm, hK⟩ := hv
  have hx := B.exec
  have hb := B.bytes
  have hr := B.returns
  have hw : ∀ w ∈ wG, w.before ([.ref (qm 0), .int x1, .long x2, .long x4, .long x6, .long x8] : List Value).toArray s = true := fun w hq => atoms_spec (ws := wsM_isAhead) B.pre w (List.mem_cons_of_mem _ hq)
  have hown : s.vm.findClass R_M = some m.cls := findClass_of_methodNamed B.named
  have hlocks := B.notSynchronized
  have hl := lv_entry ([.ref (qm 0), .int x1, .long x2, .long x4, .long x6, .long x8] : List Value) (n := 10) (Nat.le_of_ble_eq_true rfl)
  rw [lg_entry_eq]
  generalize (lg_sl ([.ref (qm 0), .int x1, .long x2, .long x4, .long x6, .long x8] : List Value) ++ List.replicate (10 - (lg_sl ([.ref (qm 0), .int x1, .long x2, .long x4, .long x6, .long x8] : List Value)).length) Slot.unset).toArray = ls at hl ⊢
  have hl : lv_has ls 10 [(0, .ref (qm 0)), (1, .int x1), (2, .long x2), (4, .long x4), (6, .long x6), (8, .long x8)] := hl
  have k48 : ∀ (s0 : Int32), f_M_isAhead_j48 v s0 = some r →  ∀ (ls : Array Slot), lv_has ls 10 [] → W p l e (headSpec wsM_isAhead ({ frames := 0, cells := 0, slots := 0, locals := 0 })).room s m ([.ref (qm 0), .int x1, .long x2, .long x4, .long x6, .long x8] : List Value).toArray below meth c s.heap [] 0 0 (MQ below (vp_Si (fun z => z = r)) ([.ref (qm 0), .int x1, .long x2, .long x4, .long x6, .long x8] : List Value).toArray s 0 0 (fun _ => False)) (F0 m 48 ls [.int s0]) := by
    intro s0 h  ls hl
    unfold f_M_isAhead_j48 at h
    obtain ⟨hz, hr9⟩ := rb_of h
    exact W.zret hx hb hr hz (fun t ht hW => ⟨_, rfl, hr9, ht⟩) nil_locs dM_isAhead_48
  unfold f_M_isAhead at h
  refine lv_aload_n hx hb dM_isAhead_0 rfl (lv_at hl 0 rfl) ?_
  refine va_get (D := (dC, dI)) (ci := 2) (v := .ref (qm 10)) (C := R_M) (T := T_M) (N := 15) hx hb hw in_M hown hK hPm 0 rfl rfl 11 (by decide) (hw _ w_456) (fun _ h9 => h9) rfl dM_isAhead_1 ?_
  refine lv_iload_n hx hb dM_isAhead_4 rfl (lv_at hl 1 rfl) ?_
  obtain ⟨u1, hu1, h⟩ := ob_some h
  obtain ⟨hiu1, eu1⟩ := ld_of hu1
  refine va_lald hx hb hK hPm 10 0 rfl rfl hiu1 dM_isAhead_5 ?_
  rw [eu1]
  refine lv_aload_n hx hb dM_isAhead_6 rfl (lv_at hl 0 rfl) ?_
  refine va_get (D := (dC, dI)) (ci := 2) (v := .ref (qm 8)) (C := R_M) (T := T_M) (N := 15) hx hb hw in_M hown hK hPm 0 rfl rfl 9 (by decide) (hw _ w_454) (fun _ h9 => h9) rfl dM_isAhead_7 ?_
  refine lv_iload_n hx hb dM_isAhead_10 rfl (lv_at hl 1 rfl) ?_
  obtain ⟨u2, hu2, h⟩ := ob_some h
  obtain ⟨hiu2, eu2⟩ := ld_of hu2
  refine va_lald hx hb hK hPm 8 0 rfl rfl hiu2 dM_isAhead_11 ?_
  rw [eu2]
  refine lv_lsub hx hb dM_isAhead_12 ?_
  refine lv_lload_n hx hb dM_isAhead_13 rfl (lv_at hl 2 rfl) ?_
  refine lv_lload hx hb dM_isAhead_14 (lv_at hl 4 rfl) ?_
  refine lv_lsub hx hb dM_isAhead_16 ?_
  refine lv_lmul hx hb dM_isAhead_17 ?_
  refine lv_aload_n hx hb dM_isAhead_18 rfl (lv_at hl 0 rfl) ?_
  refine va_get (D := (dC, dI)) (ci := 2) (v := .ref (qm 11)) (C := R_M) (T := T_M) (N := 15) hx hb hw in_M hown hK hPm 0 rfl rfl 12 (by decide) (hw _ w_457) (fun _ h9 => h9) rfl dM_isAhead_19 ?_
  refine lv_iload_n hx hb dM_isAhead_22 rfl (lv_at hl 1 rfl) ?_
  obtain ⟨u3, hu3, h⟩ := ob_some h
  obtain ⟨hiu3, eu3⟩ := ld_of hu3
  refine va_lald hx hb hK hPm 11 0 rfl rfl hiu3 dM_isAhead_23 ?_
  rw [eu3]
  refine lv_aload_n hx hb dM_isAhead_24 rfl (lv_at hl 0 rfl) ?_
  refine va_get (D := (dC, dI)) (ci := 2) (v := .ref (qm 9)) (C := R_M) (T := T_M) (N := 15) hx hb hw in_M hown hK hPm 0 rfl rfl 10 (by decide) (hw _ w_455) (fun _ h9 => h9) rfl dM_isAhead_25 ?_
  refine lv_iload_n hx hb dM_isAhead_28 rfl (lv_at hl 1 rfl) ?_
  obtain ⟨u4, hu4, h⟩ := ob_some h
  obtain ⟨hiu4, eu4⟩ := ld_of hu4
  refine va_lald hx hb hK hPm 9 0 rfl rfl hiu4 dM_isAhead_29 ?_
  rw [eu4]
  refine lv_lsub hx hb dM_isAhead_30 ?_
  refine lv_lload hx hb dM_isAhead_31 (lv_at hl 3 rfl) ?_
  refine lv_lload hx hb dM_isAhead_33 (lv_at hl 5 rfl) ?_
  refine lv_lsub hx hb dM_isAhead_35 ?_
  refine lv_lmul hx hb dM_isAhead_36 ?_
  refine lv_ladd hx hb dM_isAhead_37 ?_
  refine lv_lconst (v := 0) hx hb dM_isAhead_38 (by decide) ?_
  refine W.lcmp hx hb dM_isAhead_39 ?_
  refine lv_if_le (tgt := 47) hx hb dM_isAhead_40 (by decide) (fun c5 => ?_) (fun c5 => ?_)
  · have h := it_t c5 h
    refine lv_iconst (v := 0) hx hb dM_isAhead_47 (by decide) ?_
    exact k48 (0 : Int32) h ls (lv_sub hl [] rfl)
  · have h := it_f c5 h
    refine lv_iconst (v := 1) hx hb dM_isAhead_43 (by decide) ?_
    refine lv_goto (tgt := 48) hx hb dM_isAhead_44 (by decide) ?_
    exact k48 (1 : Int32) h ls (lv_sub hl [] rfl)
theorem dM_isCovered_0 : decode cM_isCovered 0 = .ok (.bipush 48, 2) := by decide +kernel
theorem dM_isCovered_2 : decode cM_isCovered 2 = .ok (.iload_n 2, 1) := by decide +kernel
theorem dM_isCovered_3 : decode cM_isCovered 3 = .ok (.imul, 1) := by decide +kernel
theorem dM_isCovered_4 : decode cM_isCovered 4 = .ok (.istore_n 3, 1) := by decide +kernel
theorem dM_isCovered_5 : decode cM_isCovered 5 = .ok (.iload_n 3, 1) := by decide +kernel
theorem dM_isCovered_6 : decode cM_isCovered 6 = .ok (.aload_n 0, 1) := by decide +kernel
theorem dM_isCovered_7 : decode cM_isCovered 7 = .ok (.getfield 44, 3) := by decide +kernel
theorem dM_isCovered_10 : decode cM_isCovered 10 = .ok (.iload_n 2, 1) := by decide +kernel
theorem dM_isCovered_11 : decode cM_isCovered 11 = .ok (.iaload, 1) := by decide +kernel
theorem dM_isCovered_12 : decode cM_isCovered 12 = .ok (.iadd, 1) := by decide +kernel
theorem dM_isCovered_13 : decode cM_isCovered 13 = .ok (.istore 4, 2) := by decide +kernel
theorem dM_isCovered_15 : decode cM_isCovered 15 = .ok (.aload_n 0, 1) := by decide +kernel
theorem dM_isCovered_16 : decode cM_isCovered 16 = .ok (.getfield 32, 3) := by decide +kernel
theorem dM_isCovered_19 : decode cM_isCovered 19 = .ok (.iload_n 1, 1) := by decide +kernel
theorem dM_isCovered_20 : decode cM_isCovered 20 = .ok (.laload, 1) := by decide +kernel
theorem dM_isCovered_21 : decode cM_isCovered 21 = .ok (.aload_n 0, 1) := by decide +kernel
theorem dM_isCovered_22 : decode cM_isCovered 22 = .ok (.getfield 38, 3) := by decide +kernel
theorem dM_isCovered_25 : decode cM_isCovered 25 = .ok (.iload_n 1, 1) := by decide +kernel
theorem dM_isCovered_26 : decode cM_isCovered 26 = .ok (.laload, 1) := by decide +kernel
theorem dM_isCovered_27 : decode cM_isCovered 27 = .ok (.lcmp, 1) := by decide +kernel
theorem dM_isCovered_28 : decode cM_isCovered 28 = .ok (.ifCond .ne 99, 3) := by decide +kernel
theorem dM_isCovered_31 : decode cM_isCovered 31 = .ok (.aload_n 0, 1) := by decide +kernel
theorem dM_isCovered_32 : decode cM_isCovered 32 = .ok (.getfield 35, 3) := by decide +kernel
theorem dM_isCovered_35 : decode cM_isCovered 35 = .ok (.iload_n 1, 1) := by decide +kernel
theorem dM_isCovered_36 : decode cM_isCovered 36 = .ok (.laload, 1) := by decide +kernel
theorem dM_isCovered_37 : decode cM_isCovered 37 = .ok (.aload_n 0, 1) := by decide +kernel
theorem dM_isCovered_38 : decode cM_isCovered 38 = .ok (.getfield 41, 3) := by decide +kernel
theorem dM_isCovered_41 : decode cM_isCovered 41 = .ok (.iload_n 1, 1) := by decide +kernel
theorem dM_isCovered_42 : decode cM_isCovered 42 = .ok (.laload, 1) := by decide +kernel
theorem dM_isCovered_43 : decode cM_isCovered 43 = .ok (.lcmp, 1) := by decide +kernel
theorem dM_isCovered_44 : decode cM_isCovered 44 = .ok (.ifCond .ne 83, 3) := by decide +kernel
theorem dM_isCovered_47 : decode cM_isCovered 47 = .ok (.iconst 0, 1) := by decide +kernel
theorem dM_isCovered_48 : decode cM_isCovered 48 = .ok (.istore 5, 2) := by decide +kernel
theorem dM_isCovered_50 : decode cM_isCovered 50 = .ok (.iload_n 3, 1) := by decide +kernel
theorem dM_isCovered_51 : decode cM_isCovered 51 = .ok (.istore 6, 2) := by decide +kernel
theorem dM_isCovered_53 : decode cM_isCovered 53 = .ok (.iload 6, 2) := by decide +kernel
theorem dM_isCovered_55 : decode cM_isCovered 55 = .ok (.iload 4, 2) := by decide +kernel
theorem dM_isCovered_57 : decode cM_isCovered 57 = .ok (.if_icmp .ge 67, 3) := by decide +kernel
theorem dM_isCovered_60 : decode cM_isCovered 60 = .ok (.iload 5, 2) := by decide +kernel
theorem dM_isCovered_62 : decode cM_isCovered 62 = .ok (.ifCond .ne 49, 3) := by decide +kernel
theorem dM_isCovered_65 : decode cM_isCovered 65 = .ok (.aload_n 0, 1) := by decide +kernel
theorem dM_isCovered_66 : decode cM_isCovered 66 = .ok (.getfield 32, 3) := by decide +kernel
theorem dM_isCovered_69 : decode cM_isCovered 69 = .ok (.iload_n 1, 1) := by decide +kernel
theorem dM_isCovered_70 : decode cM_isCovered 70 = .ok (.laload, 1) := by decide +kernel
theorem dM_isCovered_71 : decode cM_isCovered 71 = .ok (.aload_n 0, 1) := by decide +kernel
theorem dM_isCovered_72 : decode cM_isCovered 72 = .ok (.getfield 35, 3) := by decide +kernel
theorem dM_isCovered_75 : decode cM_isCovered 75 = .ok (.iload_n 1, 1) := by decide +kernel
theorem dM_isCovered_76 : decode cM_isCovered 76 = .ok (.laload, 1) := by decide +kernel
theorem dM_isCovered_77 : decode cM_isCovered 77 = .ok (.aload_n 0, 1) := by decide +kernel
theorem dM_isCovered_78 : decode cM_isCovered 78 = .ok (.getfield 32, 3) := by decide +kernel
theorem dM_isCovered_81 : decode cM_isCovered 81 = .ok (.iload 6, 2) := by decide +kernel
theorem dM_isCovered_83 : decode cM_isCovered 83 = .ok (.laload, 1) := by decide +kernel
theorem dM_isCovered_84 : decode cM_isCovered 84 = .ok (.aload_n 0, 1) := by decide +kernel
theorem dM_isCovered_85 : decode cM_isCovered 85 = .ok (.getfield 35, 3) := by decide +kernel
theorem dM_isCovered_88 : decode cM_isCovered 88 = .ok (.iload 6, 2) := by decide +kernel
theorem dM_isCovered_90 : decode cM_isCovered 90 = .ok (.laload, 1) := by decide +kernel
theorem dM_isCovered_91 : decode cM_isCovered 91 = .ok (.aload_n 0, 1) := by decide +kernel
theorem dM_isCovered_92 : decode cM_isCovered 92 = .ok (.getfield 38, 3) := by decide +kernel
theorem dM_isCovered_95 : decode cM_isCovered 95 = .ok (.iload 6, 2) := by decide +kernel
theorem dM_isCovered_97 : decode cM_isCovered 97 = .ok (.laload, 1) := by decide +kernel
theorem dM_isCovered_98 : decode cM_isCovered 98 = .ok (.aload_n 0, 1) := by decide +kernel
theorem dM_isCovered_99 : decode cM_isCovered 99 = .ok (.getfield 41, 3) := by decide +kernel
theorem dM_isCovered_102 : decode cM_isCovered 102 = .ok (.iload 6, 2) := by decide +kernel
theorem dM_isCovered_104 : decode cM_isCovered 104 = .ok (.laload, 1) := by decide +kernel
theorem dM_isCovered_105 : decode cM_isCovered 105 = .ok (.invokestatic 107, 3) := by decide +kernel
theorem dM_isCovered_108 : decode cM_isCovered 108 = .ok (.ifCond .eq 7, 3) := by decide +kernel
theorem dM_isCovered_111 : decode cM_isCovered 111 = .ok (.iconst 1, 1) := by decide +kernel
theorem dM_isCovered_112 : decode cM_isCovered 112 = .ok (.goto 4, 3) := by decide +kernel
theorem dM_isCovered_115 : decode cM_isCovered 115 = .ok (.iconst 0, 1) := by decide +kernel
theorem dM_isCovered_116 : decode cM_isCovered 116 = .ok (.istore 5, 2) := by decide +kernel
theorem dM_isCovered_118 : decode cM_isCovered 118 = .ok (.iinc 6 1, 3) := by decide +kernel
theorem dM_isCovered_121 : decode cM_isCovered 121 = .ok (.goto (-68), 3) := by decide +kernel
theorem dM_isCovered_124 : decode cM_isCovered 124 = .ok (.iload 5, 2) := by decide +kernel
theorem dM_isCovered_126 : decode cM_isCovered 126 = .ok (.ireturn, 1) := by decide +kernel
theorem dM_isCovered_127 : decode cM_isCovered 127 = .ok (.aload_n 0, 1) := by decide +kernel
theorem dM_isCovered_128 : decode cM_isCovered 128 = .ok (.getfield 32, 3) := by decide +kernel
theorem dM_isCovered_131 : decode cM_isCovered 131 = .ok (.iload_n 1, 1) := by decide +kernel
theorem dM_isCovered_132 : decode cM_isCovered 132 = .ok (.laload, 1) := by decide +kernel
theorem dM_isCovered_133 : decode cM_isCovered 133 = .ok (.lstore 5, 2) := by decide +kernel
theorem dM_isCovered_135 : decode cM_isCovered 135 = .ok (.aload_n 0, 1) := by decide +kernel
theorem dM_isCovered_136 : decode cM_isCovered 136 = .ok (.getfield 35, 3) := by decide +kernel
theorem dM_isCovered_139 : decode cM_isCovered 139 = .ok (.iload_n 1, 1) := by decide +kernel
theorem dM_isCovered_140 : decode cM_isCovered 140 = .ok (.laload, 1) := by decide +kernel
theorem dM_isCovered_141 : decode cM_isCovered 141 = .ok (.lstore 7, 2) := by decide +kernel
theorem dM_isCovered_143 : decode cM_isCovered 143 = .ok (.iconst 1, 1) := by decide +kernel
theorem dM_isCovered_144 : decode cM_isCovered 144 = .ok (.istore 9, 2) := by decide +kernel
theorem dM_isCovered_146 : decode cM_isCovered 146 = .ok (.iload 9, 2) := by decide +kernel
theorem dM_isCovered_148 : decode cM_isCovered 148 = .ok (.ifCond .eq 270, 3) := by decide +kernel
theorem dM_isCovered_151 : decode cM_isCovered 151 = .ok (.aload_n 0, 1) := by decide +kernel
theorem dM_isCovered_152 : decode cM_isCovered 152 = .ok (.iload_n 1, 1) := by decide +kernel
theorem dM_isCovered_153 : decode cM_isCovered 153 = .ok (.aload_n 0, 1) := by decide +kernel
theorem dM_isCovered_154 : decode cM_isCovered 154 = .ok (.getfield 38, 3) := by decide +kernel
theorem dM_isCovered_157 : decode cM_isCovered 157 = .ok (.iload_n 1, 1) := by decide +kernel
theorem dM_isCovered_158 : decode cM_isCovered 158 = .ok (.laload, 1) := by decide +kernel
theorem dM_isCovered_159 : decode cM_isCovered 159 = .ok (.aload_n 0, 1) := by decide +kernel
theorem dM_isCovered_160 : decode cM_isCovered 160 = .ok (.getfield 41, 3) := by decide +kernel
theorem dM_isCovered_163 : decode cM_isCovered 163 = .ok (.iload_n 1, 1) := by decide +kernel
theorem dM_isCovered_164 : decode cM_isCovered 164 = .ok (.laload, 1) := by decide +kernel
theorem dM_isCovered_165 : decode cM_isCovered 165 = .ok (.lload 5, 2) := by decide +kernel
theorem dM_isCovered_167 : decode cM_isCovered 167 = .ok (.lload 7, 2) := by decide +kernel
theorem dM_isCovered_169 : decode cM_isCovered 169 = .ok (.invokevirtual 192, 3) := by decide +kernel
theorem dM_isCovered_172 : decode cM_isCovered 172 = .ok (.ifCond .eq 246, 3) := by decide +kernel
theorem dM_isCovered_175 : decode cM_isCovered 175 = .ok (.iconst 0, 1) := by decide +kernel
theorem dM_isCovered_176 : decode cM_isCovered 176 = .ok (.istore 9, 2) := by decide +kernel
theorem dM_isCovered_178 : decode cM_isCovered 178 = .ok (.iload_n 3, 1) := by decide +kernel
theorem dM_isCovered_179 : decode cM_isCovered 179 = .ok (.istore 10, 2) := by decide +kernel
theorem dM_isCovered_181 : decode cM_isCovered 181 = .ok (.iload 10, 2) := by decide +kernel
theorem dM_isCovered_183 : decode cM_isCovered 183 = .ok (.iload 4, 2) := by decide +kernel
theorem dM_isCovered_185 : decode cM_isCovered 185 = .ok (.if_icmp .ge 230, 3) := by decide +kernel
theorem dM_isCovered_188 : decode cM_isCovered 188 = .ok (.iload 9, 2) := by decide +kernel
theorem dM_isCovered_190 : decode cM_isCovered 190 = .ok (.ifCond .ne 225, 3) := by decide +kernel
theorem dM_isCovered_193 : decode cM_isCovered 193 = .ok (.iload_n 1, 1) := by decide +kernel
theorem dM_isCovered_194 : decode cM_isCovered 194 = .ok (.iload 10, 2) := by decide +kernel
theorem dM_isCovered_196 : decode cM_isCovered 196 = .ok (.aload_n 0, 1) := by decide +kernel
theorem dM_isCovered_197 : decode cM_isCovered 197 = .ok (.getfield 32, 3) := by decide +kernel
theorem dM_isCovered_200 : decode cM_isCovered 200 = .ok (.aload_n 0, 1) := by decide +kernel
theorem dM_isCovered_201 : decode cM_isCovered 201 = .ok (.getfield 35, 3) := by decide +kernel
theorem dM_isCovered_204 : decode cM_isCovered 204 = .ok (.aload_n 0, 1) := by decide +kernel
theorem dM_isCovered_205 : decode cM_isCovered 205 = .ok (.getfield 38, 3) := by decide +kernel
theorem dM_isCovered_208 : decode cM_isCovered 208 = .ok (.aload_n 0, 1) := by decide +kernel
theorem dM_isCovered_209 : decode cM_isCovered 209 = .ok (.getfield 41, 3) := by decide +kernel
theorem dM_isCovered_212 : decode cM_isCovered 212 = .ok (.invokestatic 196, 3) := by decide +kernel
theorem dM_isCovered_215 : decode cM_isCovered 215 = .ok (.ifCond .eq 45, 3) := by decide +kernel
theorem dM_isCovered_218 : decode cM_isCovered 218 = .ok (.lload 5, 2) := by decide +kernel
theorem dM_isCovered_220 : decode cM_isCovered 220 = .ok (.lload 7, 2) := by decide +kernel
theorem dM_isCovered_222 : decode cM_isCovered 222 = .ok (.aload_n 0, 1) := by decide +kernel
theorem dM_isCovered_223 : decode cM_isCovered 223 = .ok (.getfield 32, 3) := by decide +kernel
theorem dM_isCovered_226 : decode cM_isCovered 226 = .ok (.iload 10, 2) := by decide +kernel
theorem dM_isCovered_228 : decode cM_isCovered 228 = .ok (.laload, 1) := by decide +kernel
theorem dM_isCovered_229 : decode cM_isCovered 229 = .ok (.aload_n 0, 1) := by decide +kernel
theorem dM_isCovered_230 : decode cM_isCovered 230 = .ok (.getfield 35, 3) := by decide +kernel
theorem dM_isCovered_233 : decode cM_isCovered 233 = .ok (.iload 10, 2) := by decide +kernel
theorem dM_isCovered_235 : decode cM_isCovered 235 = .ok (.laload, 1) := by decide +kernel
theorem dM_isCovered_236 : decode cM_isCovered 236 = .ok (.aload_n 0, 1) := by decide +kernel
theorem dM_isCovered_237 : decode cM_isCovered 237 = .ok (.getfield 38, 3) := by decide +kernel
theorem dM_isCovered_240 : decode cM_isCovered 240 = .ok (.iload 10, 2) := by decide +kernel
theorem dM_isCovered_242 : decode cM_isCovered 242 = .ok (.laload, 1) := by decide +kernel
theorem dM_isCovered_243 : decode cM_isCovered 243 = .ok (.aload_n 0, 1) := by decide +kernel
theorem dM_isCovered_244 : decode cM_isCovered 244 = .ok (.getfield 41, 3) := by decide +kernel
theorem dM_isCovered_247 : decode cM_isCovered 247 = .ok (.iload 10, 2) := by decide +kernel
theorem dM_isCovered_249 : decode cM_isCovered 249 = .ok (.laload, 1) := by decide +kernel
theorem dM_isCovered_250 : decode cM_isCovered 250 = .ok (.invokestatic 107, 3) := by decide +kernel
theorem dM_isCovered_253 : decode cM_isCovered 253 = .ok (.ifCond .eq 7, 3) := by decide +kernel
theorem dM_isCovered_256 : decode cM_isCovered 256 = .ok (.iconst 1, 1) := by decide +kernel
theorem dM_isCovered_257 : decode cM_isCovered 257 = .ok (.goto 4, 3) := by decide +kernel
theorem dM_isCovered_260 : decode cM_isCovered 260 = .ok (.iconst 0, 1) := by decide +kernel
theorem dM_isCovered_261 : decode cM_isCovered 261 = .ok (.istore 11, 2) := by decide +kernel
theorem dM_isCovered_263 : decode cM_isCovered 263 = .ok (.iload 11, 2) := by decide +kernel
theorem dM_isCovered_265 : decode cM_isCovered 265 = .ok (.ifCond .eq 33, 3) := by decide +kernel
theorem dM_isCovered_268 : decode cM_isCovered 268 = .ok (.aload_n 0, 1) := by decide +kernel
theorem dM_isCovered_269 : decode cM_isCovered 269 = .ok (.iload_n 1, 1) := by decide +kernel
theorem dM_isCovered_270 : decode cM_isCovered 270 = .ok (.aload_n 0, 1) := by decide +kernel
theorem dM_isCovered_271 : decode cM_isCovered 271 = .ok (.getfield 32, 3) := by decide +kernel
theorem dM_isCovered_274 : decode cM_isCovered 274 = .ok (.iload 10, 2) := by decide +kernel
theorem dM_isCovered_276 : decode cM_isCovered 276 = .ok (.laload, 1) := by decide +kernel
theorem dM_isCovered_277 : decode cM_isCovered 277 = .ok (.aload_n 0, 1) := by decide +kernel
theorem dM_isCovered_278 : decode cM_isCovered 278 = .ok (.getfield 35, 3) := by decide +kernel
theorem dM_isCovered_281 : decode cM_isCovered 281 = .ok (.iload 10, 2) := by decide +kernel
theorem dM_isCovered_283 : decode cM_isCovered 283 = .ok (.laload, 1) := by decide +kernel
theorem dM_isCovered_284 : decode cM_isCovered 284 = .ok (.lload 5, 2) := by decide +kernel
theorem dM_isCovered_286 : decode cM_isCovered 286 = .ok (.lload 7, 2) := by decide +kernel
theorem dM_isCovered_288 : decode cM_isCovered 288 = .ok (.invokevirtual 192, 3) := by decide +kernel
theorem dM_isCovered_291 : decode cM_isCovered 291 = .ok (.ifCond .eq 7, 3) := by decide +kernel
theorem dM_isCovered_294 : decode cM_isCovered 294 = .ok (.iconst 1, 1) := by decide +kernel
theorem dM_isCovered_295 : decode cM_isCovered 295 = .ok (.goto 4, 3) := by decide +kernel
theorem dM_isCovered_298 : decode cM_isCovered 298 = .ok (.iconst 0, 1) := by decide +kernel
theorem dM_isCovered_299 : decode cM_isCovered 299 = .ok (.istore 12, 2) := by decide +kernel
theorem dM_isCovered_301 : decode cM_isCovered 301 = .ok (.iload 11, 2) := by decide +kernel
theorem dM_isCovered_303 : decode cM_isCovered 303 = .ok (.ifCond .eq 33, 3) := by decide +kernel
theorem dM_isCovered_306 : decode cM_isCovered 306 = .ok (.aload_n 0, 1) := by decide +kernel
theorem dM_isCovered_307 : decode cM_isCovered 307 = .ok (.iload_n 1, 1) := by decide +kernel
theorem dM_isCovered_308 : decode cM_isCovered 308 = .ok (.aload_n 0, 1) := by decide +kernel
theorem dM_isCovered_309 : decode cM_isCovered 309 = .ok (.getfield 38, 3) := by decide +kernel
theorem dM_isCovered_312 : decode cM_isCovered 312 = .ok (.iload 10, 2) := by decide +kernel
theorem dM_isCovered_314 : decode cM_isCovered 314 = .ok (.laload, 1) := by decide +kernel
theorem dM_isCovered_315 : decode cM_isCovered 315 = .ok (.aload_n 0, 1) := by decide +kernel
theorem dM_isCovered_316 : decode cM_isCovered 316 = .ok (.getfield 41, 3) := by decide +kernel
theorem dM_isCovered_319 : decode cM_isCovered 319 = .ok (.iload 10, 2) := by decide +kernel
theorem dM_isCovered_321 : decode cM_isCovered 321 = .ok (.laload, 1) := by decide +kernel
theorem dM_isCovered_322 : decode cM_isCovered 322 = .ok (.lload 5, 2) := by decide +kernel
theorem dM_isCovered_324 : decode cM_isCovered 324 = .ok (.lload 7, 2) := by decide +kernel
theorem dM_isCovered_326 : decode cM_isCovered 326 = .ok (.invokevirtual 192, 3) := by decide +kernel
theorem dM_isCovered_329 : decode cM_isCovered 329 = .ok (.ifCond .eq 7, 3) := by decide +kernel
theorem dM_isCovered_332 : decode cM_isCovered 332 = .ok (.iconst 1, 1) := by decide +kernel
theorem dM_isCovered_333 : decode cM_isCovered 333 = .ok (.goto 4, 3) := by decide +kernel
theorem dM_isCovered_336 : decode cM_isCovered 336 = .ok (.iconst 0, 1) := by decide +kernel
theorem dM_isCovered_337 : decode cM_isCovered 337 = .ok (.istore 13, 2) := by decide +kernel
theorem dM_isCovered_339 : decode cM_isCovered 339 = .ok (.iload 12, 2) := by decide +kernel
theorem dM_isCovered_341 : decode cM_isCovered 341 = .ok (.ifCond .ne 8, 3) := by decide +kernel
theorem dM_isCovered_344 : decode cM_isCovered 344 = .ok (.iload 13, 2) := by decide +kernel
theorem dM_isCovered_346 : decode cM_isCovered 346 = .ok (.ifCond .eq 7, 3) := by decide +kernel
theorem dM_isCovered_349 : decode cM_isCovered 349 = .ok (.iconst 1, 1) := by decide +kernel
theorem dM_isCovered_350 : decode cM_isCovered 350 = .ok (.goto 4, 3) := by decide +kernel
theorem dM_isCovered_353 : decode cM_isCovered 353 = .ok (.iconst 0, 1) := by decide +kernel
theorem dM_isCovered_354 : decode cM_isCovered 354 = .ok (.istore 9, 2) := by decide +kernel
theorem dM_isCovered_356 : decode cM_isCovered 356 = .ok (.iload 9, 2) := by decide +kernel
theorem dM_isCovered_358 : decode cM_isCovered 358 = .ok (.ifCond .eq 51, 3) := by decide +kernel
theorem dM_isCovered_361 : decode cM_isCovered 361 = .ok (.iload 12, 2) := by decide +kernel
theorem dM_isCovered_363 : decode cM_isCovered 363 = .ok (.ifCond .eq 13, 3) := by decide +kernel
theorem dM_isCovered_366 : decode cM_isCovered 366 = .ok (.aload_n 0, 1) := by decide +kernel
theorem dM_isCovered_367 : decode cM_isCovered 367 = .ok (.getfield 32, 3) := by decide +kernel
theorem dM_isCovered_370 : decode cM_isCovered 370 = .ok (.iload 10, 2) := by decide +kernel
theorem dM_isCovered_372 : decode cM_isCovered 372 = .ok (.laload, 1) := by decide +kernel
theorem dM_isCovered_373 : decode cM_isCovered 373 = .ok (.goto 10, 3) := by decide +kernel
theorem dM_isCovered_376 : decode cM_isCovered 376 = .ok (.aload_n 0, 1) := by decide +kernel
theorem dM_isCovered_377 : decode cM_isCovered 377 = .ok (.getfield 38, 3) := by decide +kernel
theorem dM_isCovered_380 : decode cM_isCovered 380 = .ok (.iload 10, 2) := by decide +kernel
theorem dM_isCovered_382 : decode cM_isCovered 382 = .ok (.laload, 1) := by decide +kernel
theorem dM_isCovered_383 : decode cM_isCovered 383 = .ok (.lstore 5, 2) := by decide +kernel
theorem dM_isCovered_385 : decode cM_isCovered 385 = .ok (.iload 12, 2) := by decide +kernel
theorem dM_isCovered_387 : decode cM_isCovered 387 = .ok (.ifCond .eq 13, 3) := by decide +kernel
theorem dM_isCovered_390 : decode cM_isCovered 390 = .ok (.aload_n 0, 1) := by decide +kernel
theorem dM_isCovered_391 : decode cM_isCovered 391 = .ok (.getfield 35, 3) := by decide +kernel
theorem dM_isCovered_394 : decode cM_isCovered 394 = .ok (.iload 10, 2) := by decide +kernel
theorem dM_isCovered_396 : decode cM_isCovered 396 = .ok (.laload, 1) := by decide +kernel
theorem dM_isCovered_397 : decode cM_isCovered 397 = .ok (.goto 10, 3) := by decide +kernel
theorem dM_isCovered_400 : decode cM_isCovered 400 = .ok (.aload_n 0, 1) := by decide +kernel
theorem dM_isCovered_401 : decode cM_isCovered 401 = .ok (.getfield 41, 3) := by decide +kernel
theorem dM_isCovered_404 : decode cM_isCovered 404 = .ok (.iload 10, 2) := by decide +kernel
theorem dM_isCovered_406 : decode cM_isCovered 406 = .ok (.laload, 1) := by decide +kernel
theorem dM_isCovered_407 : decode cM_isCovered 407 = .ok (.lstore 7, 2) := by decide +kernel
theorem dM_isCovered_409 : decode cM_isCovered 409 = .ok (.iinc 10 1, 3) := by decide +kernel
theorem dM_isCovered_412 : decode cM_isCovered 412 = .ok (.goto (-231), 3) := by decide +kernel
theorem dM_isCovered_415 : decode cM_isCovered 415 = .ok (.goto (-269), 3) := by decide +kernel
theorem dM_isCovered_418 : decode cM_isCovered 418 = .ok (.iload 9, 2) := by decide +kernel
theorem dM_isCovered_420 : decode cM_isCovered 420 = .ok (.ireturn, 1) := by decide +kernel
def f_M_isCovered_j418 (v : MV) (p9 : Int32) : Option Int32 := rb p9
def f_M_isCovered_j415 (v : MV) (K146 : Int32 → Int32 → Int32 → Int64 → Int64 → Int32 → Option Int32) (p1 : Int32) (p3 : Int32) (p4 : Int32) (p5 : Int64) (p7 : Int64) (p9 : Int32) : Option Int32 := (K146 p1 p3 p4 p5 p7 p9)
def f_M_isCovered_j409 (v : MV) (K146 : Int32 → Int32 → Int32 → Int64 → Int64 → Int32 → Option Int32) (K181 : Int32 → Int32 → Int32 → Int64 → Int64 → Int32 → Int32 → Option Int32) (p1 : Int32) (p3 : Int32) (p4 : Int32) (p5 : Int64) (p7 : Int64) (p9 : Int32) (p10 : Int32) : Option Int32 := (K181 p1 p3 p4 p5 p7 p9 (p10 + 1))
def f_M_isCovered_j407 (v : MV) (K146 : Int32 → Int32 → Int32 → Int64 → Int64 → Int32 → Option Int32) (K181 : Int32 → Int32 → Int32 → Int64 → Int64 → Int32 → Int32 → Option Int32) (p1 : Int32) (p3 : Int32) (p4 : Int32) (p5 : Int64) (p9 : Int32) (p10 : Int32) (s0 : Int64) : Option Int32 := (f_M_isCovered_j409 v K146 K181 p1 p3 p4 p5 s0 p9 p10)
def f_M_isCovered_j383 (v : MV) (K146 : Int32 → Int32 → Int32 → Int64 → Int64 → Int32 → Option Int32) (K181 : Int32 → Int32 → Int32 → Int64 → Int64 → Int32 → Int32 → Option Int32) (p1 : Int32) (p3 : Int32) (p4 : Int32) (p9 : Int32) (p10 : Int32) (p12 : Int32) (s0 : Int64) : Option Int32 := (if p12 = 0 then (ld 96 (md_by v) p10).bind fun u53 => (f_M_isCovered_j407 v K146 K181 p1 p3 p4 s0 p9 p10 u53) else (ld 96 (md_ay v) p10).bind fun u54 => (f_M_isCovered_j407 v K146 K181 p1 p3 p4 s0 p9 p10 u54))
def f_M_isCovered_j354 (v : MV) (K146 : Int32 → Int32 → Int32 → Int64 → Int64 → Int32 → Option Int32) (K181 : Int32 → Int32 → Int32 → Int64 → Int64 → Int32 → Int32 → Option Int32) (p1 : Int32) (p3 : Int32) (p4 : Int32) (p5 : Int64) (p7 : Int64) (p10 : Int32) (p12 : Int32) (s0 : Int32) : Option Int32 := (if s0 = 0 then (f_M_isCovered_j409 v K146 K181 p1 p3 p4 p5 p7 s0 p10) else (if p12 = 0 then (ld 96 (md_bx v) p10).bind fun u50 => (f_M_isCovered_j383 v K146 K181 p1 p3 p4 s0 p10 p12 u50) else (ld 96 (md_ax v) p10).bind fun u51 => (f_M_isCovered_j383 v K146 K181 p1 p3 p4 s0 p10 p12 u51)))
def f_M_isCovered_j349 (v : MV) (K146 : Int32 → Int32 → Int32 → Int64 → Int64 → Int32 → Option Int32) (K181 : Int32 → Int32 → Int32 → Int64 → Int64 → Int32 → Int32 → Option Int32) (p1 : Int32) (p3 : Int32) (p4 : Int32) (p5 : Int64) (p7 : Int64) (p10 : Int32) (p12 : Int32) : Option Int32 := (f_M_isCovered_j354 v K146 K181 p1 p3 p4 p5 p7 p10 p12 (1 : Int32))
def f_M_isCovered_j337 (v : MV) (K146 : Int32 → Int32 → Int32 → Int64 → Int64 → Int32 → Option Int32) (K181 : Int32 → Int32 → Int32 → Int64 → Int64 → Int32 → Int32 → Option Int32) (p1 : Int32) (p3 : Int32) (p4 : Int32) (p5 : Int64) (p7 : Int64) (p10 : Int32) (p12 : Int32) (s0 : Int32) : Option Int32 := (if p12 = 0 then (if s0 = 0 then (f_M_isCovered_j354 v K146 K181 p1 p3 p4 p5 p7 p10 p12 (0 : Int32)) else (f_M_isCovered_j349 v K146 K181 p1 p3 p4 p5 p7 p10 p12)) else (f_M_isCovered_j349 v K146 K181 p1 p3 p4 p5 p7 p10 p12))
def f_M_isCovered_j336 (v : MV) (K146 : Int32 → Int32 → Int32 → Int64 → Int64 → Int32 → Option Int32) (K181 : Int32 → Int32 → Int32 → Int64 → Int64 → Int32 → Int32 → Option Int32) (p1 : Int32) (p3 : Int32) (p4 : Int32) (p5 : Int64) (p7 : Int64) (p10 : Int32) (p12 : Int32) : Option Int32 := (f_M_isCovered_j337 v K146 K181 p1 p3 p4 p5 p7 p10 p12 (0 : Int32))
def f_M_isCovered_j299 (v : MV) (K146 : Int32 → Int32 → Int32 → Int64 → Int64 → Int32 → Option Int32) (K181 : Int32 → Int32 → Int32 → Int64 → Int64 → Int32 → Int32 → Option Int32) (p1 : Int32) (p3 : Int32) (p4 : Int32) (p5 : Int64) (p7 : Int64) (p10 : Int32) (p11 : Int32) (s0 : Int32) : Option Int32 := (if p11 = 0 then (f_M_isCovered_j336 v K146 K181 p1 p3 p4 p5 p7 p10 s0) else (ld 96 (md_bx v) p10).bind fun u42 => (ld 96 (md_by v) p10).bind fun u43 => (f_M_isAhead v p1 u42 u43 p5 p7).bind fun u44 => (if u44 = 0 then (f_M_isCovered_j336 v K146 K181 p1 p3 p4 p5 p7 p10 s0) else (f_M_isCovered_j337 v K146 K181 p1 p3 p4 p5 p7 p10 s0 (1 : Int32))))
def f_M_isCovered_j298 (v : MV) (K146 : Int32 → Int32 → Int32 → Int64 → Int64 → Int32 → Option Int32) (K181 : Int32 → Int32 → Int32 → Int64 → Int64 → Int32 → Int32 → Option Int32) (p1 : Int32) (p3 : Int32) (p4 : Int32) (p5 : Int64) (p7 : Int64) (p10 : Int32) (p11 : Int32) : Option Int32 := (f_M_isCovered_j299 v K146 K181 p1 p3 p4 p5 p7 p10 p11 (0 : Int32))
def f_M_isCovered_j261 (v : MV) (K146 : Int32 → Int32 → Int32 → Int64 → Int64 → Int32 → Option Int32) (K181 : Int32 → Int32 → Int32 → Int64 → Int64 → Int32 → Int32 → Option Int32) (p1 : Int32) (p3 : Int32) (p4 : Int32) (p5 : Int64) (p7 : Int64) (p10 : Int32) (s0 : Int32) : Option Int32 := (if s0 = 0 then (f_M_isCovered_j298 v K146 K181 p1 p3 p4 p5 p7 p10 s0) else (ld 96 (md_ax v) p10).bind fun u37 => (ld 96 (md_ay v) p10).bind fun u38 => (f_M_isAhead v p1 u37 u38 p5 p7).bind fun u39 => (if u39 = 0 then (f_M_isCovered_j298 v K146 K181 p1 p3 p4 p5 p7 p10 s0) else (f_M_isCovered_j299 v K146 K181 p1 p3 p4 p5 p7 p10 s0 (1 : Int32))))
def f_M_isCovered_j260 (v : MV) (K146 : Int32 → Int32 → Int32 → Int64 → Int64 → Int32 → Option Int32) (K181 : Int32 → Int32 → Int32 → Int64 → Int64 → Int32 → Int32 → Option Int32) (p1 : Int32) (p3 : Int32) (p4 : Int32) (p5 : Int64) (p7 : Int64) (p10 : Int32) : Option Int32 := (f_M_isCovered_j261 v K146 K181 p1 p3 p4 p5 p7 p10 (0 : Int32))
def f_M_isCovered_l181 (v : MV) (K146 : Int32 → Int32 → Int32 → Int64 → Int64 → Int32 → Option Int32) : Nat → Int32 → Int32 → Int32 → Int64 → Int64 → Int32 → Int32 → Option Int32
 | 0, _, _, _, _, _, _, _ => none
 | n + 1, p1, p3, p4, p5, p7, p9, p10 => (if p4 ≤ p10 then (f_M_isCovered_j415 v K146 p1 p3 p4 p5 p7 p9) else (if p9 = 0 then (f_M_isLine (md_ax v) (md_ay v) (md_bx v) (md_by v) p1 p10).bind fun u28 => (if u28 = 0 then (f_M_isCovered_j260 v K146 (f_M_isCovered_l181 v K146 n) p1 p3 p4 p5 p7 p10) else (ld 96 (md_ax v) p10).bind fun u30 => (ld 96 (md_ay v) p10).bind fun u31 => (ld 96 (md_bx v) p10).bind fun u32 => (ld 96 (md_by v) p10).bind fun u33 => (f_M_isOn p5 p7 u30 u31 u32 u33).bind fun u34 => (if u34 = 0 then (f_M_isCovered_j260 v K146 (f_M_isCovered_l181 v K146 n) p1 p3 p4 p5 p7 p10) else (f_M_isCovered_j261 v K146 (f_M_isCovered_l181 v K146 n) p1 p3 p4 p5 p7 p10 (1 : Int32)))) else (f_M_isCovered_j415 v K146 p1 p3 p4 p5 p7 p9)))
def f_M_isCovered_l146 (v : MV) : Nat → Int32 → Int32 → Int32 → Int64 → Int64 → Int32 → Option Int32
 | 0, _, _, _, _, _, _ => none
 | n + 1, p1, p3, p4, p5, p7, p9 => (if p9 = 0 then (f_M_isCovered_j418 v p9) else (ld 96 (md_bx v) p1).bind fun u22 => (ld 96 (md_by v) p1).bind fun u23 => (f_M_isAhead v p1 u22 u23 p5 p7).bind fun u24 => (if u24 = 0 then (f_M_isCovered_j418 v p9) else (f_M_isCovered_l181 v (f_M_isCovered_l146 v n) 64 p1 p3 p4 p5 p7 (0 : Int32) p3)))
def f_M_isCovered_j127 (v : MV) (p1 : Int32) (p3 : Int32) (p4 : Int32) : Option Int32 := (ld 96 (md_ax v) p1).bind fun u9 => (ld 96 (md_ay v) p1).bind fun u10 => (f_M_isCovered_l146 v 3000000000 p1 p3 p4 u9 u10 (1 : Int32))
def f_M_isCovered_j116 (v : MV) (K53 : Int32 → Int32 → Int32 → Int32 → Option Int32) (p1 : Int32) (p4 : Int32) (p6 : Int32) (s0 : Int32) : Option Int32 := (K53 p1 p4 s0 (p6 + 1))
def f_M_isCovered_j111 (v : MV) (K53 : Int32 → Int32 → Int32 → Int32 → Option Int32) (p1 : Int32) (p4 : Int32) (p6 : Int32) : Option Int32 := (f_M_isCovered_j116 v K53 p1 p4 p6 (1 : Int32))
def f_M_isCovered_l53 (v : MV) : Nat → Int32 → Int32 → Int32 → Int32 → Option Int32
 | 0, _, _, _, _ => none
 | n + 1, p1, p4, p5, p6 => (if p4 ≤ p6 then rb p5 else (if p5 = 0 then (ld 96 (md_ax v) p1).bind fun u13 => (ld 96 (md_ay v) p1).bind fun u14 => (ld 96 (md_ax v) p6).bind fun u15 => (ld 96 (md_ay v) p6).bind fun u16 => (ld 96 (md_bx v) p6).bind fun u17 => (ld 96 (md_by v) p6).bind fun u18 => (f_M_isOn u13 u14 u15 u16 u17 u18).bind fun u19 => (if u19 = 0 then (f_M_isCovered_j116 v (f_M_isCovered_l53 v n) p1 p4 p6 (0 : Int32)) else (f_M_isCovered_j111 v (f_M_isCovered_l53 v n) p1 p4 p6)) else (f_M_isCovered_j111 v (f_M_isCovered_l53 v n) p1 p4 p6)))
def f_M_isCovered (v : MV) (x1 : Int32) (x2 : Int32) : Option Int32 := (ld 2 (md_size v) x2).bind fun u1 => (some (((48 : Int32) * x2) + u1)).bind fun u2 => (ld 96 (md_ax v) x1).bind fun u3 => (ld 96 (md_bx v) x1).bind fun u4 => (if (lg_cmp u3 u4) = 0 then (ld 96 (md_ay v) x1).bind fun u6 => (ld 96 (md_by v) x1).bind fun u7 => (if (lg_cmp u6 u7) = 0 then (f_M_isCovered_l53 v 64 x1 u2 (0 : Int32) ((48 : Int32) * x2)) else (f_M_isCovered_j127 v x1 ((48 : Int32) * x2) u2)) else (f_M_isCovered_j127 v x1 ((48 : Int32) * x2) u2))
set_option maxHeartbeats 4000000 in
set_option maxRecDepth 100000 in
theorem k_M_isCovered (l : Launch) (dC : Nat → ClassId) (dI : Nat → Nat → Nat) (cL cI : ClassId) (qm : Nat → Nat) (v : MV) (x1 : Int32) (x2 : Int32) (r : Int32) (h : f_M_isCovered v x1 x2 = some r) : Met l yM_isCovered wsM_isCovered ({ frames := 3, cells := 0, slots := 0, locals := 89 }) (rd_Pc [.ref (qm 0), .int x1, .int x2] (fun H => va_P (dC, dI) cls3 (mdW cL cI qm v) H) (dC, dI) cls3 [(cL, .long), (cI, .int)]) (vp_Si (fun z => z = r)) 0 0 (fun _ => False) := by
  refine Met.ofW (cc := cM_isCovered) (maxL := 14) (ret := (some .boolean)) (by decide) rfl ?_
  intro p e s m args below meth c s₁ B hml hv
  obtain ⟨rfl, hPm, hK⟩ := hv
  have hx := B.exec
  have hb := B.bytes
  have hr := B.returns
  have hw : ∀ w ∈ wG, w.before ([.ref (qm 0), .int x1, .int x2] : List Value).toArray s = true := fun w hq => atoms_spec (ws := wsM_isCovered) B.pre w (List.mem_cons_of_mem _ hq)
  have hown : s.vm.findClass R_M = some m.cls := findClass_of_methodNamed B.named
  have hlocks := B.notSynchronized
  have hl := lv_entry ([.ref (qm 0), .int x1, .int x2] : List Value) (n := 14) (Nat.le_of_ble_eq_true rfl)
  rw [lg_entry_eq]
  generalize (lg_sl ([.ref (qm 0), .int x1, .int x2] : List Value) ++ List.replicate (14 - (lg_sl ([.ref (qm 0), .int x1, .int x2] : List Value)).length) Slot.unset).toArray = ls at hl ⊢
  have hl : lv_has ls 14 [(0, .ref (qm 0)), (1, .int x1), (2, .int x2)] := hl
  have k418 : ∀ (p9 : Int32), f_M_isCovered_j418 v p9 = some r →  ∀ (ls : Array Slot), lv_has ls 14 [(9, .int p9)] → W p l e (headSpec wsM_isCovered ({ frames := 3, cells := 0, slots := 0, locals := 89 })).room s m ([.ref (qm 0), .int x1, .int x2] : List Value).toArray below meth c s.heap [] 0 0 (MQ below (vp_Si (fun z => z = r)) ([.ref (qm 0), .int x1, .int x2] : List Value).toArray s 0 0 (fun _ => False)) (F0 m 418 ls []) := by
    intro p9 h  ls hl
    unfold f_M_isCovered_j418 at h
    refine lv_iload hx hb dM_isCovered_418 (lv_at hl 0 rfl) ?_
    obtain ⟨hz, hr9⟩ := rb_of h
    exact W.zret hx hb hr hz (fun t ht hW => ⟨_, rfl, hr9, ht⟩) nil_locs dM_isCovered_420
  have k146 : ∀ (n146 : Nat), ∀ (p1 : Int32) (p3 : Int32) (p4 : Int32) (p5 : Int64) (p7 : Int64) (p9 : Int32), f_M_isCovered_l146 v n146 p1 p3 p4 p5 p7 p9 = some r →  ∀ (ls : Array Slot), lv_has ls 14 [(0, .ref (qm 0)), (1, .int p1), (3, .int p3), (4, .int p4), (5, .long p5), (7, .long p7), (9, .int p9)] → W p l e (headSpec wsM_isCovered ({ frames := 3, cells := 0, slots := 0, locals := 89 })).room s m ([.ref (qm 0), .int x1, .int x2] : List Value).toArray below meth c s.heap [] 0 0 (MQ below (vp_Si (fun z => z = r)) ([.ref (qm 0), .int x1, .int x2] : List Value).toArray s 0 0 (fun _ => False)) (F0 m 146 ls []) := by
    intro n146
    induction n146 with
    | zero => intro p1 p3 p4 p5 p7 p9 h; exact absurd h (by simp [f_M_isCovered_l146])
    | succ n146 ih146 =>
      have k415 : ∀ (p1 : Int32) (p3 : Int32) (p4 : Int32) (p5 : Int64) (p7 : Int64) (p9 : Int32), f_M_isCovered_j415 v (f_M_isCovered_l146 v n146) p1 p3 p4 p5 p7 p9 = some r →  ∀ (ls : Array Slot), lv_has ls 14 [(0, .ref (qm 0)), (1, .int p1), (3, .int p3), (4, .int p4), (5, .long p5), (7, .long p7), (9, .int p9)] → W p l e (headSpec wsM_isCovered ({ frames := 3, cells := 0, slots := 0, locals := 89 })).room s m ([.ref (qm 0), .int x1, .int x2] : List Value).toArray below meth c s.heap [] 0 0 (MQ below (vp_Si (fun z => z = r)) ([.ref (qm 0), .int x1, .int x2] : List Value).toArray s 0 0 (fun _ => False)) (F0 m 415 ls []) := by
        intro p1 p3 p4 p5 p7 p9 h  ls hl
        unfold f_M_isCovered_j415 at h
        refine lv_goto (tgt := 146) hx hb dM_isCovered_415 (by decide) ?_
        exact ih146 p1 p3 p4 p5 p7 p9 h ls (lv_sub hl [0, 1, 2, 3, 4, 5, 6] rfl)
      have k181 : ∀ (n181 : Nat), ∀ (p1 : Int32) (p3 : Int32) (p4 : Int32) (p5 : Int64) (p7 : Int64) (p9 : Int32) (p10 : Int32), f_M_isCovered_l181 v (f_M_isCovered_l146 v n146) n181 p1 p3 p4 p5 p7 p9 p10 = some r →  ∀ (ls : Array Slot), lv_has ls 14 [(0, .ref (qm 0)), (1, .int p1), (3, .int p3), (4, .int p4), (5, .long p5), (7, .long p7), (9, .int p9), (10, .int p10)] → W p l e (headSpec wsM_isCovered ({ frames := 3, cells := 0, slots := 0, locals := 89 })).room s m ([.ref (qm 0), .int x1, .int x2] : List Value).toArray below meth c s.heap [] 0 0 (MQ below (vp_Si (fun z => z = r)) ([.ref (qm 0), .int x1, .int x2] : List Value).toArray s 0 0 (fun _ => False)) (F0 m 181 ls []) := by
        intro n181
        induction n181 with
        | zero => intro p1 p3 p4 p5 p7 p9 p10 h; exact absurd h (by simp [f_M_isCovered_l181])
        | succ n181 ih181 =>
          have k409 : ∀ (p1 : Int32) (p3 : Int32) (p4 : Int32) (p5 : Int64) (p7 : Int64) (p9 : Int32) (p10 : Int32), f_M_isCovered_j409 v (f_M_isCovered_l146 v n146) (f_M_isCovered_l181 v (f_M_isCovered_l146 v n146) n181) p1 p3 p4 p5 p7 p9 p10 = some r →  ∀ (ls : Array Slot), lv_has ls 14 [(0, .ref (qm 0)), (1, .int p1), (3, .int p3), (4, .int p4), (5, .long p5), (7, .long p7), (9, .int p9), (10, .int p10)] → W p l e (headSpec wsM_isCovered ({ frames := 3, cells := 0, slots := 0, locals := 89 })).room s m ([.ref (qm 0), .int x1, .int x2] : List Value).toArray below meth c s.heap [] 0 0 (MQ below (vp_Si (fun z => z = r)) ([.ref (qm 0), .int x1, .int x2] : List Value).toArray s 0 0 (fun _ => False)) (F0 m 409 ls []) := by
            intro p1 p3 p4 p5 p7 p9 p10 h  ls hl
            unfold f_M_isCovered_j409 at h
            refine lv_iinc (v := p10 + 1) (lv' := [(10, .int (p10 + 1)), (0, .ref (qm 0)), (1, .int p1), (3, .int p3), (4, .int p4), (5, .long p5), (7, .long p7), (9, .int p9)]) hx hb dM_isCovered_409 hl (k := 7) rfl rfl (by decide) rfl (fun ls hl => ?_)
            refine lv_goto (tgt := 181) hx hb dM_isCovered_412 (by decide) ?_
            exact ih181 p1 p3 p4 p5 p7 p9 (p10 + 1) h ls (lv_sub hl [1, 2, 3, 4, 5, 6, 7, 0] rfl)
          have k407 : ∀ (p1 : Int32) (p3 : Int32) (p4 : Int32) (p5 : Int64) (p9 : Int32) (p10 : Int32) (s0 : Int64), f_M_isCovered_j407 v (f_M_isCovered_l146 v n146) (f_M_isCovered_l181 v (f_M_isCovered_l146 v n146) n181) p1 p3 p4 p5 p9 p10 s0 = some r →  ∀ (ls : Array Slot), lv_has ls 14 [(0, .ref (qm 0)), (1, .int p1), (3, .int p3), (4, .int p4), (5, .long p5), (9, .int p9), (10, .int p10)] → W p l e (headSpec wsM_isCovered ({ frames := 3, cells := 0, slots := 0, locals := 89 })).room s m ([.ref (qm 0), .int x1, .int x2] : List Value).toArray below meth c s.heap [] 0 0 (MQ below (vp_Si (fun z => z = r)) ([.ref (qm 0), .int x1, .int x2] : List Value).toArray s 0 0 (fun _ => False)) (F0 m 407 ls [.long s0]) := by
            intro p1 p3 p4 p5 p9 p10 s0 h  ls hl
            unfold f_M_isCovered_j407 at h
            refine lv_lstore (lv' := [(7, .long s0), (0, .ref (qm 0)), (1, .int p1), (3, .int p3), (4, .int p4), (5, .long p5), (9, .int p9), (10, .int p10)]) hx hb dM_isCovered_407 hl (by decide) rfl (fun ls hl => ?_)
            exact k409 p1 p3 p4 p5 s0 p9 p10 h ls (lv_sub hl [1, 2, 3, 4, 5, 0, 6, 7] rfl)
          have k383 : ∀ (p1 : Int32) (p3 : Int32) (p4 : Int32) (p9 : Int32) (p10 : Int32) (p12 : Int32) (s0 : Int64), f_M_isCovered_j383 v (f_M_isCovered_l146 v n146) (f_M_isCovered_l181 v (f_M_isCovered_l146 v n146) n181) p1 p3 p4 p9 p10 p12 s0 = some r →  ∀ (ls : Array Slot), lv_has ls 14 [(0, .ref (qm 0)), (1, .int p1), (3, .int p3), (4, .int p4), (9, .int p9), (10, .int p10), (12, .int p12)] → W p l e (headSpec wsM_isCovered ({ frames := 3, cells := 0, slots := 0, locals := 89 })).room s m ([.ref (qm 0), .int x1, .int x2] : List Value).toArray below meth c s.heap [] 0 0 (MQ below (vp_Si (fun z => z = r)) ([.ref (qm 0), .int x1, .int x2] : List Value).toArray s 0 0 (fun _ => False)) (F0 m 383 ls [.long s0]) := by
            intro p1 p3 p4 p9 p10 p12 s0 h  ls hl
            unfold f_M_isCovered_j383 at h
            refine lv_lstore (lv' := [(5, .long s0), (0, .ref (qm 0)), (1, .int p1), (3, .int p3), (4, .int p4), (9, .int p9), (10, .int p10), (12, .int p12)]) hx hb dM_isCovered_383 hl (by decide) rfl (fun ls hl => ?_)
            refine lv_iload hx hb dM_isCovered_385 (lv_at hl 7 rfl) ?_
            refine lv_if_eq (tgt := 400) hx hb dM_isCovered_387 (by decide) (fun c52 => ?_) (fun c52 => ?_)
            · have h := it_t c52 h
              refine lv_aload_n hx hb dM_isCovered_400 rfl (lv_at hl 1 rfl) ?_
              refine va_get (D := (dC, dI)) (ci := 2) (v := .ref (qm 11)) (C := R_M) (T := T_M) (N := 15) hx hb hw in_M hown hK hPm 0 rfl rfl 12 (by decide) (hw _ w_457) (fun _ h9 => h9) rfl dM_isCovered_401 ?_
              refine lv_iload hx hb dM_isCovered_404 (lv_at hl 6 rfl) ?_
              obtain ⟨u53, hu53, h⟩ := ob_some h
              obtain ⟨hiu53, eu53⟩ := ld_of hu53
              refine va_lald hx hb hK hPm 11 0 rfl rfl hiu53 dM_isCovered_406 ?_
              rw [eu53]
              exact k407 p1 p3 p4 s0 p9 p10 u53 h ls (lv_sub hl [1, 2, 3, 4, 0, 5, 6] rfl)
            · have h := it_f c52 h
              refine lv_aload_n hx hb dM_isCovered_390 rfl (lv_at hl 1 rfl) ?_
              refine va_get (D := (dC, dI)) (ci := 2) (v := .ref (qm 9)) (C := R_M) (T := T_M) (N := 15) hx hb hw in_M hown hK hPm 0 rfl rfl 10 (by decide) (hw _ w_455) (fun _ h9 => h9) rfl dM_isCovered_391 ?_
              refine lv_iload hx hb dM_isCovered_394 (lv_at hl 6 rfl) ?_
              obtain ⟨u54, hu54, h⟩ := ob_some h
              obtain ⟨hiu54, eu54⟩ := ld_of hu54
              refine va_lald hx hb hK hPm 9 0 rfl rfl hiu54 dM_isCovered_396 ?_
              rw [eu54]
              refine lv_goto (tgt := 407) hx hb dM_isCovered_397 (by decide) ?_
              exact k407 p1 p3 p4 s0 p9 p10 u54 h ls (lv_sub hl [1, 2, 3, 4, 0, 5, 6] rfl)
          have k354 : ∀ (p1 : Int32) (p3 : Int32) (p4 : Int32) (p5 : Int64) (p7 : Int64) (p10 : Int32) (p12 : Int32) (s0 : Int32), f_M_isCovered_j354 v (f_M_isCovered_l146 v n146) (f_M_isCovered_l181 v (f_M_isCovered_l146 v n146) n181) p1 p3 p4 p5 p7 p10 p12 s0 = some r →  ∀ (ls : Array Slot), lv_has ls 14 [(0, .ref (qm 0)), (1, .int p1), (3, .int p3), (4, .int p4), (5, .long p5), (7, .long p7), (10, .int p10), (12, .int p12)] → W p l e (headSpec wsM_isCovered ({ frames := 3, cells := 0, slots := 0, locals := 89 })).room s m ([.ref (qm 0), .int x1, .int x2] : List Value).toArray below meth c s.heap [] 0 0 (MQ below (vp_Si (fun z => z = r)) ([.ref (qm 0), .int x1, .int x2] : List Value).toArray s 0 0 (fun _ => False)) (F0 m 354 ls [.int s0]) := by
            intro p1 p3 p4 p5 p7 p10 p12 s0 h  ls hl
            unfold f_M_isCovered_j354 at h
            refine lv_istore (lv' := [(9, .int s0), (0, .ref (qm 0)), (1, .int p1), (3, .int p3), (4, .int p4), (5, .long p5), (7, .long p7), (10, .int p10), (12, .int p12)]) hx hb dM_isCovered_354 hl (by decide) rfl (fun ls hl => ?_)
            refine lv_iload hx hb dM_isCovered_356 (lv_at hl 0 rfl) ?_
            refine lv_if_eq (tgt := 409) hx hb dM_isCovered_358 (by decide) (fun c48 => ?_) (fun c48 => ?_)
            · have h := it_t c48 h
              exact k409 p1 p3 p4 p5 p7 s0 p10 h ls (lv_sub hl [1, 2, 3, 4, 5, 6, 0, 7] rfl)
            · have h := it_f c48 h
              refine lv_iload hx hb dM_isCovered_361 (lv_at hl 8 rfl) ?_
              refine lv_if_eq (tgt := 376) hx hb dM_isCovered_363 (by decide) (fun c49 => ?_) (fun c49 => ?_)
              · have h := it_t c49 h
                refine lv_aload_n hx hb dM_isCovered_376 rfl (lv_at hl 1 rfl) ?_
                refine va_get (D := (dC, dI)) (ci := 2) (v := .ref (qm 10)) (C := R_M) (T := T_M) (N := 15) hx hb hw in_M hown hK hPm 0 rfl rfl 11 (by decide) (hw _ w_456) (fun _ h9 => h9) rfl dM_isCovered_377 ?_
                refine lv_iload hx hb dM_isCovered_380 (lv_at hl 7 rfl) ?_
                obtain ⟨u50, hu50, h⟩ := ob_some h
                obtain ⟨hiu50, eu50⟩ := ld_of hu50
                refine va_lald hx hb hK hPm 10 0 rfl rfl hiu50 dM_isCovered_382 ?_
                rw [eu50]
                exact k383 p1 p3 p4 s0 p10 p12 u50 h ls (lv_sub hl [1, 2, 3, 4, 0, 7, 8] rfl)
              · have h := it_f c49 h
                refine lv_aload_n hx hb dM_isCovered_366 rfl (lv_at hl 1 rfl) ?_
                refine va_get (D := (dC, dI)) (ci := 2) (v := .ref (qm 8)) (C := R_M) (T := T_M) (N := 15) hx hb hw in_M hown hK hPm 0 rfl rfl 9 (by decide) (hw _ w_454) (fun _ h9 => h9) rfl dM_isCovered_367 ?_
                refine lv_iload hx hb dM_isCovered_370 (lv_at hl 7 rfl) ?_
                obtain ⟨u51, hu51, h⟩ := ob_some h
                obtain ⟨hiu51, eu51⟩ := ld_of hu51
                refine va_lald hx hb hK hPm 8 0 rfl rfl hiu51 dM_isCovered_372 ?_
                rw [eu51]
                refine lv_goto (tgt := 383) hx hb dM_isCovered_373 (by decide) ?_
                exact k383 p1 p3 p4 s0 p10 p12 u51 h ls (lv_sub hl [1, 2, 3, 4, 0, 7, 8] rfl)
          have k349 : ∀ (p1 : Int32) (p3 : Int32) (p4 : Int32) (p5 : Int64) (p7 : Int64) (p10 : Int32) (p12 : Int32), f_M_isCovered_j349 v (f_M_isCovered_l146 v n146) (f_M_isCovered_l181 v (f_M_isCovered_l146 v n146) n181) p1 p3 p4 p5 p7 p10 p12 = some r →  ∀ (ls : Array Slot), lv_has ls 14 [(0, .ref (qm 0)), (1, .int p1), (3, .int p3), (4, .int p4), (5, .long p5), (7, .long p7), (10, .int p10), (12, .int p12)] → W p l e (headSpec wsM_isCovered ({ frames := 3, cells := 0, slots := 0, locals := 89 })).room s m ([.ref (qm 0), .int x1, .int x2] : List Value).toArray below meth c s.heap [] 0 0 (MQ below (vp_Si (fun z => z = r)) ([.ref (qm 0), .int x1, .int x2] : List Value).toArray s 0 0 (fun _ => False)) (F0 m 349 ls []) := by
            intro p1 p3 p4 p5 p7 p10 p12 h  ls hl
            unfold f_M_isCovered_j349 at h
            refine lv_iconst (v := 1) hx hb dM_isCovered_349 (by decide) ?_
            refine lv_goto (tgt := 354) hx hb dM_isCovered_350 (by decide) ?_
            exact k354 p1 p3 p4 p5 p7 p10 p12 (1 : Int32) h ls (lv_sub hl [0, 1, 2, 3, 4, 5, 6, 7] rfl)
          have k337 : ∀ (p1 : Int32) (p3 : Int32) (p4 : Int32) (p5 : Int64) (p7 : Int64) (p10 : Int32) (p12 : Int32) (s0 : Int32), f_M_isCovered_j337 v (f_M_isCovered_l146 v n146) (f_M_isCovered_l181 v (f_M_isCovered_l146 v n146) n181) p1 p3 p4 p5 p7 p10 p12 s0 = some r →  ∀ (ls : Array Slot), lv_has ls 14 [(0, .ref (qm 0)), (1, .int p1), (3, .int p3), (4, .int p4), (5, .long p5), (7, .long p7), (10, .int p10), (12, .int p12)] → W p l e (headSpec wsM_isCovered ({ frames := 3, cells := 0, slots := 0, locals := 89 })).room s m ([.ref (qm 0), .int x1, .int x2] : List Value).toArray below meth c s.heap [] 0 0 (MQ below (vp_Si (fun z => z = r)) ([.ref (qm 0), .int x1, .int x2] : List Value).toArray s 0 0 (fun _ => False)) (F0 m 337 ls [.int s0]) := by
            intro p1 p3 p4 p5 p7 p10 p12 s0 h  ls hl
            unfold f_M_isCovered_j337 at h
            refine lv_istore (lv' := [(13, .int s0), (0, .ref (qm 0)), (1, .int p1), (3, .int p3), (4, .int p4), (5, .long p5), (7, .long p7), (10, .int p10), (12, .int p12)]) hx hb dM_isCovered_337 hl (by decide) rfl (fun ls hl => ?_)
            refine lv_iload hx hb dM_isCovered_339 (lv_at hl 8 rfl) ?_
            refine lv_if_ne (tgt := 349) hx hb dM_isCovered_341 (by decide) (fun c46 => ?_) (fun c46 => ?_)
            · have h := it_f c46 h
              exact k349 p1 p3 p4 p5 p7 p10 p12 h ls (lv_sub hl [1, 2, 3, 4, 5, 6, 7, 8] rfl)
            · have h := it_t c46 h
              refine lv_iload hx hb dM_isCovered_344 (lv_at hl 0 rfl) ?_
              refine lv_if_eq (tgt := 353) hx hb dM_isCovered_346 (by decide) (fun c47 => ?_) (fun c47 => ?_)
              · have h := it_t c47 h
                refine lv_iconst (v := 0) hx hb dM_isCovered_353 (by decide) ?_
                exact k354 p1 p3 p4 p5 p7 p10 p12 (0 : Int32) h ls (lv_sub hl [1, 2, 3, 4, 5, 6, 7, 8] rfl)
              · have h := it_f c47 h
                exact k349 p1 p3 p4 p5 p7 p10 p12 h ls (lv_sub hl [1, 2, 3, 4, 5, 6, 7, 8] rfl)
          have k336 : ∀ (p1 : Int32) (p3 : Int32) (p4 : Int32) (p5 : Int64) (p7 : Int64) (p10 : Int32) (p12 : Int32), f_M_isCovered_j336 v (f_M_isCovered_l146 v n146) (f_M_isCovered_l181 v (f_M_isCovered_l146 v n146) n181) p1 p3 p4 p5 p7 p10 p12 = some r →  ∀ (ls : Array Slot), lv_has ls 14 [(0, .ref (qm 0)), (1, .int p1), (3, .int p3), (4, .int p4), (5, .long p5), (7, .long p7), (10, .int p10), (12, .int p12)] → W p l e (headSpec wsM_isCovered ({ frames := 3, cells := 0, slots := 0, locals := 89 })).room s m ([.ref (qm 0), .int x1, .int x2] : List Value).toArray below meth c s.heap [] 0 0 (MQ below (vp_Si (fun z => z = r)) ([.ref (qm 0), .int x1, .int x2] : List Value).toArray s 0 0 (fun _ => False)) (F0 m 336 ls []) := by
            intro p1 p3 p4 p5 p7 p10 p12 h  ls hl
            unfold f_M_isCovered_j336 at h
            refine lv_iconst (v := 0) hx hb dM_isCovered_336 (by decide) ?_
            exact k337 p1 p3 p4 p5 p7 p10 p12 (0 : Int32) h ls (lv_sub hl [0, 1, 2, 3, 4, 5, 6, 7] rfl)
          have k299 : ∀ (p1 : Int32) (p3 : Int32) (p4 : Int32) (p5 : Int64) (p7 : Int64) (p10 : Int32) (p11 : Int32) (s0 : Int32), f_M_isCovered_j299 v (f_M_isCovered_l146 v n146) (f_M_isCovered_l181 v (f_M_isCovered_l146 v n146) n181) p1 p3 p4 p5 p7 p10 p11 s0 = some r →  ∀ (ls : Array Slot), lv_has ls 14 [(0, .ref (qm 0)), (1, .int p1), (3, .int p3), (4, .int p4), (5, .long p5), (7, .long p7), (10, .int p10), (11, .int p11)] → W p l e (headSpec wsM_isCovered ({ frames := 3, cells := 0, slots := 0, locals := 89 })).room s m ([.ref (qm 0), .int x1, .int x2] : List Value).toArray below meth c s.heap [] 0 0 (MQ below (vp_Si (fun z => z = r)) ([.ref (qm 0), .int x1, .int x2] : List Value).toArray s 0 0 (fun _ => False)) (F0 m 299 ls [.int s0]) := by
            intro p1 p3 p4 p5 p7 p10 p11 s0 h  ls hl
            unfold f_M_isCovered_j299 at h
            refine lv_istore (lv' := [(12, .int s0), (0, .ref (qm 0)), (1, .int p1), (3, .int p3), (4, .int p4), (5, .long p5), (7, .long p7), (10, .int p10), (11, .int p11)]) hx hb dM_isCovered_299 hl (by decide) rfl (fun ls hl => ?_)
            refine lv_iload hx hb dM_isCovered_301 (lv_at hl 8 rfl) ?_
            refine lv_if_eq (tgt := 336) hx hb dM_isCovered_303 (by decide) (fun c41 => ?_) (fun c41 => ?_)
            · have h := it_t c41 h
              exact k336 p1 p3 p4 p5 p7 p10 s0 h ls (lv_sub hl [1, 2, 3, 4, 5, 6, 7, 0] rfl)
            · have h := it_f c41 h
              refine lv_aload_n hx hb dM_isCovered_306 rfl (lv_at hl 1 rfl) ?_
              refine lv_iload_n hx hb dM_isCovered_307 rfl (lv_at hl 2 rfl) ?_
              refine lv_aload_n hx hb dM_isCovered_308 rfl (lv_at hl 1 rfl) ?_
              refine va_get (D := (dC, dI)) (ci := 2) (v := .ref (qm 10)) (C := R_M) (T := T_M) (N := 15) hx hb hw in_M hown hK hPm 0 rfl rfl 11 (by decide) (hw _ w_456) (fun _ h9 => h9) rfl dM_isCovered_309 ?_
              refine lv_iload hx hb dM_isCovered_312 (lv_at hl 7 rfl) ?_
              obtain ⟨u42, hu42, h⟩ := ob_some h
              obtain ⟨hiu42, eu42⟩ := ld_of hu42
              refine va_lald hx hb hK hPm 10 0 rfl rfl hiu42 dM_isCovered_314 ?_
              rw [eu42]
              refine lv_aload_n hx hb dM_isCovered_315 rfl (lv_at hl 1 rfl) ?_
              refine va_get (D := (dC, dI)) (ci := 2) (v := .ref (qm 11)) (C := R_M) (T := T_M) (N := 15) hx hb hw in_M hown hK hPm 0 rfl rfl 12 (by decide) (hw _ w_457) (fun _ h9 => h9) rfl dM_isCovered_316 ?_
              refine lv_iload hx hb dM_isCovered_319 (lv_at hl 7 rfl) ?_
              obtain ⟨u43, hu43, h⟩ := ob_some h
              obtain ⟨hiu43, eu43⟩ := ld_of hu43
              refine va_lald hx hb hK hPm 11 0 rfl rfl hiu43 dM_isCovered_321 ?_
              rw [eu43]
              refine lv_lload hx hb dM_isCovered_322 (lv_at hl 5 rfl) ?_
              refine lv_lload hx hb dM_isCovered_324 (lv_at hl 6 rfl) ?_
              obtain ⟨u44, hu44, h⟩ := ob_some h
              refine vp_callSi (va_Run.run (va_runV (As := [.int p1, .long u42, .long u43, .long p5, .long p7]) (rest := []) ⟨hx, hb, hml, hown, hw⟩ (k_M_isAhead l dC dI cL cI qm v p1 u42 u43 p5 p7 u44 hu44) (cwV 5 hw (gV w_681 w_683 wp_31 w_2 w_684) rfl rfl rfl (by decide +kernel) ⟨Nat.le_of_ble_eq_true rfl, Nat.le_of_ble_eq_true rfl⟩) ⟨rd_blind, va_recv hK hPm (ci := 2) (q0 := 0) rfl rfl, rd_pre hPm hK⟩ rfl rfl hl.1 rfl (lv_room (Nat.le_of_ble_eq_true rfl)) dM_isCovered_326 ⟨Nat.le_of_ble_eq_true rfl, Nat.le_of_ble_eq_true rfl⟩)) (fun z hz => ?_)
              rw [hz]; clear hz
              refine lv_if_eq (tgt := 336) hx hb dM_isCovered_329 (by decide) (fun c45 => ?_) (fun c45 => ?_)
              · have h := it_t c45 h
                exact k336 p1 p3 p4 p5 p7 p10 s0 h ls (lv_sub hl [1, 2, 3, 4, 5, 6, 7, 0] rfl)
              · have h := it_f c45 h
                refine lv_iconst (v := 1) hx hb dM_isCovered_332 (by decide) ?_
                refine lv_goto (tgt := 337) hx hb dM_isCovered_333 (by decide) ?_
                exact k337 p1 p3 p4 p5 p7 p10 s0 (1 : Int32) h ls (lv_sub hl [1, 2, 3, 4, 5, 6, 7, 0] rfl)
          have k298 : ∀ (p1 : Int32) (p3 : Int32) (p4 : Int32) (p5 : Int64) (p7 : Int64) (p10 : Int32) (p11 : Int32), f_M_isCovered_j298 v (f_M_isCovered_l146 v n146) (f_M_isCovered_l181 v (f_M_isCovered_l146 v n146) n181) p1 p3 p4 p5 p7 p10 p11 = some r →  ∀ (ls : Array Slot), lv_has ls 14 [(0, .ref (qm 0)), (1, .int p1), (3, .int p3), (4, .int p4), (5, .long p5), (7, .long p7), (10, .int p10), (11, .int p11)] → W p l e (headSpec wsM_isCovered ({ frames := 3, cells := 0, slots := 0, locals := 89 })).room s m ([.ref (qm 0), .int x1, .int x2] : List Value).toArray below meth c s.heap [] 0 0 (MQ below (vp_Si (fun z => z = r)) ([.ref (qm 0), .int x1, .int x2] : List Value).toArray s 0 0 (fun _ => False)) (F0 m 298 ls []) := by
            intro p1 p3 p4 p5 p7 p10 p11 h  ls hl
            unfold f_M_isCovered_j298 at h
            refine lv_iconst (v := 0) hx hb dM_isCovered_298 (by decide) ?_
            exact k299 p1 p3 p4 p5 p7 p10 p11 (0 : Int32) h ls (lv_sub hl [0, 1, 2, 3, 4, 5, 6, 7] rfl)
          have k261 : ∀ (p1 : Int32) (p3 : Int32) (p4 : Int32) (p5 : Int64) (p7 : Int64) (p10 : Int32) (s0 : Int32), f_M_isCovered_j261 v (f_M_isCovered_l146 v n146) (f_M_isCovered_l181 v (f_M_isCovered_l146 v n146) n181) p1 p3 p4 p5 p7 p10 s0 = some r →  ∀ (ls : Array Slot), lv_has ls 14 [(0, .ref (qm 0)), (1, .int p1), (3, .int p3), (4, .int p4), (5, .long p5), (7, .long p7), (10, .int p10)] → W p l e (headSpec wsM_isCovered ({ frames := 3, cells := 0, slots := 0, locals := 89 })).room s m ([.ref (qm 0), .int x1, .int x2] : List Value).toArray below meth c s.heap [] 0 0 (MQ below (vp_Si (fun z => z = r)) ([.ref (qm 0), .int x1, .int x2] : List Value).toArray s 0 0 (fun _ => False)) (F0 m 261 ls [.int s0]) := by
            intro p1 p3 p4 p5 p7 p10 s0 h  ls hl
            unfold f_M_isCovered_j261 at h
            refine lv_istore (lv' := [(11, .int s0), (0, .ref (qm 0)), (1, .int p1), (3, .int p3), (4, .int p4), (5, .long p5), (7, .long p7), (10, .int p10)]) hx hb dM_isCovered_261 hl (by decide) rfl (fun ls hl => ?_)
            refine lv_iload hx hb dM_isCovered_263 (lv_at hl 0 rfl) ?_
            refine lv_if_eq (tgt := 298) hx hb dM_isCovered_265 (by decide) (fun c36 => ?_) (fun c36 => ?_)
            · have h := it_t c36 h
              exact k298 p1 p3 p4 p5 p7 p10 s0 h ls (lv_sub hl [1, 2, 3, 4, 5, 6, 7, 0] rfl)
            · have h := it_f c36 h
              refine lv_aload_n hx hb dM_isCovered_268 rfl (lv_at hl 1 rfl) ?_
              refine lv_iload_n hx hb dM_isCovered_269 rfl (lv_at hl 2 rfl) ?_
              refine lv_aload_n hx hb dM_isCovered_270 rfl (lv_at hl 1 rfl) ?_
              refine va_get (D := (dC, dI)) (ci := 2) (v := .ref (qm 8)) (C := R_M) (T := T_M) (N := 15) hx hb hw in_M hown hK hPm 0 rfl rfl 9 (by decide) (hw _ w_454) (fun _ h9 => h9) rfl dM_isCovered_271 ?_
              refine lv_iload hx hb dM_isCovered_274 (lv_at hl 7 rfl) ?_
              obtain ⟨u37, hu37, h⟩ := ob_some h
              obtain ⟨hiu37, eu37⟩ := ld_of hu37
              refine va_lald hx hb hK hPm 8 0 rfl rfl hiu37 dM_isCovered_276 ?_
              rw [eu37]
              refine lv_aload_n hx hb dM_isCovered_277 rfl (lv_at hl 1 rfl) ?_
              refine va_get (D := (dC, dI)) (ci := 2) (v := .ref (qm 9)) (C := R_M) (T := T_M) (N := 15) hx hb hw in_M hown hK hPm 0 rfl rfl 10 (by decide) (hw _ w_455) (fun _ h9 => h9) rfl dM_isCovered_278 ?_
              refine lv_iload hx hb dM_isCovered_281 (lv_at hl 7 rfl) ?_
              obtain ⟨u38, hu38, h⟩ := ob_some h
              obtain ⟨hiu38, eu38⟩ := ld_of hu38
              refine va_lald hx hb hK hPm 9 0 rfl rfl hiu38 dM_isCovered_283 ?_
              rw [eu38]
              refine lv_lload hx hb dM_isCovered_284 (lv_at hl 5 rfl) ?_
              refine lv_lload hx hb dM_isCovered_286 (lv_at hl 6 rfl) ?_
              obtain ⟨u39, hu39, h⟩ := ob_some h
              refine vp_callSi (va_Run.run (va_runV (As := [.int p1, .long u37, .long u38, .long p5, .long p7]) (rest := []) ⟨hx, hb, hml, hown, hw⟩ (k_M_isAhead l dC dI cL cI qm v p1 u37 u38 p5 p7 u39 hu39) (cwV 5 hw (gV w_681 w_683 wp_31 w_2 w_684) rfl rfl rfl (by decide +kernel) ⟨Nat.le_of_ble_eq_true rfl, Nat.le_of_ble_eq_true rfl⟩) ⟨rd_blind, va_recv hK hPm (ci := 2) (q0 := 0) rfl rfl, rd_pre hPm hK⟩ rfl rfl hl.1 rfl (lv_room (Nat.le_of_ble_eq_true rfl)) dM_isCovered_288 ⟨Nat.le_of_ble_eq_true rfl, Nat.le_of_ble_eq_true rfl⟩)) (fun z hz => ?_)
              rw [hz]; clear hz
              refine lv_if_eq (tgt := 298) hx hb dM_isCovered_291 (by decide) (fun c40 => ?_) (fun c40 => ?_)
              · have h := it_t c40 h
                exact k298 p1 p3 p4 p5 p7 p10 s0 h ls (lv_sub hl [1, 2, 3, 4, 5, 6, 7, 0] rfl)
              · have h := it_f c40 h
                refine lv_iconst (v := 1) hx hb dM_isCovered_294 (by decide) ?_
                refine lv_goto (tgt := 299) hx hb dM_isCovered_295 (by decide) ?_
                exact k299 p1 p3 p4 p5 p7 p10 s0 (1 : Int32) h ls (lv_sub hl [1, 2, 3, 4, 5, 6, 7, 0] rfl)
          have k260 : ∀ (p1 : Int32) (p3 : Int32) (p4 : Int32) (p5 : Int64) (p7 : Int64) (p10 : Int32), f_M_isCovered_j260 v (f_M_isCovered_l146 v n146) (f_M_isCovered_l181 v (f_M_isCovered_l146 v n146) n181) p1 p3 p4 p5 p7 p10 = some r →  ∀ (ls : Array Slot), lv_has ls 14 [(0, .ref (qm 0)), (1, .int p1), (3, .int p3), (4, .int p4), (5, .long p5), (7, .long p7), (10, .int p10)] → W p l e (headSpec wsM_isCovered ({ frames := 3, cells := 0, slots := 0, locals := 89 })).room s m ([.ref (qm 0), .int x1, .int x2] : List Value).toArray below meth c s.heap [] 0 0 (MQ below (vp_Si (fun z => z = r)) ([.ref (qm 0), .int x1, .int x2] : List Value).toArray s 0 0 (fun _ => False)) (F0 m 260 ls []) := by
            intro p1 p3 p4 p5 p7 p10 h  ls hl
            unfold f_M_isCovered_j260 at h
            refine lv_iconst (v := 0) hx hb dM_isCovered_260 (by decide) ?_
            exact k261 p1 p3 p4 p5 p7 p10 (0 : Int32) h ls (lv_sub hl [0, 1, 2, 3, 4, 5, 6] rfl)
          intro p1 p3 p4 p5 p7 p9 p10 h  ls hl
          rw [f_M_isCovered_l181] at h
          refine lv_iload hx hb dM_isCovered_181 (lv_at hl 7 rfl) ?_
          refine lv_iload hx hb dM_isCovered_183 (lv_at hl 3 rfl) ?_
          refine lv_icmp_ge (tgt := 415) hx hb dM_isCovered_185 (by decide) (fun c26 => ?_) (fun c26 => ?_)
          · have h := it_t c26 h
            exact k415 p1 p3 p4 p5 p7 p9 h ls (lv_sub hl [0, 1, 2, 3, 4, 5, 6] rfl)
          · have h := it_f c26 h
            refine lv_iload hx hb dM_isCovered_188 (lv_at hl 6 rfl) ?_
            refine lv_if_ne (tgt := 415) hx hb dM_isCovered_190 (by decide) (fun c27 => ?_) (fun c27 => ?_)
            · have h := it_f c27 h
              exact k415 p1 p3 p4 p5 p7 p9 h ls (lv_sub hl [0, 1, 2, 3, 4, 5, 6] rfl)
            · have h := it_t c27 h
              refine lv_iload_n hx hb dM_isCovered_193 rfl (lv_at hl 1 rfl) ?_
              refine lv_iload hx hb dM_isCovered_194 (lv_at hl 7 rfl) ?_
              refine lv_aload_n hx hb dM_isCovered_196 rfl (lv_at hl 0 rfl) ?_
              refine va_get (D := (dC, dI)) (ci := 2) (v := .ref (qm 8)) (C := R_M) (T := T_M) (N := 15) hx hb hw in_M hown hK hPm 0 rfl rfl 9 (by decide) (hw _ w_454) (fun _ h9 => h9) rfl dM_isCovered_197 ?_
              refine lv_aload_n hx hb dM_isCovered_200 rfl (lv_at hl 0 rfl) ?_
              refine va_get (D := (dC, dI)) (ci := 2) (v := .ref (qm 9)) (C := R_M) (T := T_M) (N := 15) hx hb hw in_M hown hK hPm 0 rfl rfl 10 (by decide) (hw _ w_455) (fun _ h9 => h9) rfl dM_isCovered_201 ?_
              refine lv_aload_n hx hb dM_isCovered_204 rfl (lv_at hl 0 rfl) ?_
              refine va_get (D := (dC, dI)) (ci := 2) (v := .ref (qm 10)) (C := R_M) (T := T_M) (N := 15) hx hb hw in_M hown hK hPm 0 rfl rfl 11 (by decide) (hw _ w_456) (fun _ h9 => h9) rfl dM_isCovered_205 ?_
              refine lv_aload_n hx hb dM_isCovered_208 rfl (lv_at hl 0 rfl) ?_
              refine va_get (D := (dC, dI)) (ci := 2) (v := .ref (qm 11)) (C := R_M) (T := T_M) (N := 15) hx hb hw in_M hown hK hPm 0 rfl rfl 12 (by decide) (hw _ w_457) (fun _ h9 => h9) rfl dM_isCovered_209 ?_
              obtain ⟨u28, hu28, h⟩ := ob_some h
              refine vp_callSi (va_Run.run (va_runS (As := [.int p1, .int p10, .ref (qm 8), .ref (qm 9), .ref (qm 10), .ref (qm 11)]) (rest := []) ⟨hx, hb, hml, hown, hw⟩ (k_M_isLine l dC dI cL cI (qm 8) (md_ax v) (qm 9) (md_ay v) (qm 10) (md_bx v) (qm 11) (md_by v) p1 p10 u28 hu28) (va_cwS 6 hw (gS w_685 w_686 w_2 w_687) rfl rfl rfl (by decide +kernel) ⟨Nat.le_of_ble_eq_true rfl, Nat.le_of_ble_eq_true rfl⟩) ⟨rd_blind, rd_pre ⟨(hPm.sub [8] rfl), (hPm.sub [9] rfl), (hPm.sub [10] rfl), (hPm.sub [11] rfl)⟩ hK⟩ rfl rfl hl.1 rfl (lv_room (Nat.le_of_ble_eq_true rfl)) dM_isCovered_212 ⟨Nat.le_of_ble_eq_true rfl, Nat.le_of_ble_eq_true rfl⟩)) (fun z hz => ?_)
              rw [hz]; clear hz
              refine lv_if_eq (tgt := 260) hx hb dM_isCovered_215 (by decide) (fun c29 => ?_) (fun c29 => ?_)
              · have h := it_t c29 h
                exact k260 p1 p3 p4 p5 p7 p10 h ls (lv_sub hl [0, 1, 2, 3, 4, 5, 7] rfl)
              · have h := it_f c29 h
                refine lv_lload hx hb dM_isCovered_218 (lv_at hl 4 rfl) ?_
                refine lv_lload hx hb dM_isCovered_220 (lv_at hl 5 rfl) ?_
                refine lv_aload_n hx hb dM_isCovered_222 rfl (lv_at hl 0 rfl) ?_
                refine va_get (D := (dC, dI)) (ci := 2) (v := .ref (qm 8)) (C := R_M) (T := T_M) (N := 15) hx hb hw in_M hown hK hPm 0 rfl rfl 9 (by decide) (hw _ w_454) (fun _ h9 => h9) rfl dM_isCovered_223 ?_
                refine lv_iload hx hb dM_isCovered_226 (lv_at hl 7 rfl) ?_
                obtain ⟨u30, hu30, h⟩ := ob_some h
                obtain ⟨hiu30, eu30⟩ := ld_of hu30
                refine va_lald hx hb hK hPm 8 0 rfl rfl hiu30 dM_isCovered_228 ?_
                rw [eu30]
                refine lv_aload_n hx hb dM_isCovered_229 rfl (lv_at hl 0 rfl) ?_
                refine va_get (D := (dC, dI)) (ci := 2) (v := .ref (qm 9)) (C := R_M) (T := T_M) (N := 15) hx hb hw in_M hown hK hPm 0 rfl rfl 10 (by decide) (hw _ w_455) (fun _ h9 => h9) rfl dM_isCovered_230 ?_
                refine lv_iload hx hb dM_isCovered_233 (lv_at hl 7 rfl) ?_
                obtain ⟨u31, hu31, h⟩ := ob_some h
                obtain ⟨hiu31, eu31⟩ := ld_of hu31
                refine va_lald hx hb hK hPm 9 0 rfl rfl hiu31 dM_isCovered_235 ?_
                rw [eu31]
                refine lv_aload_n hx hb dM_isCovered_236 rfl (lv_at hl 0 rfl) ?_
                refine va_get (D := (dC, dI)) (ci := 2) (v := .ref (qm 10)) (C := R_M) (T := T_M) (N := 15) hx hb hw in_M hown hK hPm 0 rfl rfl 11 (by decide) (hw _ w_456) (fun _ h9 => h9) rfl dM_isCovered_237 ?_
                refine lv_iload hx hb dM_isCovered_240 (lv_at hl 7 rfl) ?_
                obtain ⟨u32, hu32, h⟩ := ob_some h
                obtain ⟨hiu32, eu32⟩ := ld_of hu32
                refine va_lald hx hb hK hPm 10 0 rfl rfl hiu32 dM_isCovered_242 ?_
                rw [eu32]
                refine lv_aload_n hx hb dM_isCovered_243 rfl (lv_at hl 0 rfl) ?_
                refine va_get (D := (dC, dI)) (ci := 2) (v := .ref (qm 11)) (C := R_M) (T := T_M) (N := 15) hx hb hw in_M hown hK hPm 0 rfl rfl 12 (by decide) (hw _ w_457) (fun _ h9 => h9) rfl dM_isCovered_244 ?_
                refine lv_iload hx hb dM_isCovered_247 (lv_at hl 7 rfl) ?_
                obtain ⟨u33, hu33, h⟩ := ob_some h
                obtain ⟨hiu33, eu33⟩ := ld_of hu33
                refine va_lald hx hb hK hPm 11 0 rfl rfl hiu33 dM_isCovered_249 ?_
                rw [eu33]
                obtain ⟨u34, hu34, h⟩ := ob_some h
                refine vp_callSi (va_Run.run (va_runS (As := [.long p5, .long p7, .long u30, .long u31, .long u32, .long u33]) (rest := []) ⟨hx, hb, hml, hown, hw⟩ (k_M_isOn l dC dI cL cI p5 p7 u30 u31 u32 u33 u34 hu34) (va_cwS 6 hw (gS w_578 w_579 w_2 w_580) rfl rfl rfl (by decide +kernel) ⟨Nat.le_of_ble_eq_true rfl, Nat.le_of_ble_eq_true rfl⟩) ⟨rd_blind, rd_pre trivial hK⟩ rfl rfl hl.1 rfl (lv_room (Nat.le_of_ble_eq_true rfl)) dM_isCovered_250 ⟨Nat.le_of_ble_eq_true rfl, Nat.le_of_ble_eq_true rfl⟩)) (fun z hz => ?_)
                rw [hz]; clear hz
                refine lv_if_eq (tgt := 260) hx hb dM_isCovered_253 (by decide) (fun c35 => ?_) (fun c35 => ?_)
                · have h := it_t c35 h
                  exact k260 p1 p3 p4 p5 p7 p10 h ls (lv_sub hl [0, 1, 2, 3, 4, 5, 7] rfl)
                · have h := it_f c35 h
                  refine lv_iconst (v := 1) hx hb dM_isCovered_256 (by decide) ?_
                  refine lv_goto (tgt := 261) hx hb dM_isCovered_257 (by decide) ?_
                  exact k261 p1 p3 p4 p5 p7 p10 (1 : Int32) h ls (lv_sub hl [0, 1, 2, 3, 4, 5, 7] rfl)
      intro p1 p3 p4 p5 p7 p9 h  ls hl
      rw [f_M_isCovered_l146] at h
      refine lv_iload hx hb dM_isCovered_146 (lv_at hl 6 rfl) ?_
      refine lv_if_eq (tgt := 418) hx hb dM_isCovered_148 (by decide) (fun c21 => ?_) (fun c21 => ?_)
      · have h := it_t c21 h
        exact k418 p9 h ls (lv_sub hl [6] rfl)
      · have h := it_f c21 h
        refine lv_aload_n hx hb dM_isCovered_151 rfl (lv_at hl 0 rfl) ?_
        refine lv_iload_n hx hb dM_isCovered_152 rfl (lv_at hl 1 rfl) ?_
        refine lv_aload_n hx hb dM_isCovered_153 rfl (lv_at hl 0 rfl) ?_
        refine va_get (D := (dC, dI)) (ci := 2) (v := .ref (qm 10)) (C := R_M) (T := T_M) (N := 15) hx hb hw in_M hown hK hPm 0 rfl rfl 11 (by decide) (hw _ w_456) (fun _ h9 => h9) rfl dM_isCovered_154 ?_
        refine lv_iload_n hx hb dM_isCovered_157 rfl (lv_at hl 1 rfl) ?_
        obtain ⟨u22, hu22, h⟩ := ob_some h
        obtain ⟨hiu22, eu22⟩ := ld_of hu22
        refine va_lald hx hb hK hPm 10 0 rfl rfl hiu22 dM_isCovered_158 ?_
        rw [eu22]
        refine lv_aload_n hx hb dM_isCovered_159 rfl (lv_at hl 0 rfl) ?_
        refine va_get (D := (dC, dI)) (ci := 2) (v := .ref (qm 11)) (C := R_M) (T := T_M) (N := 15) hx hb hw in_M hown hK hPm 0 rfl rfl 12 (by decide) (hw _ w_457) (fun _ h9 => h9) rfl dM_isCovered_160 ?_
        refine lv_iload_n hx hb dM_isCovered_163 rfl (lv_at hl 1 rfl) ?_
        obtain ⟨u23, hu23, h⟩ := ob_some h
        obtain ⟨hiu23, eu23⟩ := ld_of hu23
        refine va_lald hx hb hK hPm 11 0 rfl rfl hiu23 dM_isCovered_164 ?_
        rw [eu23]
        refine lv_lload hx hb dM_isCovered_165 (lv_at hl 4 rfl) ?_
        refine lv_lload hx hb dM_isCovered_167 (lv_at hl 5 rfl) ?_
        obtain ⟨u24, hu24, h⟩ := ob_some h
        refine vp_callSi (va_Run.run (va_runV (As := [.int p1, .long u22, .long u23, .long p5, .long p7]) (rest := []) ⟨hx, hb, hml, hown, hw⟩ (k_M_isAhead l dC dI cL cI qm v p1 u22 u23 p5 p7 u24 hu24) (cwV 5 hw (gV w_681 w_683 wp_31 w_2 w_684) rfl rfl rfl (by decide +kernel) ⟨Nat.le_of_ble_eq_true rfl, Nat.le_of_ble_eq_true rfl⟩) ⟨rd_blind, va_recv hK hPm (ci := 2) (q0 := 0) rfl rfl, rd_pre hPm hK⟩ rfl rfl hl.1 rfl (lv_room (Nat.le_of_ble_eq_true rfl)) dM_isCovered_169 ⟨Nat.le_of_ble_eq_true rfl, Nat.le_of_ble_eq_true rfl⟩)) (fun z hz => ?_)
        rw [hz]; clear hz
        refine lv_if_eq (tgt := 418) hx hb dM_isCovered_172 (by decide) (fun c25 => ?_) (fun c25 => ?_)
        · have h := it_t c25 h
          exact k418 p9 h ls (lv_sub hl [6] rfl)
        · have h := it_f c25 h
          refine lv_iconst (v := 0) hx hb dM_isCovered_175 (by decide) ?_
          refine lv_istore (lv' := [(9, .int (0 : Int32)), (0, .ref (qm 0)), (1, .int p1), (3, .int p3), (4, .int p4), (5, .long p5), (7, .long p7)]) hx hb dM_isCovered_176 hl (by decide) rfl (fun ls hl => ?_)
          refine lv_iload_n hx hb dM_isCovered_178 rfl (lv_at hl 3 rfl) ?_
          refine lv_istore (lv' := [(10, .int p3), (9, .int (0 : Int32)), (0, .ref (qm 0)), (1, .int p1), (3, .int p3), (4, .int p4), (5, .long p5), (7, .long p7)]) hx hb dM_isCovered_179 hl (by decide) rfl (fun ls hl => ?_)
          exact k181 64 p1 p3 p4 p5 p7 (0 : Int32) p3 h ls (lv_sub hl [2, 3, 4, 5, 6, 7, 1, 0] rfl)
  have k127 : ∀ (p1 : Int32) (p3 : Int32) (p4 : Int32), f_M_isCovered_j127 v p1 p3 p4 = some r →  ∀ (ls : Array Slot), lv_has ls 14 [(0, .ref (qm 0)), (1, .int p1), (3, .int p3), (4, .int p4)] → W p l e (headSpec wsM_isCovered ({ frames := 3, cells := 0, slots := 0, locals := 89 })).room s m ([.ref (qm 0), .int x1, .int x2] : List Value).toArray below meth c s.heap [] 0 0 (MQ below (vp_Si (fun z => z = r)) ([.ref (qm 0), .int x1, .int x2] : List Value).toArray s 0 0 (fun _ => False)) (F0 m 127 ls []) := by
    intro p1 p3 p4 h  ls hl
    unfold f_M_isCovered_j127 at h
    refine lv_aload_n hx hb dM_isCovered_127 rfl (lv_at hl 0 rfl) ?_
    refine va_get (D := (dC, dI)) (ci := 2) (v := .ref (qm 8)) (C := R_M) (T := T_M) (N := 15) hx hb hw in_M hown hK hPm 0 rfl rfl 9 (by decide) (hw _ w_454) (fun _ h9 => h9) rfl dM_isCovered_128 ?_
    refine lv_iload_n hx hb dM_isCovered_131 rfl (lv_at hl 1 rfl) ?_
    obtain ⟨u9, hu9, h⟩ := ob_some h
    obtain ⟨hiu9, eu9⟩ := ld_of hu9
    refine va_lald hx hb hK hPm 8 0 rfl rfl hiu9 dM_isCovered_132 ?_
    rw [eu9]
    refine lv_lstore (lv' := [(5, .long u9), (0, .ref (qm 0)), (1, .int p1), (3, .int p3), (4, .int p4)]) hx hb dM_isCovered_133 hl (by decide) rfl (fun ls hl => ?_)
    refine lv_aload_n hx hb dM_isCovered_135 rfl (lv_at hl 1 rfl) ?_
    refine va_get (D := (dC, dI)) (ci := 2) (v := .ref (qm 9)) (C := R_M) (T := T_M) (N := 15) hx hb hw in_M hown hK hPm 0 rfl rfl 10 (by decide) (hw _ w_455) (fun _ h9 => h9) rfl dM_isCovered_136 ?_
    refine lv_iload_n hx hb dM_isCovered_139 rfl (lv_at hl 2 rfl) ?_
    obtain ⟨u10, hu10, h⟩ := ob_some h
    obtain ⟨hiu10, eu10⟩ := ld_of hu10
    refine va_lald hx hb hK hPm 9 0 rfl rfl hiu10 dM_isCovered_140 ?_
    rw [eu10]
    refine lv_lstore (lv' := [(7, .long u10), (5, .long u9), (0, .ref (qm 0)), (1, .int p1), (3, .int p3), (4, .int p4)]) hx hb dM_isCovered_141 hl (by decide) rfl (fun ls hl => ?_)
    refine lv_iconst (v := 1) hx hb dM_isCovered_143 (by decide) ?_
    refine lv_istore (lv' := [(9, .int (1 : Int32)), (7, .long u10), (5, .long u9), (0, .ref (qm 0)), (1, .int p1), (3, .int p3), (4, .int p4)]) hx hb dM_isCovered_144 hl (by decide) rfl (fun ls hl => ?_)
    exact k146 3000000000 p1 p3 p4 u9 u10 (1 : Int32) h ls (lv_sub hl [3, 4, 5, 6, 2, 1, 0] rfl)
  have k53 : ∀ (n53 : Nat), ∀ (p1 : Int32) (p4 : Int32) (p5 : Int32) (p6 : Int32), f_M_isCovered_l53 v n53 p1 p4 p5 p6 = some r →  ∀ (ls : Array Slot), lv_has ls 14 [(0, .ref (qm 0)), (1, .int p1), (4, .int p4), (5, .int p5), (6, .int p6)] → W p l e (headSpec wsM_isCovered ({ frames := 3, cells := 0, slots := 0, locals := 89 })).room s m ([.ref (qm 0), .int x1, .int x2] : List Value).toArray below meth c s.heap [] 0 0 (MQ below (vp_Si (fun z => z = r)) ([.ref (qm 0), .int x1, .int x2] : List Value).toArray s 0 0 (fun _ => False)) (F0 m 53 ls []) := by
    intro n53
    induction n53 with
    | zero => intro p1 p4 p5 p6 h; exact absurd h (by simp [f_M_isCovered_l53])
    | succ n53 ih53 =>
      have k116 : ∀ (p1 : Int32) (p4 : Int32) (p6 : Int32) (s0 : Int32), f_M_isCovered_j116 v (f_M_isCovered_l53 v n53) p1 p4 p6 s0 = some r →  ∀ (ls : Array Slot), lv_has ls 14 [(0, .ref (qm 0)), (1, .int p1), (4, .int p4), (6, .int p6)] → W p l e (headSpec wsM_isCovered ({ frames := 3, cells := 0, slots := 0, locals := 89 })).room s m ([.ref (qm 0), .int x1, .int x2] : List Value).toArray below meth c s.heap [] 0 0 (MQ below (vp_Si (fun z => z = r)) ([.ref (qm 0), .int x1, .int x2] : List Value).toArray s 0 0 (fun _ => False)) (F0 m 116 ls [.int s0]) := by
        intro p1 p4 p6 s0 h  ls hl
        unfold f_M_isCovered_j116 at h
        refine lv_istore (lv' := [(5, .int s0), (0, .ref (qm 0)), (1, .int p1), (4, .int p4), (6, .int p6)]) hx hb dM_isCovered_116 hl (by decide) rfl (fun ls hl => ?_)
        refine lv_iinc (v := p6 + 1) (lv' := [(6, .int (p6 + 1)), (5, .int s0), (0, .ref (qm 0)), (1, .int p1), (4, .int p4)]) hx hb dM_isCovered_118 hl (k := 4) rfl rfl (by decide) rfl (fun ls hl => ?_)
        refine lv_goto (tgt := 53) hx hb dM_isCovered_121 (by decide) ?_
        exact ih53 p1 p4 s0 (p6 + 1) h ls (lv_sub hl [2, 3, 4, 1, 0] rfl)
      have k111 : ∀ (p1 : Int32) (p4 : Int32) (p6 : Int32), f_M_isCovered_j111 v (f_M_isCovered_l53 v n53) p1 p4 p6 = some r →  ∀ (ls : Array Slot), lv_has ls 14 [(0, .ref (qm 0)), (1, .int p1), (4, .int p4), (6, .int p6)] → W p l e (headSpec wsM_isCovered ({ frames := 3, cells := 0, slots := 0, locals := 89 })).room s m ([.ref (qm 0), .int x1, .int x2] : List Value).toArray below meth c s.heap [] 0 0 (MQ below (vp_Si (fun z => z = r)) ([.ref (qm 0), .int x1, .int x2] : List Value).toArray s 0 0 (fun _ => False)) (F0 m 111 ls []) := by
        intro p1 p4 p6 h  ls hl
        unfold f_M_isCovered_j111 at h
        refine lv_iconst (v := 1) hx hb dM_isCovered_111 (by decide) ?_
        refine lv_goto (tgt := 116) hx hb dM_isCovered_112 (by decide) ?_
        exact k116 p1 p4 p6 (1 : Int32) h ls (lv_sub hl [0, 1, 2, 3] rfl)
      intro p1 p4 p5 p6 h  ls hl
      rw [f_M_isCovered_l53] at h
      refine lv_iload hx hb dM_isCovered_53 (lv_at hl 4 rfl) ?_
      refine lv_iload hx hb dM_isCovered_55 (lv_at hl 2 rfl) ?_
      refine lv_icmp_ge (tgt := 124) hx hb dM_isCovered_57 (by decide) (fun c11 => ?_) (fun c11 => ?_)
      · have h := it_t c11 h
        refine lv_iload hx hb dM_isCovered_124 (lv_at hl 3 rfl) ?_
        obtain ⟨hz, hr9⟩ := rb_of h
        exact W.zret hx hb hr hz (fun t ht hW => ⟨_, rfl, hr9, ht⟩) nil_locs dM_isCovered_126
      · have h := it_f c11 h
        refine lv_iload hx hb dM_isCovered_60 (lv_at hl 3 rfl) ?_
        refine lv_if_ne (tgt := 111) hx hb dM_isCovered_62 (by decide) (fun c12 => ?_) (fun c12 => ?_)
        · have h := it_f c12 h
          exact k111 p1 p4 p6 h ls (lv_sub hl [0, 1, 2, 4] rfl)
        · have h := it_t c12 h
          refine lv_aload_n hx hb dM_isCovered_65 rfl (lv_at hl 0 rfl) ?_
          refine va_get (D := (dC, dI)) (ci := 2) (v := .ref (qm 8)) (C := R_M) (T := T_M) (N := 15) hx hb hw in_M hown hK hPm 0 rfl rfl 9 (by decide) (hw _ w_454) (fun _ h9 => h9) rfl dM_isCovered_66 ?_
          refine lv_iload_n hx hb dM_isCovered_69 rfl (lv_at hl 1 rfl) ?_
          obtain ⟨u13, hu13, h⟩ := ob_some h
          obtain ⟨hiu13, eu13⟩ := ld_of hu13
          refine va_lald hx hb hK hPm 8 0 rfl rfl hiu13 dM_isCovered_70 ?_
          rw [eu13]
          refine lv_aload_n hx hb dM_isCovered_71 rfl (lv_at hl 0 rfl) ?_
          refine va_get (D := (dC, dI)) (ci := 2) (v := .ref (qm 9)) (C := R_M) (T := T_M) (N := 15) hx hb hw in_M hown hK hPm 0 rfl rfl 10 (by decide) (hw _ w_455) (fun _ h9 => h9) rfl dM_isCovered_72 ?_
          refine lv_iload_n hx hb dM_isCovered_75 rfl (lv_at hl 1 rfl) ?_
          obtain ⟨u14, hu14, h⟩ := ob_some h
          obtain ⟨hiu14, eu14⟩ := ld_of hu14
          refine va_lald hx hb hK hPm 9 0 rfl rfl hiu14 dM_isCovered_76 ?_
          rw [eu14]
          refine lv_aload_n hx hb dM_isCovered_77 rfl (lv_at hl 0 rfl) ?_
          refine va_get (D := (dC, dI)) (ci := 2) (v := .ref (qm 8)) (C := R_M) (T := T_M) (N := 15) hx hb hw in_M hown hK hPm 0 rfl rfl 9 (by decide) (hw _ w_454) (fun _ h9 => h9) rfl dM_isCovered_78 ?_
          refine lv_iload hx hb dM_isCovered_81 (lv_at hl 4 rfl) ?_
          obtain ⟨u15, hu15, h⟩ := ob_some h
          obtain ⟨hiu15, eu15⟩ := ld_of hu15
          refine va_lald hx hb hK hPm 8 0 rfl rfl hiu15 dM_isCovered_83 ?_
          rw [eu15]
          refine lv_aload_n hx hb dM_isCovered_84 rfl (lv_at hl 0 rfl) ?_
          refine va_get (D := (dC, dI)) (ci := 2) (v := .ref (qm 9)) (C := R_M) (T := T_M) (N := 15) hx hb hw in_M hown hK hPm 0 rfl rfl 10 (by decide) (hw _ w_455) (fun _ h9 => h9) rfl dM_isCovered_85 ?_
          refine lv_iload hx hb dM_isCovered_88 (lv_at hl 4 rfl) ?_
          obtain ⟨u16, hu16, h⟩ := ob_some h
          obtain ⟨hiu16, eu16⟩ := ld_of hu16
          refine va_lald hx hb hK hPm 9 0 rfl rfl hiu16 dM_isCovered_90 ?_
          rw [eu16]
          refine lv_aload_n hx hb dM_isCovered_91 rfl (lv_at hl 0 rfl) ?_
          refine va_get (D := (dC, dI)) (ci := 2) (v := .ref (qm 10)) (C := R_M) (T := T_M) (N := 15) hx hb hw in_M hown hK hPm 0 rfl rfl 11 (by decide) (hw _ w_456) (fun _ h9 => h9) rfl dM_isCovered_92 ?_
          refine lv_iload hx hb dM_isCovered_95 (lv_at hl 4 rfl) ?_
          obtain ⟨u17, hu17, h⟩ := ob_some h
          obtain ⟨hiu17, eu17⟩ := ld_of hu17
          refine va_lald hx hb hK hPm 10 0 rfl rfl hiu17 dM_isCovered_97 ?_
          rw [eu17]
          refine lv_aload_n hx hb dM_isCovered_98 rfl (lv_at hl 0 rfl) ?_
          refine va_get (D := (dC, dI)) (ci := 2) (v := .ref (qm 11)) (C := R_M) (T := T_M) (N := 15) hx hb hw in_M hown hK hPm 0 rfl rfl 12 (by decide) (hw _ w_457) (fun _ h9 => h9) rfl dM_isCovered_99 ?_
          refine lv_iload hx hb dM_isCovered_102 (lv_at hl 4 rfl) ?_
          obtain ⟨u18, hu18, h⟩ := ob_some h
          obtain ⟨hiu18, eu18⟩ := ld_of hu18
          refine va_lald hx hb hK hPm 11 0 rfl rfl hiu18 dM_isCovered_104 ?_
          rw [eu18]
          obtain ⟨u19, hu19, h⟩ := ob_some h
          refine vp_callSi (va_Run.run (va_runS (As := [.long u13, .long u14, .long u15, .long u16, .long u17, .long u18]) (rest := []) ⟨hx, hb, hml, hown, hw⟩ (k_M_isOn l dC dI cL cI u13 u14 u15 u16 u17 u18 u19 hu19) (va_cwS 6 hw (gS w_578 w_579 w_2 w_580) rfl rfl rfl (by decide +kernel) ⟨Nat.le_of_ble_eq_true rfl, Nat.le_of_ble_eq_true rfl⟩) ⟨rd_blind, rd_pre trivial hK⟩ rfl rfl hl.1 rfl (lv_room (Nat.le_of_ble_eq_true rfl)) dM_isCovered_105 ⟨Nat.le_of_ble_eq_true rfl, Nat.le_of_ble_eq_true rfl⟩)) (fun z hz => ?_)
          rw [hz]; clear hz
          refine lv_if_eq (tgt := 115) hx hb dM_isCovered_108 (by decide) (fun c20 => ?_) (fun c20 => ?_)
          · have h := it_t c20 h
            refine lv_iconst (v := 0) hx hb dM_isCovered_115 (by decide) ?_
            exact k116 p1 p4 p6 (0 : Int32) h ls (lv_sub hl [0, 1, 2, 4] rfl)
          · have h := it_f c20 h
            exact k111 p1 p4 p6 h ls (lv_sub hl [0, 1, 2, 4] rfl)
  unfold f_M_isCovered at h
  refine lv_bipush (v := 48) hx hb dM_isCovered_0 (by decide) ?_
  refine lv_iload_n hx hb dM_isCovered_2 rfl (lv_at hl 2 rfl) ?_
  refine lv_imul hx hb dM_isCovered_3 ?_
  refine lv_istore_n (lv' := [(3, .int ((48 : Int32) * x2)), (0, .ref (qm 0)), (1, .int x1), (2, .int x2)]) hx hb dM_isCovered_4 rfl hl (by decide) rfl (fun ls hl => ?_)
  refine lv_iload_n hx hb dM_isCovered_5 rfl (lv_at hl 0 rfl) ?_
  refine lv_aload_n hx hb dM_isCovered_6 rfl (lv_at hl 1 rfl) ?_
  refine va_get (D := (dC, dI)) (ci := 2) (v := .ref (qm 12)) (C := R_M) (T := T_M) (N := 15) hx hb hw in_M hown hK hPm 0 rfl rfl 13 (by decide) (hw _ w_458) (fun _ h9 => h9) rfl dM_isCovered_7 ?_
  refine lv_iload_n hx hb dM_isCovered_10 rfl (lv_at hl 3 rfl) ?_
  obtain ⟨u1, hu1, h⟩ := ob_some h
  obtain ⟨hiu1, eu1⟩ := ld_of hu1
  refine va_iald hx hb hK hPm 12 1 rfl rfl hiu1 dM_isCovered_11 ?_
  rw [eu1]
  refine lv_iadd hx hb dM_isCovered_12 ?_
  obtain ⟨u2, hu2, h⟩ := ob_some h
  rw [Option.some.inj hu2]
  refine lv_istore (lv' := [(4, .int u2), (3, .int ((48 : Int32) * x2)), (0, .ref (qm 0)), (1, .int x1), (2, .int x2)]) hx hb dM_isCovered_13 hl (by decide) rfl (fun ls hl => ?_)
  refine lv_aload_n hx hb dM_isCovered_15 rfl (lv_at hl 2 rfl) ?_
  refine va_get (D := (dC, dI)) (ci := 2) (v := .ref (qm 8)) (C := R_M) (T := T_M) (N := 15) hx hb hw in_M hown hK hPm 0 rfl rfl 9 (by decide) (hw _ w_454) (fun _ h9 => h9) rfl dM_isCovered_16 ?_
  refine lv_iload_n hx hb dM_isCovered_19 rfl (lv_at hl 3 rfl) ?_
  obtain ⟨u3, hu3, h⟩ := ob_some h
  obtain ⟨hiu3, eu3⟩ := ld_of hu3
  refine va_lald hx hb hK hPm 8 0 rfl rfl hiu3 dM_isCovered_20 ?_
  rw [eu3]
  refine lv_aload_n hx hb dM_isCovered_21 rfl (lv_at hl 2 rfl) ?_
  refine va_get (D := (dC, dI)) (ci := 2) (v := .ref (qm 10)) (C := R_M) (T := T_M) (N := 15) hx hb hw in_M hown hK hPm 0 rfl rfl 11 (by decide) (hw _ w_456) (fun _ h9 => h9) rfl dM_isCovered_22 ?_
  refine lv_iload_n hx hb dM_isCovered_25 rfl (lv_at hl 3 rfl) ?_
  obtain ⟨u4, hu4, h⟩ := ob_some h
  obtain ⟨hiu4, eu4⟩ := ld_of hu4
  refine va_lald hx hb hK hPm 10 0 rfl rfl hiu4 dM_isCovered_26 ?_
  rw [eu4]
  refine W.lcmp hx hb dM_isCovered_27 ?_
  refine lv_if_ne (tgt := 127) hx hb dM_isCovered_28 (by decide) (fun c5 => ?_) (fun c5 => ?_)
  · have h := it_f c5 h
    exact k127 x1 ((48 : Int32) * x2) u2 h ls (lv_sub hl [2, 3, 1, 0] rfl)
  · have h := it_t c5 h
    refine lv_aload_n hx hb dM_isCovered_31 rfl (lv_at hl 2 rfl) ?_
    refine va_get (D := (dC, dI)) (ci := 2) (v := .ref (qm 9)) (C := R_M) (T := T_M) (N := 15) hx hb hw in_M hown hK hPm 0 rfl rfl 10 (by decide) (hw _ w_455) (fun _ h9 => h9) rfl dM_isCovered_32 ?_
    refine lv_iload_n hx hb dM_isCovered_35 rfl (lv_at hl 3 rfl) ?_
    obtain ⟨u6, hu6, h⟩ := ob_some h
    obtain ⟨hiu6, eu6⟩ := ld_of hu6
    refine va_lald hx hb hK hPm 9 0 rfl rfl hiu6 dM_isCovered_36 ?_
    rw [eu6]
    refine lv_aload_n hx hb dM_isCovered_37 rfl (lv_at hl 2 rfl) ?_
    refine va_get (D := (dC, dI)) (ci := 2) (v := .ref (qm 11)) (C := R_M) (T := T_M) (N := 15) hx hb hw in_M hown hK hPm 0 rfl rfl 12 (by decide) (hw _ w_457) (fun _ h9 => h9) rfl dM_isCovered_38 ?_
    refine lv_iload_n hx hb dM_isCovered_41 rfl (lv_at hl 3 rfl) ?_
    obtain ⟨u7, hu7, h⟩ := ob_some h
    obtain ⟨hiu7, eu7⟩ := ld_of hu7
    refine va_lald hx hb hK hPm 11 0 rfl rfl hiu7 dM_isCovered_42 ?_
    rw [eu7]
    refine W.lcmp hx hb dM_isCovered_43 ?_
    refine lv_if_ne (tgt := 127) hx hb dM_isCovered_44 (by decide) (fun c8 => ?_) (fun c8 => ?_)
    · have h := it_f c8 h
      exact k127 x1 ((48 : Int32) * x2) u2 h ls (lv_sub hl [2, 3, 1, 0] rfl)
    · have h := it_t c8 h
      refine lv_iconst (v := 0) hx hb dM_isCovered_47 (by decide) ?_
      refine lv_istore (lv' := [(5, .int (0 : Int32)), (4, .int u2), (3, .int ((48 : Int32) * x2)), (0, .ref (qm 0)), (1, .int x1), (2, .int x2)]) hx hb dM_isCovered_48 hl (by decide) rfl (fun ls hl => ?_)
      refine lv_iload_n hx hb dM_isCovered_50 rfl (lv_at hl 2 rfl) ?_
      refine lv_istore (lv' := [(6, .int ((48 : Int32) * x2)), (5, .int (0 : Int32)), (4, .int u2), (3, .int ((48 : Int32) * x2)), (0, .ref (qm 0)), (1, .int x1), (2, .int x2)]) hx hb dM_isCovered_51 hl (by decide) rfl (fun ls hl => ?_)
      exact k53 64 x1 u2 (0 : Int32) ((48 : Int32) * x2) h ls (lv_sub hl [4, 5, 2, 1, 0] rfl)
theorem dM_covers_0 : decode cM_covers 0 = .ok (.iconst 1, 1) := by decide +kernel
theorem dM_covers_1 : decode cM_covers 1 = .ok (.istore_n 3, 1) := by decide +kernel
theorem dM_covers_2 : decode cM_covers 2 = .ok (.bipush 48, 2) := by decide +kernel
theorem dM_covers_4 : decode cM_covers 4 = .ok (.iload_n 2, 1) := by decide +kernel
theorem dM_covers_5 : decode cM_covers 5 = .ok (.imul, 1) := by decide +kernel
theorem dM_covers_6 : decode cM_covers 6 = .ok (.istore 4, 2) := by decide +kernel
theorem dM_covers_8 : decode cM_covers 8 = .ok (.iload 4, 2) := by decide +kernel
theorem dM_covers_10 : decode cM_covers 10 = .ok (.bipush 48, 2) := by decide +kernel
theorem dM_covers_12 : decode cM_covers 12 = .ok (.iload_n 2, 1) := by decide +kernel
theorem dM_covers_13 : decode cM_covers 13 = .ok (.imul, 1) := by decide +kernel
theorem dM_covers_14 : decode cM_covers 14 = .ok (.aload_n 0, 1) := by decide +kernel
theorem dM_covers_15 : decode cM_covers 15 = .ok (.getfield 44, 3) := by decide +kernel
theorem dM_covers_18 : decode cM_covers 18 = .ok (.iload_n 2, 1) := by decide +kernel
theorem dM_covers_19 : decode cM_covers 19 = .ok (.iaload, 1) := by decide +kernel
theorem dM_covers_20 : decode cM_covers 20 = .ok (.iadd, 1) := by decide +kernel
theorem dM_covers_21 : decode cM_covers 21 = .ok (.if_icmp .ge 29, 3) := by decide +kernel
theorem dM_covers_24 : decode cM_covers 24 = .ok (.iload_n 3, 1) := by decide +kernel
theorem dM_covers_25 : decode cM_covers 25 = .ok (.ifCond .eq 17, 3) := by decide +kernel
theorem dM_covers_28 : decode cM_covers 28 = .ok (.aload_n 0, 1) := by decide +kernel
theorem dM_covers_29 : decode cM_covers 29 = .ok (.iload 4, 2) := by decide +kernel
theorem dM_covers_31 : decode cM_covers 31 = .ok (.iload_n 1, 1) := by decide +kernel
theorem dM_covers_32 : decode cM_covers 32 = .ok (.invokevirtual 200, 3) := by decide +kernel
theorem dM_covers_35 : decode cM_covers 35 = .ok (.ifCond .eq 7, 3) := by decide +kernel
theorem dM_covers_38 : decode cM_covers 38 = .ok (.iconst 1, 1) := by decide +kernel
theorem dM_covers_39 : decode cM_covers 39 = .ok (.goto 4, 3) := by decide +kernel
theorem dM_covers_42 : decode cM_covers 42 = .ok (.iconst 0, 1) := by decide +kernel
theorem dM_covers_43 : decode cM_covers 43 = .ok (.istore_n 3, 1) := by decide +kernel
theorem dM_covers_44 : decode cM_covers 44 = .ok (.iinc 4 1, 3) := by decide +kernel
theorem dM_covers_47 : decode cM_covers 47 = .ok (.goto (-39), 3) := by decide +kernel
theorem dM_covers_50 : decode cM_covers 50 = .ok (.iload_n 3, 1) := by decide +kernel
theorem dM_covers_51 : decode cM_covers 51 = .ok (.ireturn, 1) := by decide +kernel
def f_M_covers_j43 (v : MV) (K8 : Int32 → Int32 → Int32 → Int32 → Option Int32) (p1 : Int32) (p2 : Int32) (p4 : Int32) (s0 : Int32) : Option Int32 := (K8 p1 p2 s0 (p4 + 1))
def f_M_covers_j42 (v : MV) (K8 : Int32 → Int32 → Int32 → Int32 → Option Int32) (p1 : Int32) (p2 : Int32) (p4 : Int32) : Option Int32 := (f_M_covers_j43 v K8 p1 p2 p4 (0 : Int32))
def f_M_covers_l8 (v : MV) : Nat → Int32 → Int32 → Int32 → Int32 → Option Int32
 | 0, _, _, _, _ => none
 | n + 1, p1, p2, p3, p4 => (ld 2 (md_size v) p2).bind fun u1 => (if (((48 : Int32) * p2) + u1) ≤ p4 then rb p3 else (if p3 = 0 then (f_M_covers_j42 v (f_M_covers_l8 v n) p1 p2 p4) else (f_M_isCovered v p4 p1).bind fun u4 => (if u4 = 0 then (f_M_covers_j42 v (f_M_covers_l8 v n) p1 p2 p4) else (f_M_covers_j43 v (f_M_covers_l8 v n) p1 p2 p4 (1 : Int32)))))
def f_M_covers (v : MV) (x1 : Int32) (x2 : Int32) : Option Int32 := (f_M_covers_l8 v 64 x1 x2 (1 : Int32) ((48 : Int32) * x2))
set_option maxHeartbeats 4000000 in
set_option maxRecDepth 100000 in
theorem k_M_covers (l : Launch) (dC : Nat → ClassId) (dI : Nat → Nat → Nat) (cL cI : ClassId) (qm : Nat → Nat) (v : MV) (x1 : Int32) (x2 : Int32) (r : Int32) (h : f_M_covers v x1 x2 = some r) : Met l yM_covers wsM_covers ({ frames := 4, cells := 0, slots := 0, locals := 122 }) (rd_Pc [.ref (qm 0), .int x1, .int x2] (fun H => va_P (dC, dI) cls3 (mdW cL cI qm v) H) (dC, dI) cls3 [(cL, .long), (cI, .int)]) (vp_Si (fun z => z = r)) 0 0 (fun _ => False) := by
  refine Met.ofW (cc := cM_covers) (maxL := 5) (ret := (some .boolean)) (by decide) rfl ?_
  intro p e s m args below meth c s₁ B hml hv
  obtain ⟨rfl, hPm, hK⟩ := hv
  have hx := B.exec
  have hb := B.bytes
  have hr := B.returns
  have hw : ∀ w ∈ wG, w.before ([.ref (qm 0), .int x1, .int x2] : List Value).toArray s = true := fun w hq => atoms_spec (ws := wsM_covers) B.pre w (List.mem_cons_of_mem _ hq)
  have hown : s.vm.findClass R_M = some m.cls := findClass_of_methodNamed B.named
  have hlocks := B.notSynchronized
  have hl := lv_entry ([.ref (qm 0), .int x1, .int x2] : List Value) (n := 5) (Nat.le_of_ble_eq_true rfl)
  rw [lg_entry_eq]
  generalize (lg_sl ([.ref (qm 0), .int x1, .int x2] : List Value) ++ List.replicate (5 - (lg_sl ([.ref (qm 0), .int x1, .int x2] : List Value)).length) Slot.unset).toArray = ls at hl ⊢
  have hl : lv_has ls 5 [(0, .ref (qm 0)), (1, .int x1), (2, .int x2)] := hl
  have k8 : ∀ (n8 : Nat), ∀ (p1 : Int32) (p2 : Int32) (p3 : Int32) (p4 : Int32), f_M_covers_l8 v n8 p1 p2 p3 p4 = some r →  ∀ (ls : Array Slot), lv_has ls 5 [(0, .ref (qm 0)), (1, .int p1), (2, .int p2), (3, .int p3), (4, .int p4)] → W p l e (headSpec wsM_covers ({ frames := 4, cells := 0, slots := 0, locals := 122 })).room s m ([.ref (qm 0), .int x1, .int x2] : List Value).toArray below meth c s.heap [] 0 0 (MQ below (vp_Si (fun z => z = r)) ([.ref (qm 0), .int x1, .int x2] : List Value).toArray s 0 0 (fun _ => False)) (F0 m 8 ls []) := by
    intro n8
    induction n8 with
    | zero => intro p1 p2 p3 p4 h; exact absurd h (by simp [f_M_covers_l8])
    | succ n8 ih8 =>
      have k43 : ∀ (p1 : Int32) (p2 : Int32) (p4 : Int32) (s0 : Int32), f_M_covers_j43 v (f_M_covers_l8 v n8) p1 p2 p4 s0 = some r →  ∀ (ls : Array Slot), lv_has ls 5 [(0, .ref (qm 0)), (1, .int p1), (2, .int p2), (4, .int p4)] → W p l e (headSpec wsM_covers ({ frames := 4, cells := 0, slots := 0, locals := 122 })).room s m ([.ref (qm 0), .int x1, .int x2] : List Value).toArray below meth c s.heap [] 0 0 (MQ below (vp_Si (fun z => z = r)) ([.ref (qm 0), .int x1, .int x2] : List Value).toArray s 0 0 (fun _ => False)) (F0 m 43 ls [.int s0]) := by
        intro p1 p2 p4 s0 h  ls hl
        unfold f_M_covers_j43 at h
        refine lv_istore_n (lv' := [(3, .int s0), (0, .ref (qm 0)), (1, .int p1), (2, .int p2), (4, .int p4)]) hx hb dM_covers_43 rfl hl (by decide) rfl (fun ls hl => ?_)
        refine lv_iinc (v := p4 + 1) (lv' := [(4, .int (p4 + 1)), (3, .int s0), (0, .ref (qm 0)), (1, .int p1), (2, .int p2)]) hx hb dM_covers_44 hl (k := 4) rfl rfl (by decide) rfl (fun ls hl => ?_)
        refine lv_goto (tgt := 8) hx hb dM_covers_47 (by decide) ?_
        exact ih8 p1 p2 s0 (p4 + 1) h ls (lv_sub hl [2, 3, 4, 1, 0] rfl)
      have k42 : ∀ (p1 : Int32) (p2 : Int32) (p4 : Int32), f_M_covers_j42 v (f_M_covers_l8 v n8) p1 p2 p4 = some r →  ∀ (ls : Array Slot), lv_has ls 5 [(0, .ref (qm 0)), (1, .int p1), (2, .int p2), (4, .int p4)] → W p l e (headSpec wsM_covers ({ frames := 4, cells := 0, slots := 0, locals := 122 })).room s m ([.ref (qm 0), .int x1, .int x2] : List Value).toArray below meth c s.heap [] 0 0 (MQ below (vp_Si (fun z => z = r)) ([.ref (qm 0), .int x1, .int x2] : List Value).toArray s 0 0 (fun _ => False)) (F0 m 42 ls []) := by
        intro p1 p2 p4 h  ls hl
        unfold f_M_covers_j42 at h
        refine lv_iconst (v := 0) hx hb dM_covers_42 (by decide) ?_
        exact k43 p1 p2 p4 (0 : Int32) h ls (lv_sub hl [0, 1, 2, 3] rfl)
      intro p1 p2 p3 p4 h  ls hl
      rw [f_M_covers_l8] at h
      refine lv_iload hx hb dM_covers_8 (lv_at hl 4 rfl) ?_
      refine lv_bipush (v := 48) hx hb dM_covers_10 (by decide) ?_
      refine lv_iload_n hx hb dM_covers_12 rfl (lv_at hl 2 rfl) ?_
      refine lv_imul hx hb dM_covers_13 ?_
      refine lv_aload_n hx hb dM_covers_14 rfl (lv_at hl 0 rfl) ?_
      refine va_get (D := (dC, dI)) (ci := 2) (v := .ref (qm 12)) (C := R_M) (T := T_M) (N := 15) hx hb hw in_M hown hK hPm 0 rfl rfl 13 (by decide) (hw _ w_458) (fun _ h9 => h9) rfl dM_covers_15 ?_
      refine lv_iload_n hx hb dM_covers_18 rfl (lv_at hl 2 rfl) ?_
      obtain ⟨u1, hu1, h⟩ := ob_some h
      obtain ⟨hiu1, eu1⟩ := ld_of hu1
      refine va_iald hx hb hK hPm 12 1 rfl rfl hiu1 dM_covers_19 ?_
      rw [eu1]
      refine lv_iadd hx hb dM_covers_20 ?_
      refine lv_icmp_ge (tgt := 50) hx hb dM_covers_21 (by decide) (fun c2 => ?_) (fun c2 => ?_)
      · have h := it_t c2 h
        refine lv_iload_n hx hb dM_covers_50 rfl (lv_at hl 3 rfl) ?_
        obtain ⟨hz, hr9⟩ := rb_of h
        exact W.zret hx hb hr hz (fun t ht hW => ⟨_, rfl, hr9, ht⟩) nil_locs dM_covers_51
      · have h := it_f c2 h
        refine lv_iload_n hx hb dM_covers_24 rfl (lv_at hl 3 rfl) ?_
        refine lv_if_eq (tgt := 42) hx hb dM_covers_25 (by decide) (fun c3 => ?_) (fun c3 => ?_)
        · have h := it_t c3 h
          exact k42 p1 p2 p4 h ls (lv_sub hl [0, 1, 2, 4] rfl)
        · have h := it_f c3 h
          refine lv_aload_n hx hb dM_covers_28 rfl (lv_at hl 0 rfl) ?_
          refine lv_iload hx hb dM_covers_29 (lv_at hl 4 rfl) ?_
          refine lv_iload_n hx hb dM_covers_31 rfl (lv_at hl 1 rfl) ?_
          obtain ⟨u4, hu4, h⟩ := ob_some h
          refine vp_callSi (va_Run.run (va_runV (As := [.int p4, .int p1]) (rest := []) ⟨hx, hb, hml, hown, hw⟩ (k_M_isCovered l dC dI cL cI qm v p4 p1 u4 hu4) (cwV 2 hw (gV w_677 w_679 wp_30 w_2 w_680) rfl rfl rfl (by decide +kernel) ⟨Nat.le_of_ble_eq_true rfl, Nat.le_of_ble_eq_true rfl⟩) ⟨rd_blind, va_recv hK hPm (ci := 2) (q0 := 0) rfl rfl, rd_pre hPm hK⟩ rfl rfl hl.1 rfl (lv_room (Nat.le_of_ble_eq_true rfl)) dM_covers_32 ⟨Nat.le_of_ble_eq_true rfl, Nat.le_of_ble_eq_true rfl⟩)) (fun z hz => ?_)
          rw [hz]; clear hz
          refine lv_if_eq (tgt := 42) hx hb dM_covers_35 (by decide) (fun c5 => ?_) (fun c5 => ?_)
          · have h := it_t c5 h
            exact k42 p1 p2 p4 h ls (lv_sub hl [0, 1, 2, 4] rfl)
          · have h := it_f c5 h
            refine lv_iconst (v := 1) hx hb dM_covers_38 (by decide) ?_
            refine lv_goto (tgt := 43) hx hb dM_covers_39 (by decide) ?_
            exact k43 p1 p2 p4 (1 : Int32) h ls (lv_sub hl [0, 1, 2, 4] rfl)
  unfold f_M_covers at h
  refine lv_iconst (v := 1) hx hb dM_covers_0 (by decide) ?_
  refine lv_istore_n (lv' := [(3, .int (1 : Int32)), (0, .ref (qm 0)), (1, .int x1), (2, .int x2)]) hx hb dM_covers_1 rfl hl (by decide) rfl (fun ls hl => ?_)
  refine lv_bipush (v := 48) hx hb dM_covers_2 (by decide) ?_
  refine lv_iload_n hx hb dM_covers_4 rfl (lv_at hl 3 rfl) ?_
  refine lv_imul hx hb dM_covers_5 ?_
  refine lv_istore (lv' := [(4, .int ((48 : Int32) * x2)), (3, .int (1 : Int32)), (0, .ref (qm 0)), (1, .int x1), (2, .int x2)]) hx hb dM_covers_6 hl (by decide) rfl (fun ls hl => ?_)
  exact k8 64 x1 x2 (1 : Int32) ((48 : Int32) * x2) h ls (lv_sub hl [2, 3, 4, 1, 0] rfl)
end
