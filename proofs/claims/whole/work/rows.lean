section
-- ===== PART A: goes FIRST, ahead of the names: the tables' words, and 'selects' of the private methods out of them =====
/-- a private method of a class that the tables say can be made, by its rows of tables_1 -/
def lw_okq (q : MethodName × Nat) : Prop := (q.1.cls ≠ "java/lang/invoke/MethodHandle" ∧ q.1.cls ≠ "java/lang/invoke/VarHandle") ∧ Cond.instantiable q.1.cls q.2 ∈ tables_1 ∧ Cond.privateMethod q.1 ∈ tables_1 ∧ Cond.instanceMethod q.1 ∈ tables_1
theorem lw_p0 : lw_okq (⟨"ShapeForms", "keep", "(LShapeForms$Shape;)I"⟩, 2) := ⟨⟨by decide +kernel, by decide +kernel⟩, List.mem_of_getElem? (i := 15) (by decide +kernel), List.mem_of_getElem? (i := 75) (by decide +kernel), List.mem_of_getElem? (i := 76) (by decide +kernel)⟩
theorem lw_p1 : lw_okq (⟨"java/lang/Throwable", "fillInStackTrace", "(I)Ljava/lang/Throwable;"⟩, 6) := ⟨⟨by decide +kernel, by decide +kernel⟩, List.mem_of_getElem? (i := 133) (by decide +kernel), List.mem_of_getElem? (i := 131) (by decide +kernel), List.mem_of_getElem? (i := 132) (by decide +kernel)⟩
theorem lw_p2 : lw_okq (⟨"ShapeForms", "find", "(I)LShapeForms$Shape;"⟩, 2) := ⟨⟨by decide +kernel, by decide +kernel⟩, List.mem_of_getElem? (i := 15) (by decide +kernel), List.mem_of_getElem? (i := 205) (by decide +kernel), List.mem_of_getElem? (i := 206) (by decide +kernel)⟩
theorem lw_p3 : lw_okq (⟨"ShapeForms$Shape", "compareToSide", "(IJJJ)I"⟩, 8) := ⟨⟨by decide +kernel, by decide +kernel⟩, List.mem_of_getElem? (i := 35) (by decide +kernel), List.mem_of_getElem? (i := 324) (by decide +kernel), List.mem_of_getElem? (i := 325) (by decide +kernel)⟩
theorem lw_p4 : lw_okq (⟨"ShapeForms$Shape", "squareTo", "(IJJ)J"⟩, 8) := ⟨⟨by decide +kernel, by decide +kernel⟩, List.mem_of_getElem? (i := 35) (by decide +kernel), List.mem_of_getElem? (i := 328) (by decide +kernel), List.mem_of_getElem? (i := 329) (by decide +kernel)⟩
theorem lw_p5 : lw_okq (⟨"ShapeForms$Shape", "coveredFrom", "(JZLShapeForms$Shape;I)J"⟩, 8) := ⟨⟨by decide +kernel, by decide +kernel⟩, List.mem_of_getElem? (i := 35) (by decide +kernel), List.mem_of_getElem? (i := 436) (by decide +kernel), List.mem_of_getElem? (i := 437) (by decide +kernel)⟩
theorem lw_p6 : lw_okq (⟨"ShapeFormsModel", "begin", "(IJ)I"⟩, 15) := ⟨⟨by decide +kernel, by decide +kernel⟩, List.mem_of_getElem? (i := 440) (by decide +kernel), List.mem_of_getElem? (i := 509) (by decide +kernel), List.mem_of_getElem? (i := 510) (by decide +kernel)⟩
theorem lw_p7 : lw_okq (⟨"ShapeFormsModel", "add", "(IJJ)V"⟩, 15) := ⟨⟨by decide +kernel, by decide +kernel⟩, List.mem_of_getElem? (i := 440) (by decide +kernel), List.mem_of_getElem? (i := 513) (by decide +kernel), List.mem_of_getElem? (i := 514) (by decide +kernel)⟩
theorem lw_p8 : lw_okq (⟨"ShapeFormsModel", "isShape", "(I)Z"⟩, 15) := ⟨⟨by decide +kernel, by decide +kernel⟩, List.mem_of_getElem? (i := 440) (by decide +kernel), List.mem_of_getElem? (i := 535) (by decide +kernel), List.mem_of_getElem? (i := 536) (by decide +kernel)⟩
theorem lw_p9 : lw_okq (⟨"ShapeFormsModel", "closed", "(I)I"⟩, 15) := ⟨⟨by decide +kernel, by decide +kernel⟩, List.mem_of_getElem? (i := 440) (by decide +kernel), List.mem_of_getElem? (i := 539) (by decide +kernel), List.mem_of_getElem? (i := 540) (by decide +kernel)⟩
theorem lw_p10 : lw_okq (⟨"ShapeFormsModel", "isEmpty", "(III)Z"⟩, 15) := ⟨⟨by decide +kernel, by decide +kernel⟩, List.mem_of_getElem? (i := 440) (by decide +kernel), List.mem_of_getElem? (i := 547) (by decide +kernel), List.mem_of_getElem? (i := 548) (by decide +kernel)⟩
theorem lw_p11 : lw_okq (⟨"ShapeFormsModel", "x", "(II)J"⟩, 15) := ⟨⟨by decide +kernel, by decide +kernel⟩, List.mem_of_getElem? (i := 440) (by decide +kernel), List.mem_of_getElem? (i := 551) (by decide +kernel), List.mem_of_getElem? (i := 552) (by decide +kernel)⟩
theorem lw_p12 : lw_okq (⟨"ShapeFormsModel", "y", "(II)J"⟩, 15) := ⟨⟨by decide +kernel, by decide +kernel⟩, List.mem_of_getElem? (i := 440) (by decide +kernel), List.mem_of_getElem? (i := 555) (by decide +kernel), List.mem_of_getElem? (i := 556) (by decide +kernel)⟩
theorem lw_p13 : lw_okq (⟨"ShapeFormsModel", "isCrossing", "(III)Z"⟩, 15) := ⟨⟨by decide +kernel, by decide +kernel⟩, List.mem_of_getElem? (i := 440) (by decide +kernel), List.mem_of_getElem? (i := 568) (by decide +kernel), List.mem_of_getElem? (i := 569) (by decide +kernel)⟩
theorem lw_p14 : lw_okq (⟨"ShapeFormsModel", "foldsBack", "(IIII)Z"⟩, 15) := ⟨⟨by decide +kernel, by decide +kernel⟩, List.mem_of_getElem? (i := 440) (by decide +kernel), List.mem_of_getElem? (i := 572) (by decide +kernel), List.mem_of_getElem? (i := 573) (by decide +kernel)⟩
theorem lw_p15 : lw_okq (⟨"ShapeFormsModel", "sidesMeet", "(IIIIIII)Z"⟩, 15) := ⟨⟨by decide +kernel, by decide +kernel⟩, List.mem_of_getElem? (i := 440) (by decide +kernel), List.mem_of_getElem? (i := 585) (by decide +kernel), List.mem_of_getElem? (i := 586) (by decide +kernel)⟩
def lw_privs_1 : List (MethodName × Nat) := [(⟨"ShapeForms", "keep", "(LShapeForms$Shape;)I"⟩, 2), (⟨"java/lang/Throwable", "fillInStackTrace", "(I)Ljava/lang/Throwable;"⟩, 6), (⟨"ShapeForms", "find", "(I)LShapeForms$Shape;"⟩, 2), (⟨"ShapeForms$Shape", "compareToSide", "(IJJJ)I"⟩, 8), (⟨"ShapeForms$Shape", "squareTo", "(IJJ)J"⟩, 8), (⟨"ShapeForms$Shape", "coveredFrom", "(JZLShapeForms$Shape;I)J"⟩, 8), (⟨"ShapeFormsModel", "begin", "(IJ)I"⟩, 15), (⟨"ShapeFormsModel", "add", "(IJJ)V"⟩, 15), (⟨"ShapeFormsModel", "isShape", "(I)Z"⟩, 15), (⟨"ShapeFormsModel", "closed", "(I)I"⟩, 15), (⟨"ShapeFormsModel", "isEmpty", "(III)Z"⟩, 15), (⟨"ShapeFormsModel", "x", "(II)J"⟩, 15), (⟨"ShapeFormsModel", "y", "(II)J"⟩, 15), (⟨"ShapeFormsModel", "isCrossing", "(III)Z"⟩, 15), (⟨"ShapeFormsModel", "foldsBack", "(IIII)Z"⟩, 15), (⟨"ShapeFormsModel", "sidesMeet", "(IIIIIII)Z"⟩, 15)]
theorem lw_r1 : ∀ q ∈ lw_privs_1, lw_okq q := List.forall_mem_cons.mpr ⟨lw_p0, List.forall_mem_cons.mpr ⟨lw_p1, List.forall_mem_cons.mpr ⟨lw_p2, List.forall_mem_cons.mpr ⟨lw_p3, List.forall_mem_cons.mpr ⟨lw_p4, List.forall_mem_cons.mpr ⟨lw_p5, List.forall_mem_cons.mpr ⟨lw_p6, List.forall_mem_cons.mpr ⟨lw_p7, List.forall_mem_cons.mpr ⟨lw_p8, List.forall_mem_cons.mpr ⟨lw_p9, List.forall_mem_cons.mpr ⟨lw_p10, List.forall_mem_cons.mpr ⟨lw_p11, List.forall_mem_cons.mpr ⟨lw_p12, List.forall_mem_cons.mpr ⟨lw_p13, List.forall_mem_cons.mpr ⟨lw_p14, List.forall_mem_cons.mpr ⟨lw_p15, fun _ h => absurd h List.not_mem_nil⟩⟩⟩⟩⟩⟩⟩⟩⟩⟩⟩⟩⟩⟩⟩⟩
theorem lw_p16 : lw_okq (⟨"ShapeFormsModel", "isWhole", "(I)Z"⟩, 15) := ⟨⟨by decide +kernel, by decide +kernel⟩, List.mem_of_getElem? (i := 440) (by decide +kernel), List.mem_of_getElem? (i := 596) (by decide +kernel), List.mem_of_getElem? (i := 597) (by decide +kernel)⟩
theorem lw_p17 : lw_okq (⟨"ShapeFormsModel", "coresApart", "(IIJ)I"⟩, 15) := ⟨⟨by decide +kernel, by decide +kernel⟩, List.mem_of_getElem? (i := 440) (by decide +kernel), List.mem_of_getElem? (i := 600) (by decide +kernel), List.mem_of_getElem? (i := 601) (by decide +kernel)⟩
theorem lw_p18 : lw_okq (⟨"ShapeFormsModel", "pieces", "(II)V"⟩, 15) := ⟨⟨by decide +kernel, by decide +kernel⟩, List.mem_of_getElem? (i := 440) (by decide +kernel), List.mem_of_getElem? (i := 604) (by decide +kernel), List.mem_of_getElem? (i := 605) (by decide +kernel)⟩
theorem lw_p19 : lw_okq (⟨"ShapeFormsModel", "piece", "(IJJJJ)V"⟩, 15) := ⟨⟨by decide +kernel, by decide +kernel⟩, List.mem_of_getElem? (i := 440) (by decide +kernel), List.mem_of_getElem? (i := 608) (by decide +kernel), List.mem_of_getElem? (i := 609) (by decide +kernel)⟩
theorem lw_p20 : lw_okq (⟨"ShapeFormsModel", "haveCommon", "(II)Z"⟩, 15) := ⟨⟨by decide +kernel, by decide +kernel⟩, List.mem_of_getElem? (i := 440) (by decide +kernel), List.mem_of_getElem? (i := 612) (by decide +kernel), List.mem_of_getElem? (i := 613) (by decide +kernel)⟩
theorem lw_p21 : lw_okq (⟨"ShapeFormsModel", "isInCore", "(IIJJ)Z"⟩, 15) := ⟨⟨by decide +kernel, by decide +kernel⟩, List.mem_of_getElem? (i := 440) (by decide +kernel), List.mem_of_getElem? (i := 616) (by decide +kernel), List.mem_of_getElem? (i := 617) (by decide +kernel)⟩
theorem lw_p22 : lw_okq (⟨"ShapeFormsModel", "hasArea", "(I)Z"⟩, 15) := ⟨⟨by decide +kernel, by decide +kernel⟩, List.mem_of_getElem? (i := 440) (by decide +kernel), List.mem_of_getElem? (i := 620) (by decide +kernel), List.mem_of_getElem? (i := 621) (by decide +kernel)⟩
theorem lw_p23 : lw_okq (⟨"ShapeFormsModel", "apart", "(IIJ)I"⟩, 15) := ⟨⟨by decide +kernel, by decide +kernel⟩, List.mem_of_getElem? (i := 440) (by decide +kernel), List.mem_of_getElem? (i := 624) (by decide +kernel), List.mem_of_getElem? (i := 625) (by decide +kernel)⟩
theorem lw_p24 : lw_okq (⟨"ShapeFormsModel", "farther", "(JJJJJJJ)I"⟩, 15) := ⟨⟨by decide +kernel, by decide +kernel⟩, List.mem_of_getElem? (i := 440) (by decide +kernel), List.mem_of_getElem? (i := 628) (by decide +kernel), List.mem_of_getElem? (i := 629) (by decide +kernel)⟩
theorem lw_p25 : lw_okq (⟨"ShapeFormsModel", "compareProducts", "(JJJJ)I"⟩, 15) := ⟨⟨by decide +kernel, by decide +kernel⟩, List.mem_of_getElem? (i := 440) (by decide +kernel), List.mem_of_getElem? (i := 632) (by decide +kernel), List.mem_of_getElem? (i := 633) (by decide +kernel)⟩
theorem lw_p26 : lw_okq (⟨"ShapeFormsModel", "multiply", "(IJJ)V"⟩, 15) := ⟨⟨by decide +kernel, by decide +kernel⟩, List.mem_of_getElem? (i := 440) (by decide +kernel), List.mem_of_getElem? (i := 636) (by decide +kernel), List.mem_of_getElem? (i := 637) (by decide +kernel)⟩
theorem lw_p27 : lw_okq (⟨"ShapeFormsModel", "copy", "(IJ)I"⟩, 15) := ⟨⟨by decide +kernel, by decide +kernel⟩, List.mem_of_getElem? (i := 440) (by decide +kernel), List.mem_of_getElem? (i := 650) (by decide +kernel), List.mem_of_getElem? (i := 651) (by decide +kernel)⟩
theorem lw_p28 : lw_okq (⟨"ShapeFormsModel", "order", "(I)V"⟩, 15) := ⟨⟨by decide +kernel, by decide +kernel⟩, List.mem_of_getElem? (i := 440) (by decide +kernel), List.mem_of_getElem? (i := 658) (by decide +kernel), List.mem_of_getElem? (i := 659) (by decide +kernel)⟩
theorem lw_p29 : lw_okq (⟨"ShapeFormsModel", "covers", "(II)Z"⟩, 15) := ⟨⟨by decide +kernel, by decide +kernel⟩, List.mem_of_getElem? (i := 440) (by decide +kernel), List.mem_of_getElem? (i := 674) (by decide +kernel), List.mem_of_getElem? (i := 675) (by decide +kernel)⟩
theorem lw_p30 : lw_okq (⟨"ShapeFormsModel", "isCovered", "(II)Z"⟩, 15) := ⟨⟨by decide +kernel, by decide +kernel⟩, List.mem_of_getElem? (i := 440) (by decide +kernel), List.mem_of_getElem? (i := 678) (by decide +kernel), List.mem_of_getElem? (i := 679) (by decide +kernel)⟩
theorem lw_p31 : lw_okq (⟨"ShapeFormsModel", "isAhead", "(IJJJJ)Z"⟩, 15) := ⟨⟨by decide +kernel, by decide +kernel⟩, List.mem_of_getElem? (i := 440) (by decide +kernel), List.mem_of_getElem? (i := 682) (by decide +kernel), List.mem_of_getElem? (i := 683) (by decide +kernel)⟩
def lw_privs_2 : List (MethodName × Nat) := [(⟨"ShapeFormsModel", "isWhole", "(I)Z"⟩, 15), (⟨"ShapeFormsModel", "coresApart", "(IIJ)I"⟩, 15), (⟨"ShapeFormsModel", "pieces", "(II)V"⟩, 15), (⟨"ShapeFormsModel", "piece", "(IJJJJ)V"⟩, 15), (⟨"ShapeFormsModel", "haveCommon", "(II)Z"⟩, 15), (⟨"ShapeFormsModel", "isInCore", "(IIJJ)Z"⟩, 15), (⟨"ShapeFormsModel", "hasArea", "(I)Z"⟩, 15), (⟨"ShapeFormsModel", "apart", "(IIJ)I"⟩, 15), (⟨"ShapeFormsModel", "farther", "(JJJJJJJ)I"⟩, 15), (⟨"ShapeFormsModel", "compareProducts", "(JJJJ)I"⟩, 15), (⟨"ShapeFormsModel", "multiply", "(IJJ)V"⟩, 15), (⟨"ShapeFormsModel", "copy", "(IJ)I"⟩, 15), (⟨"ShapeFormsModel", "order", "(I)V"⟩, 15), (⟨"ShapeFormsModel", "covers", "(II)Z"⟩, 15), (⟨"ShapeFormsModel", "isCovered", "(II)Z"⟩, 15), (⟨"ShapeFormsModel", "isAhead", "(IJJJJ)Z"⟩, 15)]
theorem lw_r2 : ∀ q ∈ lw_privs_2, lw_okq q := List.forall_mem_cons.mpr ⟨lw_p16, List.forall_mem_cons.mpr ⟨lw_p17, List.forall_mem_cons.mpr ⟨lw_p18, List.forall_mem_cons.mpr ⟨lw_p19, List.forall_mem_cons.mpr ⟨lw_p20, List.forall_mem_cons.mpr ⟨lw_p21, List.forall_mem_cons.mpr ⟨lw_p22, List.forall_mem_cons.mpr ⟨lw_p23, List.forall_mem_cons.mpr ⟨lw_p24, List.forall_mem_cons.mpr ⟨lw_p25, List.forall_mem_cons.mpr ⟨lw_p26, List.forall_mem_cons.mpr ⟨lw_p27, List.forall_mem_cons.mpr ⟨lw_p28, List.forall_mem_cons.mpr ⟨lw_p29, List.forall_mem_cons.mpr ⟨lw_p30, List.forall_mem_cons.mpr ⟨lw_p31, fun _ h => absurd h List.not_mem_nil⟩⟩⟩⟩⟩⟩⟩⟩⟩⟩⟩⟩⟩⟩⟩⟩
def lw_privs : List (MethodName × Nat) := lw_privs_1 ++ (lw_privs_2)
def lw_tbl : List Cond := k2_sels lw_privs ++ tables_1
theorem lw_privs_ok : ∀ q ∈ lw_privs, lw_okq q := by
  show ∀ q ∈ lw_privs_1 ++ (lw_privs_2), lw_okq q
  exact List.forall_mem_append.mpr ⟨lw_r1, lw_r2⟩
/-! the good words of the tables, and how one is found there by its place -/
def wG : List Cond := lw_tbl.filter goodWord
theorem mG {w : Cond} (i : Nat) (h : lw_tbl[i]? = some w) (g : goodWord w = true) : w ∈ wG := List.mem_filter.mpr ⟨List.mem_of_getElem? h, g⟩
theorem wG_tbl : ∀ w ∈ wG, w ∈ lw_tbl := fun _ h => (List.mem_filter.mp h).1
abbrev R_F : String := "ShapeForms"
abbrev R_S : String := "ShapeForms$Shape"
abbrev R_P : String := "ShapeForms$Pair"
abbrev R_W : String := "ShapeForms$Wide"
abbrev R_M : String := "ShapeFormsModel"
abbrev R_L : String := "ShapeFormsLaw"
abbrev R_JL : String := "java/lang/Long"
abbrev R_JM : String := "java/lang/Math"
def T_S : u_T := fun k => match k with
  | 0 => ("ShapeForms$Shape", "form", "I", true)
  | 1 => ("ShapeForms$Shape", "filled", "Z", true)
  | 2 => ("ShapeForms$Shape", "radius", "J", true)
  | 3 => ("ShapeForms$Shape", "xs", "[J", true)
  | 4 => ("ShapeForms$Shape", "ys", "[J", true)
  | 5 => ("ShapeForms$Shape", "ends", "[I", true)
  | 6 => ("ShapeForms$Shape", "count", "I", false)
  | _ => ("ShapeForms$Shape", "open", "I", false)
def t_S : Nat → FieldType := fun k => match k with
  | 0 => .int
  | 1 => .boolean
  | 2 => .long
  | 3 => .array .long
  | 4 => .array .long
  | 5 => .array .int
  | 6 => .int
  | _ => .int
theorem nm_S : ∀ a, a < 8 → ∀ b, b < 8 → a ≠ b → (T_S a).2.1 ≠ (T_S b).2.1 := by decide +kernel
theorem t_S_ok : ∀ k, k < 8 → parseFieldDescriptor (T_S k).2.2.1 = some (t_S k) := by decide +kernel
theorem in_S : ∀ w ∈ u_ws R_S T_S 8, w ∈ wG := by decide +kernel
def T_F : u_T := fun k => match k with
  | 0 => ("ShapeForms", "shapes", "[LShapeForms$Shape;", true)
  | _ => ("ShapeForms", "made", "I", false)
def t_F : Nat → FieldType := fun k => match k with
  | 0 => .array (.object "ShapeForms$Shape")
  | _ => .int
theorem nm_F : ∀ a, a < 2 → ∀ b, b < 2 → a ≠ b → (T_F a).2.1 ≠ (T_F b).2.1 := by decide +kernel
theorem t_F_ok : ∀ k, k < 2 → parseFieldDescriptor (T_F k).2.2.1 = some (t_F k) := by decide +kernel
theorem in_F : ∀ w ∈ u_ws R_F T_F 2, w ∈ wG := by decide +kernel
def T_M : u_T := fun k => match k with
  | 0 => ("ShapeFormsModel", "thrown", "I", false)
  | 1 => ("ShapeFormsModel", "shapes", "I", false)
  | 2 => ("ShapeFormsModel", "kinds", "[I", true)
  | 3 => ("ShapeFormsModel", "radii", "[J", true)
  | 4 => ("ShapeFormsModel", "cornerX", "[J", true)
  | 5 => ("ShapeFormsModel", "cornerY", "[J", true)
  | 6 => ("ShapeFormsModel", "many", "[I", true)
  | 7 => ("ShapeFormsModel", "ends", "[I", true)
  | 8 => ("ShapeFormsModel", "rings", "[I", true)
  | 9 => ("ShapeFormsModel", "ax", "[J", true)
  | 10 => ("ShapeFormsModel", "ay", "[J", true)
  | 11 => ("ShapeFormsModel", "bx", "[J", true)
  | 12 => ("ShapeFormsModel", "by", "[J", true)
  | 13 => ("ShapeFormsModel", "size", "[I", true)
  | _ => ("ShapeFormsModel", "digits", "[J", true)
def t_M : Nat → FieldType := fun k => match k with
  | 0 => .int
  | 1 => .int
  | 2 => .array .int
  | 3 => .array .long
  | 4 => .array .long
  | 5 => .array .long
  | 6 => .array .int
  | 7 => .array .int
  | 8 => .array .int
  | 9 => .array .long
  | 10 => .array .long
  | 11 => .array .long
  | 12 => .array .long
  | 13 => .array .int
  | _ => .array .long
theorem nm_M : ∀ a, a < 15 → ∀ b, b < 15 → a ≠ b → (T_M a).2.1 ≠ (T_M b).2.1 := by decide +kernel
theorem t_M_ok : ∀ k, k < 15 → parseFieldDescriptor (T_M k).2.2.1 = some (t_M k) := by decide +kernel
theorem in_M : ∀ w ∈ u_ws R_M T_M 15, w ∈ wG := by decide +kernel
abbrev cls3 : List vw_C := [(R_S, T_S, 8), (R_F, T_F, 2), (R_M, T_M, 15)]
abbrev cF_init : ByteArray := prog_1_method_1_code
abbrev yF_init : MethodName := ⟨R_F, "<init>", "()V"⟩
abbrev wsF_init : List Cond := .code yF_init cF_init 1 none :: wG
abbrev cF_polygon : ByteArray := prog_1_method_4_code
abbrev yF_polygon : MethodName := ⟨R_F, "polygon", "()I"⟩
abbrev wsF_polygon : List Cond := .code yF_polygon cF_polygon 1 (some .int) :: wG
abbrev cS_init : ByteArray := prog_3_method_1_code
abbrev yS_init : MethodName := ⟨R_S, "<init>", "(IZJ)V"⟩
abbrev wsS_init : List Cond := .code yS_init cS_init 5 none :: wG
abbrev cF_keep : ByteArray := prog_1_method_21_code
abbrev yF_keep : MethodName := ⟨R_F, "keep", "(LShapeForms$Shape;)I"⟩
abbrev wsF_keep : List Cond := .code yF_keep cF_keep 2 (some .int) :: wG
abbrev cL_circle : ByteArray := method_3_code
abbrev yL_circle : MethodName := ⟨R_L, "circle", "(LShapeForms;JJJ[J)I"⟩
abbrev cF_circle : ByteArray := prog_1_method_2_code
abbrev yF_circle : MethodName := ⟨R_F, "circle", "(JJJ)I"⟩
abbrev wsF_circle : List Cond := .code yF_circle cF_circle 8 (some .int) :: wG
abbrev cF_needPlace : ByteArray := prog_1_method_17_code
abbrev yF_needPlace : MethodName := ⟨R_F, "needPlace", "(JJ)V"⟩
abbrev wsF_needPlace : List Cond := .code yF_needPlace cF_needPlace 4 none :: wG
abbrev cF_isPlace : ByteArray := prog_1_method_15_code
abbrev yF_isPlace : MethodName := ⟨R_F, "isPlace", "(JJ)Z"⟩
abbrev wsF_isPlace : List Cond := .code yF_isPlace cF_isPlace 4 (some .boolean) :: wG
abbrev cF_needLength : ByteArray := prog_1_method_18_code
abbrev yF_needLength : MethodName := ⟨R_F, "needLength", "(J)V"⟩
abbrev wsF_needLength : List Cond := .code yF_needLength cF_needLength 2 none :: wG
abbrev cF_isLength : ByteArray := prog_1_method_16_code
abbrev yF_isLength : MethodName := ⟨R_F, "isLength", "(J)Z"⟩
abbrev wsF_isLength : List Cond := .code yF_isLength cF_isLength 2 (some .boolean) :: wG
abbrev cS_addCorner : ByteArray := prog_3_method_5_code
abbrev yS_addCorner : MethodName := ⟨R_S, "addCorner", "(JJ)Z"⟩
abbrev wsS_addCorner : List Cond := .code yS_addCorner cS_addCorner 5 (some .boolean) :: wG
abbrev cL_box : ByteArray := method_4_code
abbrev yL_box : MethodName := ⟨R_L, "box", "(LShapeForms;JJJJJ[J)I"⟩
abbrev cF_box : ByteArray := prog_1_method_3_code
abbrev yF_box : MethodName := ⟨R_F, "box", "(JJJJJ)I"⟩
abbrev wsF_box : List Cond := .code yF_box cF_box 11 (some .int) :: wG
abbrev cF_roundedBox : ByteArray := prog_1_method_22_code
abbrev yF_roundedBox : MethodName := ⟨R_F, "roundedBox", "(JJJJJ)LShapeForms$Shape;"⟩
abbrev wsF_roundedBox : List Cond := .code yF_roundedBox cF_roundedBox 12 (some (.object "ShapeForms$Shape")) :: wG
abbrev cL_trace : ByteArray := method_5_code
abbrev yL_trace : MethodName := ⟨R_L, "trace", "(LShapeForms;J[J)I"⟩
abbrev cF_trace : ByteArray := prog_1_method_5_code
abbrev yF_trace : MethodName := ⟨R_F, "trace", "(J)I"⟩
abbrev wsF_trace : List Cond := .code yF_trace cF_trace 3 (some .int) :: wG
abbrev cL_corner : ByteArray := method_6_code
abbrev yL_corner : MethodName := ⟨R_L, "corner", "(LShapeForms;IJJ[J)I"⟩
abbrev cF_corner : ByteArray := prog_1_method_6_code
abbrev yF_corner : MethodName := ⟨R_F, "corner", "(IJJ)Z"⟩
abbrev wsF_corner : List Cond := .code yF_corner cF_corner 7 (some .boolean) :: wG
abbrev cF_find : ByteArray := prog_1_method_20_code
abbrev yF_find : MethodName := ⟨R_F, "find", "(I)LShapeForms$Shape;"⟩
abbrev wsF_find : List Cond := .code yF_find cF_find 3 (some (.object "ShapeForms$Shape")) :: wG
abbrev cS_takesCorners : ByteArray := prog_3_method_4_code
abbrev yS_takesCorners : MethodName := ⟨R_S, "takesCorners", "()Z"⟩
abbrev wsS_takesCorners : List Cond := .code yS_takesCorners cS_takesCorners 1 (some .boolean) :: wG
abbrev cL_ring : ByteArray := method_7_code
abbrev yL_ring : MethodName := ⟨R_L, "ring", "(LShapeForms;I[J)I"⟩
abbrev cF_ring : ByteArray := prog_1_method_7_code
abbrev yF_ring : MethodName := ⟨R_F, "ring", "(I)Z"⟩
abbrev wsF_ring : List Cond := .code yF_ring cF_ring 3 (some .boolean) :: wG
abbrev cS_hasOpenRing : ByteArray := prog_3_method_3_code
abbrev yS_hasOpenRing : MethodName := ⟨R_S, "hasOpenRing", "()Z"⟩
abbrev wsS_hasOpenRing : List Cond := .code yS_hasOpenRing cS_hasOpenRing 1 (some .boolean) :: wG
abbrev cS_closeRing : ByteArray := prog_3_method_6_code
abbrev yS_closeRing : MethodName := ⟨R_S, "closeRing", "()Z"⟩
abbrev wsS_closeRing : List Cond := .code yS_closeRing cS_closeRing 1 (some .boolean) :: wG
abbrev cS_isOpenRingEmpty : ByteArray := prog_3_method_7_code
abbrev yS_isOpenRingEmpty : MethodName := ⟨R_S, "isOpenRingEmpty", "()Z"⟩
abbrev wsS_isOpenRingEmpty : List Cond := .code yS_isOpenRingEmpty cS_isOpenRingEmpty 2 (some .boolean) :: wG
abbrev cS_cross : ByteArray := prog_3_method_13_code
abbrev yS_cross : MethodName := ⟨R_S, "cross", "(IJJ)J"⟩
abbrev wsS_cross : List Cond := .code yS_cross cS_cross 7 (some .long) :: wG
abbrev cS_isOpenRingCrossing : ByteArray := prog_3_method_8_code
abbrev yS_isOpenRingCrossing : MethodName := ⟨R_S, "isOpenRingCrossing", "()Z"⟩
abbrev wsS_isOpenRingCrossing : List Cond := .code yS_isOpenRingCrossing cS_isOpenRingCrossing 4 (some .boolean) :: wG
abbrev cP_sidesMeet : ByteArray := prog_2_method_5_code
abbrev yP_sidesMeet : MethodName := ⟨R_P, "sidesMeet", "(LShapeForms$Shape;ILShapeForms$Shape;I)Z"⟩
abbrev wsP_sidesMeet : List Cond := .code yP_sidesMeet cP_sidesMeet 6 (some .boolean) :: wG
abbrev cP_spansMeet : ByteArray := prog_2_method_6_code
abbrev yP_spansMeet : MethodName := ⟨R_P, "spansMeet", "(JJJJ)Z"⟩
abbrev wsP_spansMeet : List Cond := .code yP_spansMeet cP_spansMeet 8 (some .boolean) :: wG
abbrev cJM_min_JJ : ByteArray := prog_12_method_70_code
abbrev yJM_min_JJ : MethodName := ⟨R_JM, "min", "(JJ)J"⟩
abbrev wsJM_min_JJ : List Cond := .code yJM_min_JJ cJM_min_JJ 4 (some .long) :: wG
abbrev cJM_max_JJ : ByteArray := prog_12_method_66_code
abbrev yJM_max_JJ : MethodName := ⟨R_JM, "max", "(JJ)J"⟩
abbrev wsJM_max_JJ : List Cond := .code yJM_max_JJ cJM_max_JJ 4 (some .long) :: wG
abbrev cP_passesBeside : ByteArray := prog_2_method_7_code
abbrev yP_passesBeside : MethodName := ⟨R_P, "passesBeside", "(LShapeForms$Shape;ILShapeForms$Shape;I)Z"⟩
abbrev wsP_passesBeside : List Cond := .code yP_passesBeside cP_passesBeside 9 (some .boolean) :: wG
abbrev cL_grow : ByteArray := method_8_code
abbrev yL_grow : MethodName := ⟨R_L, "grow", "(LShapeForms;IJ[J)I"⟩
abbrev cF_grow : ByteArray := prog_1_method_8_code
abbrev yF_grow : MethodName := ⟨R_F, "grow", "(IJ)I"⟩
abbrev wsF_grow : List Cond := .code yF_grow cF_grow 7 (some .int) :: wG
abbrev cF_needWhole : ByteArray := prog_1_method_19_code
abbrev yF_needWhole : MethodName := ⟨R_F, "needWhole", "(LShapeForms$Shape;)V"⟩
abbrev wsF_needWhole : List Cond := .code yF_needWhole cF_needWhole 1 none :: wG
abbrev cS_isWhole : ByteArray := prog_3_method_2_code
abbrev yS_isWhole : MethodName := ⟨R_S, "isWhole", "()Z"⟩
abbrev wsS_isWhole : List Cond := .code yS_isWhole cS_isWhole 1 (some .boolean) :: wG
abbrev cS_copyWithRadius : ByteArray := prog_3_method_9_code
abbrev yS_copyWithRadius : MethodName := ⟨R_S, "copyWithRadius", "(J)LShapeForms$Shape;"⟩
abbrev wsS_copyWithRadius : List Cond := .code yS_copyWithRadius cS_copyWithRadius 5 (some (.object "ShapeForms$Shape")) :: wG
abbrev cL_inside : ByteArray := method_9_code
abbrev yL_inside : MethodName := ⟨R_L, "inside", "(LShapeForms;IJJ[J)I"⟩
abbrev cF_inside : ByteArray := prog_1_method_9_code
abbrev yF_inside : MethodName := ⟨R_F, "inside", "(IJJ)Z"⟩
abbrev wsF_inside : List Cond := .code yF_inside cF_inside 7 (some .boolean) :: wG
abbrev cS_compareToSides : ByteArray := prog_3_method_16_code
abbrev yS_compareToSides : MethodName := ⟨R_S, "compareToSides", "(JJJ)I"⟩
abbrev wsS_compareToSides : List Cond := .code yS_compareToSides cS_compareToSides 9 (some .int) :: wG
abbrev cS_compareToSide : ByteArray := prog_3_method_17_code
abbrev yS_compareToSide : MethodName := ⟨R_S, "compareToSide", "(IJJJ)I"⟩
abbrev wsS_compareToSide : List Cond := .code yS_compareToSide cS_compareToSide 19 (some .int) :: wG
abbrev cS_squareTo : ByteArray := prog_3_method_18_code
abbrev yS_squareTo : MethodName := ⟨R_S, "squareTo", "(IJJ)J"⟩
abbrev wsS_squareTo : List Cond := .code yS_squareTo cS_squareTo 6 (some .long) :: wG
abbrev cJL_compare_JJ : ByteArray := prog_11_method_42_code
abbrev yJL_compare_JJ : MethodName := ⟨R_JL, "compare", "(JJ)I"⟩
abbrev wsJL_compare_JJ : List Cond := .code yJL_compare_JJ cJL_compare_JJ 4 (some .int) :: wG
abbrev cJM_abs_J : ByteArray := prog_12_method_61_code
abbrev yJM_abs_J : MethodName := ⟨R_JM, "abs", "(J)J"⟩
abbrev wsJM_abs_J : List Cond := .code yJM_abs_J cJM_abs_J 2 (some .long) :: wG
abbrev cW_compareProducts : ByteArray := prog_4_method_2_code
abbrev yW_compareProducts : MethodName := ⟨R_W, "compareProducts", "(JJJJ)I"⟩
abbrev wsW_compareProducts : List Cond := .code yW_compareProducts cW_compareProducts 9 (some .int) :: wG
abbrev cW_highPart : ByteArray := prog_4_method_3_code
abbrev yW_highPart : MethodName := ⟨R_W, "highPart", "(JJ)J"⟩
abbrev wsW_highPart : List Cond := .code yW_highPart cW_highPart 16 (some .long) :: wG
abbrev cJM_min_II : ByteArray := prog_12_method_69_code
abbrev yJM_min_II : MethodName := ⟨R_JM, "min", "(II)I"⟩
abbrev wsJM_min_II : List Cond := .code yJM_min_II cJM_min_II 2 (some .int) :: wG
abbrev cS_encloses : ByteArray := prog_3_method_14_code
abbrev yS_encloses : MethodName := ⟨R_S, "encloses", "(JJ)Z"⟩
abbrev wsS_encloses : List Cond := .code yS_encloses cS_encloses 9 (some .boolean) :: wG
abbrev cL_nearer : ByteArray := method_10_code
abbrev yL_nearer : MethodName := ⟨R_L, "nearer", "(LShapeForms;IIJ[J)I"⟩
abbrev cF_nearer : ByteArray := prog_1_method_10_code
abbrev yF_nearer : MethodName := ⟨R_F, "nearer", "(IIJ)I"⟩
abbrev wsF_nearer : List Cond := .code yF_nearer cF_nearer 8 (some .int) :: wG
abbrev cP_compareCores : ByteArray := prog_2_method_2_code
abbrev yP_compareCores : MethodName := ⟨R_P, "compareCores", "(LShapeForms$Shape;LShapeForms$Shape;J)I"⟩
abbrev wsP_compareCores : List Cond := .code yP_compareCores cP_compareCores 4 (some .int) :: wG
abbrev cP_coresMeet : ByteArray := prog_2_method_4_code
abbrev yP_coresMeet : MethodName := ⟨R_P, "coresMeet", "(LShapeForms$Shape;LShapeForms$Shape;)Z"⟩
abbrev wsP_coresMeet : List Cond := .code yP_coresMeet cP_coresMeet 4 (some .boolean) :: wG
abbrev cS_enclosesCornerOf : ByteArray := prog_3_method_15_code
abbrev yS_enclosesCornerOf : MethodName := ⟨R_S, "enclosesCornerOf", "(LShapeForms$Shape;)Z"⟩
abbrev wsS_enclosesCornerOf : List Cond := .code yS_enclosesCornerOf cS_enclosesCornerOf 3 (some .boolean) :: wG
abbrev cP_compareCorners : ByteArray := prog_2_method_3_code
abbrev yP_compareCorners : MethodName := ⟨R_P, "compareCorners", "(LShapeForms$Shape;LShapeForms$Shape;J)I"⟩
abbrev wsP_compareCorners : List Cond := .code yP_compareCorners cP_compareCorners 6 (some .int) :: wG
abbrev cL_boxOf : ByteArray := method_11_code
abbrev yL_boxOf : MethodName := ⟨R_L, "boxOf", "(LShapeForms;II[J)I"⟩
abbrev cF_boxOf : ByteArray := prog_1_method_11_code
abbrev yF_boxOf : MethodName := ⟨R_F, "boxOf", "(II)J"⟩
abbrev wsF_boxOf : List Cond := .code yF_boxOf cF_boxOf 4 (some .long) :: wG
abbrev cS_outermost : ByteArray := prog_3_method_12_code
abbrev yS_outermost : MethodName := ⟨R_S, "outermost", "(I)J"⟩
abbrev wsS_outermost : List Cond := .code yS_outermost cS_outermost 8 (some .long) :: wG
abbrev cL_turn : ByteArray := method_12_code
abbrev yL_turn : MethodName := ⟨R_L, "turn", "(LShapeForms;IIZ[J)I"⟩
abbrev cF_turn : ByteArray := prog_1_method_12_code
abbrev yF_turn : MethodName := ⟨R_F, "turn", "(IIZ)I"⟩
abbrev wsF_turn : List Cond := .code yF_turn cF_turn 8 (some .int) :: wG
abbrev cS_mirrorCorners : ByteArray := prog_3_method_10_code
abbrev yS_mirrorCorners : MethodName := ⟨R_S, "mirrorCorners", "()V"⟩
abbrev wsS_mirrorCorners : List Cond := .code yS_mirrorCorners cS_mirrorCorners 2 none :: wG
abbrev cJM_floorMod_II : ByteArray := prog_12_method_50_code
abbrev yJM_floorMod_II : MethodName := ⟨R_JM, "floorMod", "(II)I"⟩
abbrev wsJM_floorMod_II : List Cond := .code yJM_floorMod_II cJM_floorMod_II 3 (some .int) :: wG
abbrev cS_turnCornersOnce : ByteArray := prog_3_method_11_code
abbrev yS_turnCornersOnce : MethodName := ⟨R_S, "turnCornersOnce", "()V"⟩
abbrev wsS_turnCornersOnce : List Cond := .code yS_turnCornersOnce cS_turnCornersOnce 4 none :: wG
abbrev cL_kind : ByteArray := method_13_code
abbrev yL_kind : MethodName := ⟨R_L, "kind", "(LShapeForms;I[J)I"⟩
abbrev cF_kind : ByteArray := prog_1_method_13_code
abbrev yF_kind : MethodName := ⟨R_F, "kind", "(I)I"⟩
abbrev wsF_kind : List Cond := .code yF_kind cF_kind 3 (some .int) :: wG
abbrev cL_same : ByteArray := method_14_code
abbrev yL_same : MethodName := ⟨R_L, "same", "(LShapeForms;II[J)I"⟩
abbrev cF_same : ByteArray := prog_1_method_14_code
abbrev yF_same : MethodName := ⟨R_F, "same", "(II)Z"⟩
abbrev wsF_same : List Cond := .code yF_same cF_same 5 (some .boolean) :: wG
abbrev cP_haveOneCore : ByteArray := prog_2_method_8_code
abbrev yP_haveOneCore : MethodName := ⟨R_P, "haveOneCore", "(LShapeForms$Shape;LShapeForms$Shape;)Z"⟩
abbrev wsP_haveOneCore : List Cond := .code yP_haveOneCore cP_haveOneCore 2 (some .boolean) :: wG
abbrev cP_coversAll : ByteArray := prog_2_method_9_code
abbrev yP_coversAll : MethodName := ⟨R_P, "coversAll", "(LShapeForms$Shape;LShapeForms$Shape;)Z"⟩
abbrev wsP_coversAll : List Cond := .code yP_coversAll cP_coversAll 3 (some .boolean) :: wG
abbrev cS_coversSide : ByteArray := prog_3_method_19_code
abbrev yS_coversSide : MethodName := ⟨R_S, "coversSide", "(LShapeForms$Shape;I)Z"⟩
abbrev wsS_coversSide : List Cond := .code yS_coversSide cS_coversSide 14 (some .boolean) :: wG
abbrev cS_coveredFrom : ByteArray := prog_3_method_20_code
abbrev yS_coveredFrom : MethodName := ⟨R_S, "coveredFrom", "(JZLShapeForms$Shape;I)J"⟩
abbrev wsS_coveredFrom : List Cond := .code yS_coveredFrom cS_coveredFrom 15 (some .long) :: wG
abbrev cM_init : ByteArray := prog_6_method_1_code
abbrev yM_init : MethodName := ⟨R_M, "<init>", "()V"⟩
abbrev wsM_init : List Cond := .code yM_init cM_init 1 none :: wG
abbrev cM_thrown : ByteArray := prog_6_method_2_code
abbrev yM_thrown : MethodName := ⟨R_M, "thrown", "()I"⟩
abbrev wsM_thrown : List Cond := .code yM_thrown cM_thrown 1 (some .int) :: wG
abbrev cM_circle : ByteArray := prog_6_method_10_code
abbrev yM_circle : MethodName := ⟨R_M, "circle", "(JJJ)I"⟩
abbrev wsM_circle : List Cond := .code yM_circle cM_circle 8 (some .int) :: wG
abbrev cM_isPlace : ByteArray := prog_6_method_3_code
abbrev yM_isPlace : MethodName := ⟨R_M, "isPlace", "(JJ)Z"⟩
abbrev wsM_isPlace : List Cond := .code yM_isPlace cM_isPlace 4 (some .boolean) :: wG
abbrev cM_isRadius : ByteArray := prog_6_method_4_code
abbrev yM_isRadius : MethodName := ⟨R_M, "isRadius", "(J)Z"⟩
abbrev wsM_isRadius : List Cond := .code yM_isRadius cM_isRadius 2 (some .boolean) :: wG
abbrev cM_begin : ByteArray := prog_6_method_8_code
abbrev yM_begin : MethodName := ⟨R_M, "begin", "(IJ)I"⟩
abbrev wsM_begin : List Cond := .code yM_begin cM_begin 4 (some .int) :: wG
abbrev cM_add : ByteArray := prog_6_method_9_code
abbrev yM_add : MethodName := ⟨R_M, "add", "(IJJ)V"⟩
abbrev wsM_add : List Cond := .code yM_add cM_add 6 none :: wG
abbrev cM_box : ByteArray := prog_6_method_11_code
abbrev yM_box : MethodName := ⟨R_M, "box", "(JJJJJ)I"⟩
abbrev wsM_box : List Cond := .code yM_box cM_box 13 (some .int) :: wG
abbrev cM_polygon : ByteArray := prog_6_method_12_code
abbrev yM_polygon : MethodName := ⟨R_M, "polygon", "()I"⟩
abbrev wsM_polygon : List Cond := .code yM_polygon cM_polygon 1 (some .int) :: wG
abbrev cM_trace : ByteArray := prog_6_method_13_code
abbrev yM_trace : MethodName := ⟨R_M, "trace", "(J)I"⟩
abbrev wsM_trace : List Cond := .code yM_trace cM_trace 3 (some .int) :: wG
abbrev cM_corner : ByteArray := prog_6_method_14_code
abbrev yM_corner : MethodName := ⟨R_M, "corner", "(IJJ)Z"⟩
abbrev wsM_corner : List Cond := .code yM_corner cM_corner 8 (some .boolean) :: wG
abbrev cM_isShape : ByteArray := prog_6_method_5_code
abbrev yM_isShape : MethodName := ⟨R_M, "isShape", "(I)Z"⟩
abbrev wsM_isShape : List Cond := .code yM_isShape cM_isShape 2 (some .boolean) :: wG
abbrev cM_closed : ByteArray := prog_6_method_6_code
abbrev yM_closed : MethodName := ⟨R_M, "closed", "(I)I"⟩
abbrev wsM_closed : List Cond := .code yM_closed cM_closed 2 (some .int) :: wG
abbrev cM_ring : ByteArray := prog_6_method_28_code
abbrev yM_ring : MethodName := ⟨R_M, "ring", "(I)Z"⟩
abbrev wsM_ring : List Cond := .code yM_ring cM_ring 6 (some .boolean) :: wG
abbrev cM_isEmpty : ByteArray := prog_6_method_24_code
abbrev yM_isEmpty : MethodName := ⟨R_M, "isEmpty", "(III)Z"⟩
abbrev wsM_isEmpty : List Cond := .code yM_isEmpty cM_isEmpty 7 (some .boolean) :: wG
abbrev cM_x : ByteArray := prog_6_method_21_code
abbrev yM_x : MethodName := ⟨R_M, "x", "(II)J"⟩
abbrev wsM_x : List Cond := .code yM_x cM_x 3 (some .long) :: wG
abbrev cM_y : ByteArray := prog_6_method_22_code
abbrev yM_y : MethodName := ⟨R_M, "y", "(II)J"⟩
abbrev wsM_y : List Cond := .code yM_y cM_y 3 (some .long) :: wG
abbrev cM_turnOf : ByteArray := prog_6_method_17_code
abbrev yM_turnOf : MethodName := ⟨R_M, "turnOf", "(JJJJJJ)I"⟩
abbrev wsM_turnOf : List Cond := .code yM_turnOf cM_turnOf 12 (some .int) :: wG
abbrev cM_cross : ByteArray := prog_6_method_15_code
abbrev yM_cross : MethodName := ⟨R_M, "cross", "(JJJJ)J"⟩
abbrev wsM_cross : List Cond := .code yM_cross cM_cross 8 (some .long) :: wG
abbrev cM_sign : ByteArray := prog_6_method_16_code
abbrev yM_sign : MethodName := ⟨R_M, "sign", "(J)I"⟩
abbrev wsM_sign : List Cond := .code yM_sign cM_sign 2 (some .int) :: wG
abbrev cM_isCrossing : ByteArray := prog_6_method_27_code
abbrev yM_isCrossing : MethodName := ⟨R_M, "isCrossing", "(III)Z"⟩
abbrev wsM_isCrossing : List Cond := .code yM_isCrossing cM_isCrossing 9 (some .boolean) :: wG
abbrev cM_foldsBack : ByteArray := prog_6_method_25_code
abbrev yM_foldsBack : MethodName := ⟨R_M, "foldsBack", "(IIII)Z"⟩
abbrev wsM_foldsBack : List Cond := .code yM_foldsBack cM_foldsBack 10 (some .boolean) :: wG
abbrev cM_behind : ByteArray := prog_6_method_23_code
abbrev yM_behind : MethodName := ⟨R_M, "behind", "(III)I"⟩
abbrev wsM_behind : List Cond := .code yM_behind cM_behind 3 (some .int) :: wG
abbrev cM_isOn : ByteArray := prog_6_method_19_code
abbrev yM_isOn : MethodName := ⟨R_M, "isOn", "(JJJJJJ)Z"⟩
abbrev wsM_isOn : List Cond := .code yM_isOn cM_isOn 12 (some .boolean) :: wG
abbrev cM_between : ByteArray := prog_6_method_18_code
abbrev yM_between : MethodName := ⟨R_M, "between", "(JJJ)Z"⟩
abbrev wsM_between : List Cond := .code yM_between cM_between 6 (some .boolean) :: wG
abbrev cM_sidesMeet : ByteArray := prog_6_method_26_code
abbrev yM_sidesMeet : MethodName := ⟨R_M, "sidesMeet", "(IIIIIII)Z"⟩
abbrev wsM_sidesMeet : List Cond := .code yM_sidesMeet cM_sidesMeet 10 (some .boolean) :: wG
abbrev cM_meet : ByteArray := prog_6_method_20_code
abbrev yM_meet : MethodName := ⟨R_M, "meet", "(JJJJJJJJ)Z"⟩
abbrev wsM_meet : List Cond := .code yM_meet cM_meet 18 (some .boolean) :: wG
abbrev cM_nearer : ByteArray := prog_6_method_39_code
abbrev yM_nearer : MethodName := ⟨R_M, "nearer", "(IIJ)I"⟩
abbrev wsM_nearer : List Cond := .code yM_nearer cM_nearer 6 (some .int) :: wG
abbrev cM_isWhole : ByteArray := prog_6_method_7_code
abbrev yM_isWhole : MethodName := ⟨R_M, "isWhole", "(I)Z"⟩
abbrev wsM_isWhole : List Cond := .code yM_isWhole cM_isWhole 2 (some .boolean) :: wG
abbrev cM_coresApart : ByteArray := prog_6_method_38_code
abbrev yM_coresApart : MethodName := ⟨R_M, "coresApart", "(IIJ)I"⟩
abbrev wsM_coresApart : List Cond := .code yM_coresApart cM_coresApart 9 (some .int) :: wG
abbrev cM_pieces : ByteArray := prog_6_method_30_code
abbrev yM_pieces : MethodName := ⟨R_M, "pieces", "(II)V"⟩
abbrev wsM_pieces : List Cond := .code yM_pieces cM_pieces 7 none :: wG
abbrev cM_piece : ByteArray := prog_6_method_29_code
abbrev yM_piece : MethodName := ⟨R_M, "piece", "(IJJJJ)V"⟩
abbrev wsM_piece : List Cond := .code yM_piece cM_piece 11 none :: wG
abbrev cM_haveCommon : ByteArray := prog_6_method_37_code
abbrev yM_haveCommon : MethodName := ⟨R_M, "haveCommon", "(II)Z"⟩
abbrev wsM_haveCommon : List Cond := .code yM_haveCommon cM_haveCommon 5 (some .boolean) :: wG
abbrev cM_isInCore : ByteArray := prog_6_method_32_code
abbrev yM_isInCore : MethodName := ⟨R_M, "isInCore", "(IIJJ)Z"⟩
abbrev wsM_isInCore : List Cond := .code yM_isInCore cM_isInCore 10 (some .boolean) :: wG
abbrev cM_hasArea : ByteArray := prog_6_method_31_code
abbrev yM_hasArea : MethodName := ⟨R_M, "hasArea", "(I)Z"⟩
abbrev wsM_hasArea : List Cond := .code yM_hasArea cM_hasArea 2 (some .boolean) :: wG
abbrev cM_apart : ByteArray := prog_6_method_36_code
abbrev yM_apart : MethodName := ⟨R_M, "apart", "(IIJ)I"⟩
abbrev wsM_apart : List Cond := .code yM_apart cM_apart 11 (some .int) :: wG
abbrev cM_farther : ByteArray := prog_6_method_35_code
abbrev yM_farther : MethodName := ⟨R_M, "farther", "(JJJJJJJ)I"⟩
abbrev wsM_farther : List Cond := .code yM_farther cM_farther 27 (some .int) :: wG
abbrev cM_compareProducts : ByteArray := prog_6_method_34_code
abbrev yM_compareProducts : MethodName := ⟨R_M, "compareProducts", "(JJJJ)I"⟩
abbrev wsM_compareProducts : List Cond := .code yM_compareProducts cM_compareProducts 10 (some .int) :: wG
abbrev cM_multiply : ByteArray := prog_6_method_33_code
abbrev yM_multiply : MethodName := ⟨R_M, "multiply", "(IJJ)V"⟩
abbrev wsM_multiply : List Cond := .code yM_multiply cM_multiply 24 none :: wG
abbrev cM_inside : ByteArray := prog_6_method_40_code
abbrev yM_inside : MethodName := ⟨R_M, "inside", "(IJJ)Z"⟩
abbrev wsM_inside : List Cond := .code yM_inside cM_inside 7 (some .boolean) :: wG
abbrev cM_grow : ByteArray := prog_6_method_42_code
abbrev yM_grow : MethodName := ⟨R_M, "grow", "(IJ)I"⟩
abbrev wsM_grow : List Cond := .code yM_grow cM_grow 4 (some .int) :: wG
abbrev cM_copy : ByteArray := prog_6_method_41_code
abbrev yM_copy : MethodName := ⟨R_M, "copy", "(IJ)I"⟩
abbrev wsM_copy : List Cond := .code yM_copy cM_copy 6 (some .int) :: wG
abbrev cM_turn : ByteArray := prog_6_method_43_code
abbrev yM_turn : MethodName := ⟨R_M, "turn", "(IIZ)I"⟩
abbrev wsM_turn : List Cond := .code yM_turn cM_turn 10 (some .int) :: wG
abbrev cM_order : ByteArray := prog_6_method_44_code
abbrev yM_order : MethodName := ⟨R_M, "order", "(I)V"⟩
abbrev wsM_order : List Cond := .code yM_order cM_order 10 none :: wG
abbrev cM_boxOf : ByteArray := prog_6_method_45_code
abbrev yM_boxOf : MethodName := ⟨R_M, "boxOf", "(II)J"⟩
abbrev wsM_boxOf : List Cond := .code yM_boxOf cM_boxOf 10 (some .long) :: wG
abbrev cM_kind : ByteArray := prog_6_method_46_code
abbrev yM_kind : MethodName := ⟨R_M, "kind", "(I)I"⟩
abbrev wsM_kind : List Cond := .code yM_kind cM_kind 2 (some .int) :: wG
abbrev cM_same : ByteArray := prog_6_method_51_code
abbrev yM_same : MethodName := ⟨R_M, "same", "(II)Z"⟩
abbrev wsM_same : List Cond := .code yM_same cM_same 3 (some .boolean) :: wG
abbrev cM_covers : ByteArray := prog_6_method_50_code
abbrev yM_covers : MethodName := ⟨R_M, "covers", "(II)Z"⟩
abbrev wsM_covers : List Cond := .code yM_covers cM_covers 5 (some .boolean) :: wG
abbrev cM_isCovered : ByteArray := prog_6_method_49_code
abbrev yM_isCovered : MethodName := ⟨R_M, "isCovered", "(II)Z"⟩
abbrev wsM_isCovered : List Cond := .code yM_isCovered cM_isCovered 14 (some .boolean) :: wG
abbrev cM_isAhead : ByteArray := prog_6_method_48_code
abbrev yM_isAhead : MethodName := ⟨R_M, "isAhead", "(IJJJJ)Z"⟩
abbrev wsM_isAhead : List Cond := .code yM_isAhead cM_isAhead 10 (some .boolean) :: wG
abbrev cM_isLine : ByteArray := prog_6_method_47_code
abbrev yM_isLine : MethodName := ⟨R_M, "isLine", "(II[J[J[J[J)Z"⟩
abbrev wsM_isLine : List Cond := .code yM_isLine cM_isLine 6 (some .boolean) :: wG
theorem w_0 : (Jvm.Cond.initialized "ShapeFormsLaw") ∈ wG := mG 32 (by decide +kernel) (by decide +kernel)
theorem w_1 : (Jvm.Cond.initialized "ShapeForms") ∈ wG := mG 33 (by decide +kernel) (by decide +kernel)
theorem w_2 : (Jvm.Cond.initialized "ShapeFormsModel") ∈ wG := mG 34 (by decide +kernel) (by decide +kernel)
theorem w_3 : (Jvm.Cond.initialized "java/lang/Throwable") ∈ wG := mG 35 (by decide +kernel) (by decide +kernel)
theorem w_4 : (Jvm.Cond.initialized "java/lang/Exception") ∈ wG := mG 36 (by decide +kernel) (by decide +kernel)
theorem w_5 : (Jvm.Cond.initialized "java/lang/RuntimeException") ∈ wG := mG 37 (by decide +kernel) (by decide +kernel)
theorem w_6 : (Jvm.Cond.initialized "java/lang/IllegalArgumentException") ∈ wG := mG 38 (by decide +kernel) (by decide +kernel)
theorem w_7 : (Jvm.Cond.initialized "ShapeForms$Shape") ∈ wG := mG 39 (by decide +kernel) (by decide +kernel)
theorem w_8 : (Jvm.Cond.initialized "java/lang/IndexOutOfBoundsException") ∈ wG := mG 40 (by decide +kernel) (by decide +kernel)
theorem w_9 : (Jvm.Cond.initialized "java/lang/IllegalStateException") ∈ wG := mG 41 (by decide +kernel) (by decide +kernel)
theorem w_10 : (Jvm.Cond.initialized "ShapeForms$Pair") ∈ wG := mG 42 (by decide +kernel) (by decide +kernel)
theorem w_11 : (Jvm.Cond.initialized "java/lang/Math") ∈ wG := mG 43 (by decide +kernel) (by decide +kernel)
theorem w_12 : (Jvm.Cond.initialized "java/lang/Long") ∈ wG := mG 44 (by decide +kernel) (by decide +kernel)
theorem w_13 : (Jvm.Cond.initialized "ShapeForms$Wide") ∈ wG := mG 45 (by decide +kernel) (by decide +kernel)
theorem w_14 : (Jvm.Cond.classLink "ShapeFormsLaw" (8 : Nat) "ShapeForms") ∈ wG := mG 46 (by decide +kernel) (by decide +kernel)
theorem w_15 : (Jvm.Cond.instantiable "ShapeForms" (2 : Nat)) ∈ wG := mG 47 (by decide +kernel) (by decide +kernel)
theorem w_16 : (Jvm.Cond.methodLink "ShapeFormsLaw" (62 : Nat) ({ cls := "ShapeForms", name := "<init>", desc := "()V" } : Jvm.MethodName)) ∈ wG := mG 48 (by decide +kernel) (by decide +kernel)
theorem w_17 : (Jvm.Cond.instanceMethod ({ cls := "ShapeForms", name := "<init>", desc := "()V" } : Jvm.MethodName)) ∈ wG := mG 49 (by decide +kernel) (by decide +kernel)
theorem w_18 : (Jvm.Cond.code ({ cls := "ShapeForms", name := "<init>", desc := "()V" } : Jvm.MethodName) prog_1_method_1_code (1 : Nat) (Option.none : Option Jvm.ClassFile.FieldType)) ∈ wG := mG 50 (by decide +kernel) (by decide +kernel)
theorem w_19 : (Jvm.Cond.methodLink "ShapeForms" (1 : Nat) ({ cls := "java/lang/Object", name := "<init>", desc := "()V" } : Jvm.MethodName)) ∈ wG := mG 51 (by decide +kernel) (by decide +kernel)
theorem w_20 : (Jvm.Cond.instanceMethod ({ cls := "java/lang/Object", name := "<init>", desc := "()V" } : Jvm.MethodName)) ∈ wG := mG 52 (by decide +kernel) (by decide +kernel)
theorem w_21 : (Jvm.Cond.code ({ cls := "java/lang/Object", name := "<init>", desc := "()V" } : Jvm.MethodName) object_method_1_code (1 : Nat) (Option.none : Option Jvm.ClassFile.FieldType)) ∈ wG := mG 53 (by decide +kernel) (by decide +kernel)
theorem w_22 : (Jvm.Cond.classLink "ShapeForms" (9 : Nat) "ShapeForms$Shape") ∈ wG := mG 54 (by decide +kernel) (by decide +kernel)
theorem w_24 : (Jvm.Cond.fieldLink "ShapeForms" (11 : Nat) "ShapeForms" "shapes" "[LShapeForms$Shape;") ∈ wG := mG 56 (by decide +kernel) (by decide +kernel)
theorem w_25 : (Jvm.Cond.fieldLink "ShapeForms" (15 : Nat) "ShapeForms" "made" "I") ∈ wG := mG 57 (by decide +kernel) (by decide +kernel)
theorem w_26 : (Jvm.Cond.laysFinal "ShapeForms" "ShapeForms" "shapes" "[LShapeForms$Shape;") ∈ wG := mG 58 (by decide +kernel) (by decide +kernel)
theorem w_27 : (Jvm.Cond.soleField "ShapeForms" "shapes") ∈ wG := mG 59 (by decide +kernel) (by decide +kernel)
theorem w_28 : (Jvm.Cond.lays "ShapeForms" "ShapeForms" "made" "I") ∈ wG := mG 60 (by decide +kernel) (by decide +kernel)
theorem w_29 : (Jvm.Cond.soleField "ShapeForms" "made") ∈ wG := mG 61 (by decide +kernel) (by decide +kernel)
theorem w_30 : (Jvm.Cond.superclass "ShapeForms" "java/lang/Object") ∈ wG := mG 62 (by decide +kernel) (by decide +kernel)
theorem w_31 : (Jvm.Cond.methodLink "ShapeFormsLaw" (82 : Nat) ({ cls := "ShapeForms", name := "polygon", desc := "()I" } : Jvm.MethodName)) ∈ wG := mG 63 (by decide +kernel) (by decide +kernel)
theorem w_32 : (Jvm.Cond.instanceMethod ({ cls := "ShapeForms", name := "polygon", desc := "()I" } : Jvm.MethodName)) ∈ wG := mG 64 (by decide +kernel) (by decide +kernel)
theorem w_33 : (Jvm.Cond.selects "ShapeForms" ({ cls := "ShapeForms", name := "polygon", desc := "()I" } : Jvm.MethodName) ({ cls := "ShapeForms", name := "polygon", desc := "()I" } : Jvm.MethodName)) ∈ wG := mG 65 (by decide +kernel) (by decide +kernel)
theorem w_34 : (Jvm.Cond.code ({ cls := "ShapeForms", name := "polygon", desc := "()I" } : Jvm.MethodName) prog_1_method_4_code (1 : Nat) (Option.some Jvm.ClassFile.FieldType.int)) ∈ wG := mG 66 (by decide +kernel) (by decide +kernel)
theorem w_35 : (Jvm.Cond.instantiable "ShapeForms$Shape" (8 : Nat)) ∈ wG := mG 67 (by decide +kernel) (by decide +kernel)
theorem w_36 : (Jvm.Cond.methodLink "ShapeForms" (27 : Nat) ({ cls := "ShapeForms$Shape", name := "<init>", desc := "(IZJ)V" } : Jvm.MethodName)) ∈ wG := mG 68 (by decide +kernel) (by decide +kernel)
theorem w_37 : (Jvm.Cond.instanceMethod ({ cls := "ShapeForms$Shape", name := "<init>", desc := "(IZJ)V" } : Jvm.MethodName)) ∈ wG := mG 69 (by decide +kernel) (by decide +kernel)
theorem w_38 : (Jvm.Cond.code ({ cls := "ShapeForms$Shape", name := "<init>", desc := "(IZJ)V" } : Jvm.MethodName) prog_3_method_1_code (5 : Nat) (Option.none : Option Jvm.ClassFile.FieldType)) ∈ wG := mG 70 (by decide +kernel) (by decide +kernel)
theorem w_39 : (Jvm.Cond.methodLink "ShapeForms$Shape" (3 : Nat) ({ cls := "java/lang/Object", name := "<init>", desc := "()V" } : Jvm.MethodName)) ∈ wG := mG 71 (by decide +kernel) (by decide +kernel)
theorem w_40 : (Jvm.Cond.fieldLink "ShapeForms$Shape" (9 : Nat) "ShapeForms$Shape" "form" "I") ∈ wG := mG 72 (by decide +kernel) (by decide +kernel)
theorem w_41 : (Jvm.Cond.fieldLink "ShapeForms" (132 : Nat) "ShapeForms$Shape" "form" "I") ∈ wG := mG 73 (by decide +kernel) (by decide +kernel)
theorem w_42 : (Jvm.Cond.fieldLink "ShapeForms$Shape" (15 : Nat) "ShapeForms$Shape" "filled" "Z") ∈ wG := mG 74 (by decide +kernel) (by decide +kernel)
theorem w_43 : (Jvm.Cond.fieldLink "ShapeForms$Pair" (75 : Nat) "ShapeForms$Shape" "filled" "Z") ∈ wG := mG 75 (by decide +kernel) (by decide +kernel)
theorem w_44 : (Jvm.Cond.fieldLink "ShapeForms$Shape" (19 : Nat) "ShapeForms$Shape" "radius" "J") ∈ wG := mG 76 (by decide +kernel) (by decide +kernel)
theorem w_45 : (Jvm.Cond.fieldLink "ShapeForms" (86 : Nat) "ShapeForms$Shape" "radius" "J") ∈ wG := mG 77 (by decide +kernel) (by decide +kernel)
theorem w_46 : (Jvm.Cond.fieldLink "ShapeForms$Shape" (23 : Nat) "ShapeForms$Shape" "xs" "[J") ∈ wG := mG 78 (by decide +kernel) (by decide +kernel)
theorem w_47 : (Jvm.Cond.fieldLink "ShapeForms$Pair" (35 : Nat) "ShapeForms$Shape" "xs" "[J") ∈ wG := mG 79 (by decide +kernel) (by decide +kernel)
theorem w_48 : (Jvm.Cond.fieldLink "ShapeForms$Shape" (27 : Nat) "ShapeForms$Shape" "ys" "[J") ∈ wG := mG 80 (by decide +kernel) (by decide +kernel)
theorem w_49 : (Jvm.Cond.fieldLink "ShapeForms$Pair" (39 : Nat) "ShapeForms$Shape" "ys" "[J") ∈ wG := mG 81 (by decide +kernel) (by decide +kernel)
theorem w_50 : (Jvm.Cond.fieldLink "ShapeForms$Shape" (30 : Nat) "ShapeForms$Shape" "ends" "[I") ∈ wG := mG 82 (by decide +kernel) (by decide +kernel)
theorem w_51 : (Jvm.Cond.fieldLink "ShapeForms$Pair" (54 : Nat) "ShapeForms$Shape" "ends" "[I") ∈ wG := mG 83 (by decide +kernel) (by decide +kernel)
theorem w_52 : (Jvm.Cond.fieldLink "ShapeForms$Shape" (34 : Nat) "ShapeForms$Shape" "count" "I") ∈ wG := mG 84 (by decide +kernel) (by decide +kernel)
theorem w_53 : (Jvm.Cond.fieldLink "ShapeForms$Pair" (29 : Nat) "ShapeForms$Shape" "count" "I") ∈ wG := mG 85 (by decide +kernel) (by decide +kernel)
theorem w_54 : (Jvm.Cond.fieldLink "ShapeForms$Shape" (37 : Nat) "ShapeForms$Shape" "open" "I") ∈ wG := mG 86 (by decide +kernel) (by decide +kernel)
theorem w_55 : (Jvm.Cond.laysFinal "ShapeForms$Shape" "ShapeForms$Shape" "form" "I") ∈ wG := mG 87 (by decide +kernel) (by decide +kernel)
theorem w_56 : (Jvm.Cond.soleField "ShapeForms$Shape" "form") ∈ wG := mG 88 (by decide +kernel) (by decide +kernel)
theorem w_57 : (Jvm.Cond.laysFinal "ShapeForms$Shape" "ShapeForms$Shape" "filled" "Z") ∈ wG := mG 89 (by decide +kernel) (by decide +kernel)
theorem w_58 : (Jvm.Cond.soleField "ShapeForms$Shape" "filled") ∈ wG := mG 90 (by decide +kernel) (by decide +kernel)
theorem w_59 : (Jvm.Cond.laysFinal "ShapeForms$Shape" "ShapeForms$Shape" "radius" "J") ∈ wG := mG 91 (by decide +kernel) (by decide +kernel)
theorem w_60 : (Jvm.Cond.soleField "ShapeForms$Shape" "radius") ∈ wG := mG 92 (by decide +kernel) (by decide +kernel)
theorem w_61 : (Jvm.Cond.laysFinal "ShapeForms$Shape" "ShapeForms$Shape" "xs" "[J") ∈ wG := mG 93 (by decide +kernel) (by decide +kernel)
theorem w_62 : (Jvm.Cond.soleField "ShapeForms$Shape" "xs") ∈ wG := mG 94 (by decide +kernel) (by decide +kernel)
theorem w_63 : (Jvm.Cond.laysFinal "ShapeForms$Shape" "ShapeForms$Shape" "ys" "[J") ∈ wG := mG 95 (by decide +kernel) (by decide +kernel)
theorem w_64 : (Jvm.Cond.soleField "ShapeForms$Shape" "ys") ∈ wG := mG 96 (by decide +kernel) (by decide +kernel)
theorem w_65 : (Jvm.Cond.laysFinal "ShapeForms$Shape" "ShapeForms$Shape" "ends" "[I") ∈ wG := mG 97 (by decide +kernel) (by decide +kernel)
theorem w_66 : (Jvm.Cond.soleField "ShapeForms$Shape" "ends") ∈ wG := mG 98 (by decide +kernel) (by decide +kernel)
theorem w_67 : (Jvm.Cond.lays "ShapeForms$Shape" "ShapeForms$Shape" "count" "I") ∈ wG := mG 99 (by decide +kernel) (by decide +kernel)
theorem w_68 : (Jvm.Cond.soleField "ShapeForms$Shape" "count") ∈ wG := mG 100 (by decide +kernel) (by decide +kernel)
theorem w_69 : (Jvm.Cond.lays "ShapeForms$Shape" "ShapeForms$Shape" "open" "I") ∈ wG := mG 101 (by decide +kernel) (by decide +kernel)
theorem w_70 : (Jvm.Cond.soleField "ShapeForms$Shape" "open") ∈ wG := mG 102 (by decide +kernel) (by decide +kernel)
theorem w_71 : (Jvm.Cond.superclass "ShapeForms$Shape" "java/lang/Object") ∈ wG := mG 103 (by decide +kernel) (by decide +kernel)
theorem w_72 : (Jvm.Cond.arrayClass Jvm.ClassFile.FieldType.long) ∈ wG := mG 104 (by decide +kernel) (by decide +kernel)
theorem w_73 : (Jvm.Cond.arrayClass Jvm.ClassFile.FieldType.int) ∈ wG := mG 105 (by decide +kernel) (by decide +kernel)
theorem w_74 : (Jvm.Cond.methodLink "ShapeForms" (34 : Nat) ({ cls := "ShapeForms", name := "keep", desc := "(LShapeForms$Shape;)I" } : Jvm.MethodName)) ∈ wG := mG 106 (by decide +kernel) (by decide +kernel)
theorem w_76 : (Jvm.Cond.instanceMethod ({ cls := "ShapeForms", name := "keep", desc := "(LShapeForms$Shape;)I" } : Jvm.MethodName)) ∈ wG := mG 108 (by decide +kernel) (by decide +kernel)
theorem w_77 : (Jvm.Cond.code ({ cls := "ShapeForms", name := "keep", desc := "(LShapeForms$Shape;)I" } : Jvm.MethodName) prog_1_method_21_code (2 : Nat) (Option.some Jvm.ClassFile.FieldType.int)) ∈ wG := mG 109 (by decide +kernel) (by decide +kernel)
theorem w_78 : (Jvm.Cond.methodLink "ShapeFormsLaw" (68 : Nat) ({ cls := "ShapeFormsLaw", name := "circle", desc := "(LShapeForms;JJJ[J)I" } : Jvm.MethodName)) ∈ wG := mG 110 (by decide +kernel) (by decide +kernel)
theorem w_79 : (Jvm.Cond.static ({ cls := "ShapeFormsLaw", name := "circle", desc := "(LShapeForms;JJJ[J)I" } : Jvm.MethodName)) ∈ wG := mG 111 (by decide +kernel) (by decide +kernel)
theorem w_81 : (Jvm.Cond.classLink "ShapeFormsLaw" (13 : Nat) "java/lang/IllegalArgumentException") ∈ wG := mG 113 (by decide +kernel) (by decide +kernel)
theorem w_82 : (Jvm.Cond.methodLink "ShapeFormsLaw" (7 : Nat) ({ cls := "ShapeForms", name := "circle", desc := "(JJJ)I" } : Jvm.MethodName)) ∈ wG := mG 114 (by decide +kernel) (by decide +kernel)
theorem w_83 : (Jvm.Cond.instanceMethod ({ cls := "ShapeForms", name := "circle", desc := "(JJJ)I" } : Jvm.MethodName)) ∈ wG := mG 115 (by decide +kernel) (by decide +kernel)
theorem w_84 : (Jvm.Cond.selects "ShapeForms" ({ cls := "ShapeForms", name := "circle", desc := "(JJJ)I" } : Jvm.MethodName) ({ cls := "ShapeForms", name := "circle", desc := "(JJJ)I" } : Jvm.MethodName)) ∈ wG := mG 116 (by decide +kernel) (by decide +kernel)
theorem w_85 : (Jvm.Cond.code ({ cls := "ShapeForms", name := "circle", desc := "(JJJ)I" } : Jvm.MethodName) prog_1_method_2_code (8 : Nat) (Option.some Jvm.ClassFile.FieldType.int)) ∈ wG := mG 117 (by decide +kernel) (by decide +kernel)
theorem w_86 : (Jvm.Cond.methodLink "ShapeForms" (19 : Nat) ({ cls := "ShapeForms", name := "needPlace", desc := "(JJ)V" } : Jvm.MethodName)) ∈ wG := mG 118 (by decide +kernel) (by decide +kernel)
theorem w_87 : (Jvm.Cond.static ({ cls := "ShapeForms", name := "needPlace", desc := "(JJ)V" } : Jvm.MethodName)) ∈ wG := mG 119 (by decide +kernel) (by decide +kernel)
theorem w_88 : (Jvm.Cond.code ({ cls := "ShapeForms", name := "needPlace", desc := "(JJ)V" } : Jvm.MethodName) prog_1_method_17_code (4 : Nat) (Option.none : Option Jvm.ClassFile.FieldType)) ∈ wG := mG 120 (by decide +kernel) (by decide +kernel)
theorem w_89 : (Jvm.Cond.methodLink "ShapeForms" (143 : Nat) ({ cls := "ShapeForms", name := "isPlace", desc := "(JJ)Z" } : Jvm.MethodName)) ∈ wG := mG 121 (by decide +kernel) (by decide +kernel)
theorem w_90 : (Jvm.Cond.static ({ cls := "ShapeForms", name := "isPlace", desc := "(JJ)Z" } : Jvm.MethodName)) ∈ wG := mG 122 (by decide +kernel) (by decide +kernel)
theorem w_91 : (Jvm.Cond.code ({ cls := "ShapeForms", name := "isPlace", desc := "(JJ)Z" } : Jvm.MethodName) prog_1_method_15_code (4 : Nat) (Option.some Jvm.ClassFile.FieldType.boolean)) ∈ wG := mG 123 (by decide +kernel) (by decide +kernel)
theorem w_92 : (Jvm.Cond.constantLong "ShapeForms" (139 : Nat) (-500000000 : Int64)) ∈ wG := mG 124 (by decide +kernel) (by decide +kernel)
theorem w_93 : (Jvm.Cond.constantLong "ShapeForms" (141 : Nat) (500000000 : Int64)) ∈ wG := mG 125 (by decide +kernel) (by decide +kernel)
theorem w_94 : (Jvm.Cond.classLink "ShapeForms" (40 : Nat) "java/lang/IllegalArgumentException") ∈ wG := mG 126 (by decide +kernel) (by decide +kernel)
theorem w_95 : (Jvm.Cond.instantiable "java/lang/IllegalArgumentException" (6 : Nat)) ∈ wG := mG 127 (by decide +kernel) (by decide +kernel)
theorem w_103 : (Jvm.Cond.selects "java/lang/IllegalArgumentException" ({ cls := "java/lang/Throwable", name := "fillInStackTrace", desc := "(I)Ljava/lang/Throwable;" } : Jvm.MethodName) ({ cls := "java/lang/Throwable", name := "fillInStackTrace", desc := "(I)Ljava/lang/Throwable;" } : Jvm.MethodName)) ∈ wG := mG 135 (by decide +kernel) (by decide +kernel)
theorem w_104 : (Jvm.Cond.selects "java/lang/IllegalArgumentException" ({ cls := "java/lang/Throwable", name := "fillInStackTrace", desc := "()Ljava/lang/Throwable;" } : Jvm.MethodName) ({ cls := "java/lang/Throwable", name := "fillInStackTrace", desc := "()Ljava/lang/Throwable;" } : Jvm.MethodName)) ∈ wG := mG 136 (by decide +kernel) (by decide +kernel)
theorem w_105 : (Jvm.Cond.lays "java/lang/IllegalArgumentException" "java/lang/Throwable" "cause" "Ljava/lang/Throwable;") ∈ wG := mG 137 (by decide +kernel) (by decide +kernel)
theorem w_106 : (Jvm.Cond.lays "java/lang/Throwable" "java/lang/Throwable" "cause" "Ljava/lang/Throwable;") ∈ wG := mG 138 (by decide +kernel) (by decide +kernel)
theorem w_107 : (Jvm.Cond.lays "java/lang/IllegalArgumentException" "java/lang/Throwable" "stackTrace" "[Ljava/lang/StackTraceElement;") ∈ wG := mG 139 (by decide +kernel) (by decide +kernel)
theorem w_108 : (Jvm.Cond.lays "java/lang/Throwable" "java/lang/Throwable" "stackTrace" "[Ljava/lang/StackTraceElement;") ∈ wG := mG 140 (by decide +kernel) (by decide +kernel)
theorem w_109 : (Jvm.Cond.lays "java/lang/IllegalArgumentException" "java/lang/Throwable" "suppressedExceptions" "Ljava/util/List;") ∈ wG := mG 141 (by decide +kernel) (by decide +kernel)
theorem w_110 : (Jvm.Cond.lays "java/lang/Throwable" "java/lang/Throwable" "suppressedExceptions" "Ljava/util/List;") ∈ wG := mG 142 (by decide +kernel) (by decide +kernel)
theorem w_111 : (Jvm.Cond.lays "java/lang/IllegalArgumentException" "java/lang/Throwable" "detailMessage" "Ljava/lang/String;") ∈ wG := mG 143 (by decide +kernel) (by decide +kernel)
theorem w_112 : (Jvm.Cond.lays "java/lang/Throwable" "java/lang/Throwable" "detailMessage" "Ljava/lang/String;") ∈ wG := mG 144 (by decide +kernel) (by decide +kernel)
theorem w_113 : (Jvm.Cond.lays "java/lang/IllegalArgumentException" "java/lang/Throwable" "backtrace" "Ljava/lang/Object;") ∈ wG := mG 145 (by decide +kernel) (by decide +kernel)
theorem w_114 : (Jvm.Cond.lays "java/lang/Throwable" "java/lang/Throwable" "backtrace" "Ljava/lang/Object;") ∈ wG := mG 146 (by decide +kernel) (by decide +kernel)
theorem w_115 : (Jvm.Cond.fieldLink "java/lang/Throwable" (198 : Nat) "java/lang/Throwable" "backtrace" "Ljava/lang/Object;") ∈ wG := mG 147 (by decide +kernel) (by decide +kernel)
theorem w_116 : (Jvm.Cond.superclass "java/lang/Throwable" "java/lang/Object") ∈ wG := mG 148 (by decide +kernel) (by decide +kernel)
theorem w_117 : (Jvm.Cond.instanceMethod ({ cls := "java/lang/Throwable", name := "<init>", desc := "()V" } : Jvm.MethodName)) ∈ wG := mG 149 (by decide +kernel) (by decide +kernel)
theorem w_118 : (Jvm.Cond.code ({ cls := "java/lang/Throwable", name := "<init>", desc := "()V" } : Jvm.MethodName) prog_15_method_1_code (1 : Nat) (Option.none : Option Jvm.ClassFile.FieldType)) ∈ wG := mG 150 (by decide +kernel) (by decide +kernel)
theorem w_119 : (Jvm.Cond.methodLink "java/lang/Throwable" (1 : Nat) ({ cls := "java/lang/Object", name := "<init>", desc := "()V" } : Jvm.MethodName)) ∈ wG := mG 151 (by decide +kernel) (by decide +kernel)
theorem w_120 : (Jvm.Cond.fieldLink "java/lang/Throwable" (13 : Nat) "java/lang/Throwable" "UNASSIGNED_STACK" "[Ljava/lang/StackTraceElement;") ∈ wG := mG 152 (by decide +kernel) (by decide +kernel)
theorem w_122 : (Jvm.Cond.fieldLink "java/lang/Throwable" (20 : Nat) "java/lang/Throwable" "SUPPRESSED_SENTINEL" "Ljava/util/List;") ∈ wG := mG 154 (by decide +kernel) (by decide +kernel)
theorem w_124 : (Jvm.Cond.methodLink "java/lang/Throwable" (27 : Nat) ({ cls := "java/lang/Throwable", name := "fillInStackTrace", desc := "()Ljava/lang/Throwable;" } : Jvm.MethodName)) ∈ wG := mG 156 (by decide +kernel) (by decide +kernel)
theorem w_125 : (Jvm.Cond.instanceMethod ({ cls := "java/lang/Throwable", name := "fillInStackTrace", desc := "()Ljava/lang/Throwable;" } : Jvm.MethodName)) ∈ wG := mG 157 (by decide +kernel) (by decide +kernel)
theorem w_126 : (Jvm.Cond.sameMethod "java/lang/Throwable" "java/lang/Throwable" "fillInStackTrace" "()Ljava/lang/Throwable;") ∈ wG := mG 158 (by decide +kernel) (by decide +kernel)
theorem w_127 : (Jvm.Cond.selects "java/lang/IllegalStateException" ({ cls := "java/lang/Throwable", name := "fillInStackTrace", desc := "()Ljava/lang/Throwable;" } : Jvm.MethodName) ({ cls := "java/lang/Throwable", name := "fillInStackTrace", desc := "()Ljava/lang/Throwable;" } : Jvm.MethodName)) ∈ wG := mG 159 (by decide +kernel) (by decide +kernel)
theorem w_128 : (Jvm.Cond.selects "java/lang/IndexOutOfBoundsException" ({ cls := "java/lang/Throwable", name := "fillInStackTrace", desc := "()Ljava/lang/Throwable;" } : Jvm.MethodName) ({ cls := "java/lang/Throwable", name := "fillInStackTrace", desc := "()Ljava/lang/Throwable;" } : Jvm.MethodName)) ∈ wG := mG 160 (by decide +kernel) (by decide +kernel)
theorem w_130 : (Jvm.Cond.methodLink "java/lang/Throwable" (202 : Nat) ({ cls := "java/lang/Throwable", name := "fillInStackTrace", desc := "(I)Ljava/lang/Throwable;" } : Jvm.MethodName)) ∈ wG := mG 162 (by decide +kernel) (by decide +kernel)
theorem w_132 : (Jvm.Cond.instanceMethod ({ cls := "java/lang/Throwable", name := "fillInStackTrace", desc := "(I)Ljava/lang/Throwable;" } : Jvm.MethodName)) ∈ wG := mG 164 (by decide +kernel) (by decide +kernel)
theorem w_133 : (Jvm.Cond.instantiable "java/lang/Throwable" (6 : Nat)) ∈ wG := mG 165 (by decide +kernel) (by decide +kernel)
theorem w_136 : (Jvm.Cond.methodLink "ShapeForms" (44 : Nat) ({ cls := "java/lang/IllegalArgumentException", name := "<init>", desc := "(Ljava/lang/String;)V" } : Jvm.MethodName)) ∈ wG := mG 168 (by decide +kernel) (by decide +kernel)
theorem w_137 : (Jvm.Cond.instanceMethod ({ cls := "java/lang/IllegalArgumentException", name := "<init>", desc := "(Ljava/lang/String;)V" } : Jvm.MethodName)) ∈ wG := mG 169 (by decide +kernel) (by decide +kernel)
theorem w_138 : (Jvm.Cond.code ({ cls := "java/lang/IllegalArgumentException", name := "<init>", desc := "(Ljava/lang/String;)V" } : Jvm.MethodName) prog_8_method_2_code (2 : Nat) (Option.none : Option Jvm.ClassFile.FieldType)) ∈ wG := mG 170 (by decide +kernel) (by decide +kernel)
theorem w_139 : (Jvm.Cond.methodLink "java/lang/IllegalArgumentException" (7 : Nat) ({ cls := "java/lang/RuntimeException", name := "<init>", desc := "(Ljava/lang/String;)V" } : Jvm.MethodName)) ∈ wG := mG 171 (by decide +kernel) (by decide +kernel)
theorem w_140 : (Jvm.Cond.instanceMethod ({ cls := "java/lang/RuntimeException", name := "<init>", desc := "(Ljava/lang/String;)V" } : Jvm.MethodName)) ∈ wG := mG 172 (by decide +kernel) (by decide +kernel)
theorem w_141 : (Jvm.Cond.code ({ cls := "java/lang/RuntimeException", name := "<init>", desc := "(Ljava/lang/String;)V" } : Jvm.MethodName) prog_13_method_2_code (2 : Nat) (Option.none : Option Jvm.ClassFile.FieldType)) ∈ wG := mG 173 (by decide +kernel) (by decide +kernel)
theorem w_142 : (Jvm.Cond.methodLink "java/lang/RuntimeException" (7 : Nat) ({ cls := "java/lang/Exception", name := "<init>", desc := "(Ljava/lang/String;)V" } : Jvm.MethodName)) ∈ wG := mG 174 (by decide +kernel) (by decide +kernel)
theorem w_143 : (Jvm.Cond.instanceMethod ({ cls := "java/lang/Exception", name := "<init>", desc := "(Ljava/lang/String;)V" } : Jvm.MethodName)) ∈ wG := mG 175 (by decide +kernel) (by decide +kernel)
theorem w_144 : (Jvm.Cond.code ({ cls := "java/lang/Exception", name := "<init>", desc := "(Ljava/lang/String;)V" } : Jvm.MethodName) prog_7_method_2_code (2 : Nat) (Option.none : Option Jvm.ClassFile.FieldType)) ∈ wG := mG 176 (by decide +kernel) (by decide +kernel)
theorem w_145 : (Jvm.Cond.methodLink "java/lang/Exception" (7 : Nat) ({ cls := "java/lang/Throwable", name := "<init>", desc := "(Ljava/lang/String;)V" } : Jvm.MethodName)) ∈ wG := mG 177 (by decide +kernel) (by decide +kernel)
theorem w_146 : (Jvm.Cond.instanceMethod ({ cls := "java/lang/Throwable", name := "<init>", desc := "(Ljava/lang/String;)V" } : Jvm.MethodName)) ∈ wG := mG 178 (by decide +kernel) (by decide +kernel)
theorem w_147 : (Jvm.Cond.code ({ cls := "java/lang/Throwable", name := "<init>", desc := "(Ljava/lang/String;)V" } : Jvm.MethodName) prog_15_method_2_code (2 : Nat) (Option.none : Option Jvm.ClassFile.FieldType)) ∈ wG := mG 179 (by decide +kernel) (by decide +kernel)
theorem w_148 : (Jvm.Cond.fieldLink "java/lang/Throwable" (198 : Nat) "java/lang/Throwable" "backtrace" "Ljava/lang/Object;") ∈ wG := mG 180 (by decide +kernel) (by decide +kernel)
theorem w_149 : (Jvm.Cond.fieldLink "java/lang/Throwable" (31 : Nat) "java/lang/Throwable" "detailMessage" "Ljava/lang/String;") ∈ wG := mG 181 (by decide +kernel) (by decide +kernel)
theorem w_150 : (Jvm.Cond.fieldLink "java/lang/Throwable" (7 : Nat) "java/lang/Throwable" "cause" "Ljava/lang/Throwable;") ∈ wG := mG 182 (by decide +kernel) (by decide +kernel)
theorem w_151 : (Jvm.Cond.fieldLink "java/lang/Throwable" (17 : Nat) "java/lang/Throwable" "stackTrace" "[Ljava/lang/StackTraceElement;") ∈ wG := mG 183 (by decide +kernel) (by decide +kernel)
theorem w_152 : (Jvm.Cond.fieldLink "java/lang/Throwable" (24 : Nat) "java/lang/Throwable" "suppressedExceptions" "Ljava/util/List;") ∈ wG := mG 184 (by decide +kernel) (by decide +kernel)
theorem w_153 : (Jvm.Cond.soleField "java/lang/Throwable" "backtrace") ∈ wG := mG 185 (by decide +kernel) (by decide +kernel)
theorem w_154 : (Jvm.Cond.soleField "java/lang/Throwable" "detailMessage") ∈ wG := mG 186 (by decide +kernel) (by decide +kernel)
theorem w_155 : (Jvm.Cond.soleField "java/lang/Throwable" "cause") ∈ wG := mG 187 (by decide +kernel) (by decide +kernel)
theorem w_156 : (Jvm.Cond.soleField "java/lang/Throwable" "stackTrace") ∈ wG := mG 188 (by decide +kernel) (by decide +kernel)
theorem w_157 : (Jvm.Cond.lays "java/lang/IllegalArgumentException" "java/lang/Throwable" "depth" "I") ∈ wG := mG 189 (by decide +kernel) (by decide +kernel)
theorem w_158 : (Jvm.Cond.soleField "java/lang/Throwable" "depth") ∈ wG := mG 190 (by decide +kernel) (by decide +kernel)
theorem w_159 : (Jvm.Cond.soleField "java/lang/Throwable" "suppressedExceptions") ∈ wG := mG 191 (by decide +kernel) (by decide +kernel)
theorem w_160 : (Jvm.Cond.superclass "java/lang/IllegalArgumentException" "java/lang/RuntimeException") ∈ wG := mG 192 (by decide +kernel) (by decide +kernel)
theorem w_161 : (Jvm.Cond.arrayClass Jvm.ClassFile.FieldType.byte) ∈ wG := mG 193 (by decide +kernel) (by decide +kernel)
theorem w_162 : (Jvm.Cond.methodLink "ShapeForms" (23 : Nat) ({ cls := "ShapeForms", name := "needLength", desc := "(J)V" } : Jvm.MethodName)) ∈ wG := mG 194 (by decide +kernel) (by decide +kernel)
theorem w_163 : (Jvm.Cond.static ({ cls := "ShapeForms", name := "needLength", desc := "(J)V" } : Jvm.MethodName)) ∈ wG := mG 195 (by decide +kernel) (by decide +kernel)
theorem w_164 : (Jvm.Cond.code ({ cls := "ShapeForms", name := "needLength", desc := "(J)V" } : Jvm.MethodName) prog_1_method_18_code (2 : Nat) (Option.none : Option Jvm.ClassFile.FieldType)) ∈ wG := mG 196 (by decide +kernel) (by decide +kernel)
theorem w_165 : (Jvm.Cond.methodLink "ShapeForms" (90 : Nat) ({ cls := "ShapeForms", name := "isLength", desc := "(J)Z" } : Jvm.MethodName)) ∈ wG := mG 197 (by decide +kernel) (by decide +kernel)
theorem w_166 : (Jvm.Cond.static ({ cls := "ShapeForms", name := "isLength", desc := "(J)Z" } : Jvm.MethodName)) ∈ wG := mG 198 (by decide +kernel) (by decide +kernel)
theorem w_167 : (Jvm.Cond.code ({ cls := "ShapeForms", name := "isLength", desc := "(J)Z" } : Jvm.MethodName) prog_1_method_16_code (2 : Nat) (Option.some Jvm.ClassFile.FieldType.boolean)) ∈ wG := mG 199 (by decide +kernel) (by decide +kernel)
theorem w_168 : (Jvm.Cond.constantLong "ShapeForms" (82 : Nat) (1000000000 : Int64)) ∈ wG := mG 200 (by decide +kernel) (by decide +kernel)
theorem w_170 : (Jvm.Cond.methodLink "ShapeForms" (30 : Nat) ({ cls := "ShapeForms$Shape", name := "addCorner", desc := "(JJ)Z" } : Jvm.MethodName)) ∈ wG := mG 202 (by decide +kernel) (by decide +kernel)
theorem w_171 : (Jvm.Cond.instanceMethod ({ cls := "ShapeForms$Shape", name := "addCorner", desc := "(JJ)Z" } : Jvm.MethodName)) ∈ wG := mG 203 (by decide +kernel) (by decide +kernel)
theorem w_172 : (Jvm.Cond.selects "ShapeForms$Shape" ({ cls := "ShapeForms$Shape", name := "addCorner", desc := "(JJ)Z" } : Jvm.MethodName) ({ cls := "ShapeForms$Shape", name := "addCorner", desc := "(JJ)Z" } : Jvm.MethodName)) ∈ wG := mG 204 (by decide +kernel) (by decide +kernel)
theorem w_173 : (Jvm.Cond.code ({ cls := "ShapeForms$Shape", name := "addCorner", desc := "(JJ)Z" } : Jvm.MethodName) prog_3_method_5_code (5 : Nat) (Option.some Jvm.ClassFile.FieldType.boolean)) ∈ wG := mG 205 (by decide +kernel) (by decide +kernel)
theorem w_174 : (Jvm.Cond.methodLink "ShapeFormsLaw" (78 : Nat) ({ cls := "ShapeFormsLaw", name := "box", desc := "(LShapeForms;JJJJJ[J)I" } : Jvm.MethodName)) ∈ wG := mG 206 (by decide +kernel) (by decide +kernel)
theorem w_175 : (Jvm.Cond.static ({ cls := "ShapeFormsLaw", name := "box", desc := "(LShapeForms;JJJJJ[J)I" } : Jvm.MethodName)) ∈ wG := mG 207 (by decide +kernel) (by decide +kernel)
theorem w_177 : (Jvm.Cond.methodLink "ShapeFormsLaw" (15 : Nat) ({ cls := "ShapeForms", name := "box", desc := "(JJJJJ)I" } : Jvm.MethodName)) ∈ wG := mG 209 (by decide +kernel) (by decide +kernel)
theorem w_178 : (Jvm.Cond.instanceMethod ({ cls := "ShapeForms", name := "box", desc := "(JJJJJ)I" } : Jvm.MethodName)) ∈ wG := mG 210 (by decide +kernel) (by decide +kernel)
theorem w_179 : (Jvm.Cond.selects "ShapeForms" ({ cls := "ShapeForms", name := "box", desc := "(JJJJJ)I" } : Jvm.MethodName) ({ cls := "ShapeForms", name := "box", desc := "(JJJJJ)I" } : Jvm.MethodName)) ∈ wG := mG 211 (by decide +kernel) (by decide +kernel)
theorem w_180 : (Jvm.Cond.code ({ cls := "ShapeForms", name := "box", desc := "(JJJJJ)I" } : Jvm.MethodName) prog_1_method_3_code (11 : Nat) (Option.some Jvm.ClassFile.FieldType.int)) ∈ wG := mG 212 (by decide +kernel) (by decide +kernel)
theorem w_181 : (Jvm.Cond.constantLong "ShapeForms" (38 : Nat) (2 : Int64)) ∈ wG := mG 213 (by decide +kernel) (by decide +kernel)
theorem w_183 : (Jvm.Cond.methodLink "ShapeForms" (47 : Nat) ({ cls := "ShapeForms", name := "roundedBox", desc := "(JJJJJ)LShapeForms$Shape;" } : Jvm.MethodName)) ∈ wG := mG 215 (by decide +kernel) (by decide +kernel)
theorem w_184 : (Jvm.Cond.static ({ cls := "ShapeForms", name := "roundedBox", desc := "(JJJJJ)LShapeForms$Shape;" } : Jvm.MethodName)) ∈ wG := mG 216 (by decide +kernel) (by decide +kernel)
theorem w_185 : (Jvm.Cond.code ({ cls := "ShapeForms", name := "roundedBox", desc := "(JJJJJ)LShapeForms$Shape;" } : Jvm.MethodName) prog_1_method_22_code (12 : Nat) (Option.some (Jvm.ClassFile.FieldType.object "ShapeForms$Shape"))) ∈ wG := mG 217 (by decide +kernel) (by decide +kernel)
theorem w_186 : (Jvm.Cond.methodLink "ShapeFormsLaw" (86 : Nat) ({ cls := "ShapeFormsLaw", name := "trace", desc := "(LShapeForms;J[J)I" } : Jvm.MethodName)) ∈ wG := mG 218 (by decide +kernel) (by decide +kernel)
theorem w_187 : (Jvm.Cond.static ({ cls := "ShapeFormsLaw", name := "trace", desc := "(LShapeForms;J[J)I" } : Jvm.MethodName)) ∈ wG := mG 219 (by decide +kernel) (by decide +kernel)
theorem w_189 : (Jvm.Cond.methodLink "ShapeFormsLaw" (19 : Nat) ({ cls := "ShapeForms", name := "trace", desc := "(J)I" } : Jvm.MethodName)) ∈ wG := mG 221 (by decide +kernel) (by decide +kernel)
theorem w_190 : (Jvm.Cond.instanceMethod ({ cls := "ShapeForms", name := "trace", desc := "(J)I" } : Jvm.MethodName)) ∈ wG := mG 222 (by decide +kernel) (by decide +kernel)
theorem w_191 : (Jvm.Cond.selects "ShapeForms" ({ cls := "ShapeForms", name := "trace", desc := "(J)I" } : Jvm.MethodName) ({ cls := "ShapeForms", name := "trace", desc := "(J)I" } : Jvm.MethodName)) ∈ wG := mG 223 (by decide +kernel) (by decide +kernel)
theorem w_192 : (Jvm.Cond.code ({ cls := "ShapeForms", name := "trace", desc := "(J)I" } : Jvm.MethodName) prog_1_method_5_code (3 : Nat) (Option.some Jvm.ClassFile.FieldType.int)) ∈ wG := mG 224 (by decide +kernel) (by decide +kernel)
theorem w_193 : (Jvm.Cond.constantLong "ShapeForms" (51 : Nat) (2000000000 : Int64)) ∈ wG := mG 225 (by decide +kernel) (by decide +kernel)
theorem w_195 : (Jvm.Cond.methodLink "ShapeFormsLaw" (90 : Nat) ({ cls := "ShapeFormsLaw", name := "corner", desc := "(LShapeForms;IJJ[J)I" } : Jvm.MethodName)) ∈ wG := mG 227 (by decide +kernel) (by decide +kernel)
theorem w_196 : (Jvm.Cond.static ({ cls := "ShapeFormsLaw", name := "corner", desc := "(LShapeForms;IJJ[J)I" } : Jvm.MethodName)) ∈ wG := mG 228 (by decide +kernel) (by decide +kernel)
theorem w_198 : (Jvm.Cond.classLink "ShapeFormsLaw" (27 : Nat) "java/lang/IndexOutOfBoundsException") ∈ wG := mG 230 (by decide +kernel) (by decide +kernel)
theorem w_199 : (Jvm.Cond.classLink "ShapeFormsLaw" (29 : Nat) "java/lang/IllegalStateException") ∈ wG := mG 231 (by decide +kernel) (by decide +kernel)
theorem w_200 : (Jvm.Cond.methodLink "ShapeFormsLaw" (23 : Nat) ({ cls := "ShapeForms", name := "corner", desc := "(IJJ)Z" } : Jvm.MethodName)) ∈ wG := mG 232 (by decide +kernel) (by decide +kernel)
theorem w_201 : (Jvm.Cond.instanceMethod ({ cls := "ShapeForms", name := "corner", desc := "(IJJ)Z" } : Jvm.MethodName)) ∈ wG := mG 233 (by decide +kernel) (by decide +kernel)
theorem w_202 : (Jvm.Cond.selects "ShapeForms" ({ cls := "ShapeForms", name := "corner", desc := "(IJJ)Z" } : Jvm.MethodName) ({ cls := "ShapeForms", name := "corner", desc := "(IJJ)Z" } : Jvm.MethodName)) ∈ wG := mG 234 (by decide +kernel) (by decide +kernel)
theorem w_203 : (Jvm.Cond.code ({ cls := "ShapeForms", name := "corner", desc := "(IJJ)Z" } : Jvm.MethodName) prog_1_method_6_code (7 : Nat) (Option.some Jvm.ClassFile.FieldType.boolean)) ∈ wG := mG 235 (by decide +kernel) (by decide +kernel)
theorem w_204 : (Jvm.Cond.methodLink "ShapeForms" (55 : Nat) ({ cls := "ShapeForms", name := "find", desc := "(I)LShapeForms$Shape;" } : Jvm.MethodName)) ∈ wG := mG 236 (by decide +kernel) (by decide +kernel)
theorem w_206 : (Jvm.Cond.instanceMethod ({ cls := "ShapeForms", name := "find", desc := "(I)LShapeForms$Shape;" } : Jvm.MethodName)) ∈ wG := mG 238 (by decide +kernel) (by decide +kernel)
theorem w_207 : (Jvm.Cond.code ({ cls := "ShapeForms", name := "find", desc := "(I)LShapeForms$Shape;" } : Jvm.MethodName) prog_1_method_20_code (3 : Nat) (Option.some (Jvm.ClassFile.FieldType.object "ShapeForms$Shape"))) ∈ wG := mG 239 (by decide +kernel) (by decide +kernel)
theorem w_208 : (Jvm.Cond.classLink "ShapeForms" (111 : Nat) "java/lang/IndexOutOfBoundsException") ∈ wG := mG 240 (by decide +kernel) (by decide +kernel)
theorem w_209 : (Jvm.Cond.instantiable "java/lang/IndexOutOfBoundsException" (6 : Nat)) ∈ wG := mG 241 (by decide +kernel) (by decide +kernel)
theorem w_211 : (Jvm.Cond.selects "java/lang/IndexOutOfBoundsException" ({ cls := "java/lang/Throwable", name := "fillInStackTrace", desc := "(I)Ljava/lang/Throwable;" } : Jvm.MethodName) ({ cls := "java/lang/Throwable", name := "fillInStackTrace", desc := "(I)Ljava/lang/Throwable;" } : Jvm.MethodName)) ∈ wG := mG 243 (by decide +kernel) (by decide +kernel)
theorem w_212 : (Jvm.Cond.lays "java/lang/IndexOutOfBoundsException" "java/lang/Throwable" "cause" "Ljava/lang/Throwable;") ∈ wG := mG 244 (by decide +kernel) (by decide +kernel)
theorem w_213 : (Jvm.Cond.lays "java/lang/IndexOutOfBoundsException" "java/lang/Throwable" "stackTrace" "[Ljava/lang/StackTraceElement;") ∈ wG := mG 245 (by decide +kernel) (by decide +kernel)
theorem w_214 : (Jvm.Cond.lays "java/lang/IndexOutOfBoundsException" "java/lang/Throwable" "suppressedExceptions" "Ljava/util/List;") ∈ wG := mG 246 (by decide +kernel) (by decide +kernel)
theorem w_215 : (Jvm.Cond.lays "java/lang/IndexOutOfBoundsException" "java/lang/Throwable" "detailMessage" "Ljava/lang/String;") ∈ wG := mG 247 (by decide +kernel) (by decide +kernel)
theorem w_216 : (Jvm.Cond.lays "java/lang/IndexOutOfBoundsException" "java/lang/Throwable" "backtrace" "Ljava/lang/Object;") ∈ wG := mG 248 (by decide +kernel) (by decide +kernel)
theorem w_218 : (Jvm.Cond.methodLink "ShapeForms" (115 : Nat) ({ cls := "java/lang/IndexOutOfBoundsException", name := "<init>", desc := "(Ljava/lang/String;)V" } : Jvm.MethodName)) ∈ wG := mG 250 (by decide +kernel) (by decide +kernel)
theorem w_219 : (Jvm.Cond.instanceMethod ({ cls := "java/lang/IndexOutOfBoundsException", name := "<init>", desc := "(Ljava/lang/String;)V" } : Jvm.MethodName)) ∈ wG := mG 251 (by decide +kernel) (by decide +kernel)
theorem w_220 : (Jvm.Cond.code ({ cls := "java/lang/IndexOutOfBoundsException", name := "<init>", desc := "(Ljava/lang/String;)V" } : Jvm.MethodName) prog_10_method_2_code (2 : Nat) (Option.none : Option Jvm.ClassFile.FieldType)) ∈ wG := mG 252 (by decide +kernel) (by decide +kernel)
theorem w_221 : (Jvm.Cond.methodLink "java/lang/IndexOutOfBoundsException" (7 : Nat) ({ cls := "java/lang/RuntimeException", name := "<init>", desc := "(Ljava/lang/String;)V" } : Jvm.MethodName)) ∈ wG := mG 253 (by decide +kernel) (by decide +kernel)
theorem w_222 : (Jvm.Cond.lays "java/lang/IndexOutOfBoundsException" "java/lang/Throwable" "depth" "I") ∈ wG := mG 254 (by decide +kernel) (by decide +kernel)
theorem w_223 : (Jvm.Cond.superclass "java/lang/IndexOutOfBoundsException" "java/lang/RuntimeException") ∈ wG := mG 255 (by decide +kernel) (by decide +kernel)
theorem w_224 : (Jvm.Cond.methodLink "ShapeForms" (59 : Nat) ({ cls := "ShapeForms$Shape", name := "takesCorners", desc := "()Z" } : Jvm.MethodName)) ∈ wG := mG 256 (by decide +kernel) (by decide +kernel)
theorem w_225 : (Jvm.Cond.instanceMethod ({ cls := "ShapeForms$Shape", name := "takesCorners", desc := "()Z" } : Jvm.MethodName)) ∈ wG := mG 257 (by decide +kernel) (by decide +kernel)
theorem w_226 : (Jvm.Cond.selects "ShapeForms$Shape" ({ cls := "ShapeForms$Shape", name := "takesCorners", desc := "()Z" } : Jvm.MethodName) ({ cls := "ShapeForms$Shape", name := "takesCorners", desc := "()Z" } : Jvm.MethodName)) ∈ wG := mG 258 (by decide +kernel) (by decide +kernel)
theorem w_227 : (Jvm.Cond.code ({ cls := "ShapeForms$Shape", name := "takesCorners", desc := "()Z" } : Jvm.MethodName) prog_3_method_4_code (1 : Nat) (Option.some Jvm.ClassFile.FieldType.boolean)) ∈ wG := mG 259 (by decide +kernel) (by decide +kernel)
theorem w_228 : (Jvm.Cond.classLink "ShapeForms" (63 : Nat) "java/lang/IllegalStateException") ∈ wG := mG 260 (by decide +kernel) (by decide +kernel)
theorem w_229 : (Jvm.Cond.instantiable "java/lang/IllegalStateException" (6 : Nat)) ∈ wG := mG 261 (by decide +kernel) (by decide +kernel)
theorem w_231 : (Jvm.Cond.selects "java/lang/IllegalStateException" ({ cls := "java/lang/Throwable", name := "fillInStackTrace", desc := "(I)Ljava/lang/Throwable;" } : Jvm.MethodName) ({ cls := "java/lang/Throwable", name := "fillInStackTrace", desc := "(I)Ljava/lang/Throwable;" } : Jvm.MethodName)) ∈ wG := mG 263 (by decide +kernel) (by decide +kernel)
theorem w_232 : (Jvm.Cond.lays "java/lang/IllegalStateException" "java/lang/Throwable" "cause" "Ljava/lang/Throwable;") ∈ wG := mG 264 (by decide +kernel) (by decide +kernel)
theorem w_233 : (Jvm.Cond.lays "java/lang/IllegalStateException" "java/lang/Throwable" "stackTrace" "[Ljava/lang/StackTraceElement;") ∈ wG := mG 265 (by decide +kernel) (by decide +kernel)
theorem w_234 : (Jvm.Cond.lays "java/lang/IllegalStateException" "java/lang/Throwable" "suppressedExceptions" "Ljava/util/List;") ∈ wG := mG 266 (by decide +kernel) (by decide +kernel)
theorem w_235 : (Jvm.Cond.lays "java/lang/IllegalStateException" "java/lang/Throwable" "detailMessage" "Ljava/lang/String;") ∈ wG := mG 267 (by decide +kernel) (by decide +kernel)
theorem w_236 : (Jvm.Cond.lays "java/lang/IllegalStateException" "java/lang/Throwable" "backtrace" "Ljava/lang/Object;") ∈ wG := mG 268 (by decide +kernel) (by decide +kernel)
theorem w_238 : (Jvm.Cond.methodLink "ShapeForms" (67 : Nat) ({ cls := "java/lang/IllegalStateException", name := "<init>", desc := "(Ljava/lang/String;)V" } : Jvm.MethodName)) ∈ wG := mG 270 (by decide +kernel) (by decide +kernel)
theorem w_239 : (Jvm.Cond.instanceMethod ({ cls := "java/lang/IllegalStateException", name := "<init>", desc := "(Ljava/lang/String;)V" } : Jvm.MethodName)) ∈ wG := mG 271 (by decide +kernel) (by decide +kernel)
theorem w_240 : (Jvm.Cond.code ({ cls := "java/lang/IllegalStateException", name := "<init>", desc := "(Ljava/lang/String;)V" } : Jvm.MethodName) prog_9_method_2_code (2 : Nat) (Option.none : Option Jvm.ClassFile.FieldType)) ∈ wG := mG 272 (by decide +kernel) (by decide +kernel)
theorem w_241 : (Jvm.Cond.methodLink "java/lang/IllegalStateException" (7 : Nat) ({ cls := "java/lang/RuntimeException", name := "<init>", desc := "(Ljava/lang/String;)V" } : Jvm.MethodName)) ∈ wG := mG 273 (by decide +kernel) (by decide +kernel)
theorem w_242 : (Jvm.Cond.lays "java/lang/IllegalStateException" "java/lang/Throwable" "depth" "I") ∈ wG := mG 274 (by decide +kernel) (by decide +kernel)
theorem w_243 : (Jvm.Cond.superclass "java/lang/IllegalStateException" "java/lang/RuntimeException") ∈ wG := mG 275 (by decide +kernel) (by decide +kernel)
theorem w_244 : (Jvm.Cond.methodLink "ShapeFormsLaw" (94 : Nat) ({ cls := "ShapeFormsLaw", name := "ring", desc := "(LShapeForms;I[J)I" } : Jvm.MethodName)) ∈ wG := mG 276 (by decide +kernel) (by decide +kernel)
theorem w_245 : (Jvm.Cond.static ({ cls := "ShapeFormsLaw", name := "ring", desc := "(LShapeForms;I[J)I" } : Jvm.MethodName)) ∈ wG := mG 277 (by decide +kernel) (by decide +kernel)
theorem w_247 : (Jvm.Cond.methodLink "ShapeFormsLaw" (31 : Nat) ({ cls := "ShapeForms", name := "ring", desc := "(I)Z" } : Jvm.MethodName)) ∈ wG := mG 279 (by decide +kernel) (by decide +kernel)
theorem w_248 : (Jvm.Cond.instanceMethod ({ cls := "ShapeForms", name := "ring", desc := "(I)Z" } : Jvm.MethodName)) ∈ wG := mG 280 (by decide +kernel) (by decide +kernel)
theorem w_249 : (Jvm.Cond.selects "ShapeForms" ({ cls := "ShapeForms", name := "ring", desc := "(I)Z" } : Jvm.MethodName) ({ cls := "ShapeForms", name := "ring", desc := "(I)Z" } : Jvm.MethodName)) ∈ wG := mG 281 (by decide +kernel) (by decide +kernel)
theorem w_250 : (Jvm.Cond.code ({ cls := "ShapeForms", name := "ring", desc := "(I)Z" } : Jvm.MethodName) prog_1_method_7_code (3 : Nat) (Option.some Jvm.ClassFile.FieldType.boolean)) ∈ wG := mG 282 (by decide +kernel) (by decide +kernel)
theorem w_251 : (Jvm.Cond.methodLink "ShapeForms" (68 : Nat) ({ cls := "ShapeForms$Shape", name := "hasOpenRing", desc := "()Z" } : Jvm.MethodName)) ∈ wG := mG 283 (by decide +kernel) (by decide +kernel)
theorem w_252 : (Jvm.Cond.instanceMethod ({ cls := "ShapeForms$Shape", name := "hasOpenRing", desc := "()Z" } : Jvm.MethodName)) ∈ wG := mG 284 (by decide +kernel) (by decide +kernel)
theorem w_253 : (Jvm.Cond.selects "ShapeForms$Shape" ({ cls := "ShapeForms$Shape", name := "hasOpenRing", desc := "()Z" } : Jvm.MethodName) ({ cls := "ShapeForms$Shape", name := "hasOpenRing", desc := "()Z" } : Jvm.MethodName)) ∈ wG := mG 285 (by decide +kernel) (by decide +kernel)
theorem w_254 : (Jvm.Cond.code ({ cls := "ShapeForms$Shape", name := "hasOpenRing", desc := "()Z" } : Jvm.MethodName) prog_3_method_3_code (1 : Nat) (Option.some Jvm.ClassFile.FieldType.boolean)) ∈ wG := mG 286 (by decide +kernel) (by decide +kernel)
theorem w_256 : (Jvm.Cond.methodLink "ShapeForms" (73 : Nat) ({ cls := "ShapeForms$Shape", name := "closeRing", desc := "()Z" } : Jvm.MethodName)) ∈ wG := mG 288 (by decide +kernel) (by decide +kernel)
theorem w_257 : (Jvm.Cond.instanceMethod ({ cls := "ShapeForms$Shape", name := "closeRing", desc := "()Z" } : Jvm.MethodName)) ∈ wG := mG 289 (by decide +kernel) (by decide +kernel)
theorem w_258 : (Jvm.Cond.selects "ShapeForms$Shape" ({ cls := "ShapeForms$Shape", name := "closeRing", desc := "()Z" } : Jvm.MethodName) ({ cls := "ShapeForms$Shape", name := "closeRing", desc := "()Z" } : Jvm.MethodName)) ∈ wG := mG 290 (by decide +kernel) (by decide +kernel)
theorem w_259 : (Jvm.Cond.code ({ cls := "ShapeForms$Shape", name := "closeRing", desc := "()Z" } : Jvm.MethodName) prog_3_method_6_code (1 : Nat) (Option.some Jvm.ClassFile.FieldType.boolean)) ∈ wG := mG 291 (by decide +kernel) (by decide +kernel)
theorem w_260 : (Jvm.Cond.methodLink "ShapeForms$Shape" (44 : Nat) ({ cls := "ShapeForms$Shape", name := "isOpenRingEmpty", desc := "()Z" } : Jvm.MethodName)) ∈ wG := mG 292 (by decide +kernel) (by decide +kernel)
theorem w_261 : (Jvm.Cond.instanceMethod ({ cls := "ShapeForms$Shape", name := "isOpenRingEmpty", desc := "()Z" } : Jvm.MethodName)) ∈ wG := mG 293 (by decide +kernel) (by decide +kernel)
theorem w_262 : (Jvm.Cond.selects "ShapeForms$Shape" ({ cls := "ShapeForms$Shape", name := "isOpenRingEmpty", desc := "()Z" } : Jvm.MethodName) ({ cls := "ShapeForms$Shape", name := "isOpenRingEmpty", desc := "()Z" } : Jvm.MethodName)) ∈ wG := mG 294 (by decide +kernel) (by decide +kernel)
theorem w_263 : (Jvm.Cond.code ({ cls := "ShapeForms$Shape", name := "isOpenRingEmpty", desc := "()Z" } : Jvm.MethodName) prog_3_method_7_code (2 : Nat) (Option.some Jvm.ClassFile.FieldType.boolean)) ∈ wG := mG 295 (by decide +kernel) (by decide +kernel)
theorem w_264 : (Jvm.Cond.methodLink "ShapeForms$Shape" (50 : Nat) ({ cls := "ShapeForms$Shape", name := "cross", desc := "(IJJ)J" } : Jvm.MethodName)) ∈ wG := mG 296 (by decide +kernel) (by decide +kernel)
theorem w_265 : (Jvm.Cond.instanceMethod ({ cls := "ShapeForms$Shape", name := "cross", desc := "(IJJ)J" } : Jvm.MethodName)) ∈ wG := mG 297 (by decide +kernel) (by decide +kernel)
theorem w_266 : (Jvm.Cond.selects "ShapeForms$Shape" ({ cls := "ShapeForms$Shape", name := "cross", desc := "(IJJ)J" } : Jvm.MethodName) ({ cls := "ShapeForms$Shape", name := "cross", desc := "(IJJ)J" } : Jvm.MethodName)) ∈ wG := mG 298 (by decide +kernel) (by decide +kernel)
theorem w_267 : (Jvm.Cond.code ({ cls := "ShapeForms$Shape", name := "cross", desc := "(IJJ)J" } : Jvm.MethodName) prog_3_method_13_code (7 : Nat) (Option.some Jvm.ClassFile.FieldType.long)) ∈ wG := mG 299 (by decide +kernel) (by decide +kernel)
theorem w_268 : (Jvm.Cond.methodLink "ShapeForms$Shape" (47 : Nat) ({ cls := "ShapeForms$Shape", name := "isOpenRingCrossing", desc := "()Z" } : Jvm.MethodName)) ∈ wG := mG 300 (by decide +kernel) (by decide +kernel)
theorem w_269 : (Jvm.Cond.instanceMethod ({ cls := "ShapeForms$Shape", name := "isOpenRingCrossing", desc := "()Z" } : Jvm.MethodName)) ∈ wG := mG 301 (by decide +kernel) (by decide +kernel)
theorem w_270 : (Jvm.Cond.selects "ShapeForms$Shape" ({ cls := "ShapeForms$Shape", name := "isOpenRingCrossing", desc := "()Z" } : Jvm.MethodName) ({ cls := "ShapeForms$Shape", name := "isOpenRingCrossing", desc := "()Z" } : Jvm.MethodName)) ∈ wG := mG 302 (by decide +kernel) (by decide +kernel)
theorem w_271 : (Jvm.Cond.code ({ cls := "ShapeForms$Shape", name := "isOpenRingCrossing", desc := "()Z" } : Jvm.MethodName) prog_3_method_8_code (4 : Nat) (Option.some Jvm.ClassFile.FieldType.boolean)) ∈ wG := mG 303 (by decide +kernel) (by decide +kernel)
theorem w_272 : (Jvm.Cond.methodLink "ShapeForms$Shape" (54 : Nat) ({ cls := "ShapeForms$Pair", name := "sidesMeet", desc := "(LShapeForms$Shape;ILShapeForms$Shape;I)Z" } : Jvm.MethodName)) ∈ wG := mG 304 (by decide +kernel) (by decide +kernel)
theorem w_273 : (Jvm.Cond.static ({ cls := "ShapeForms$Pair", name := "sidesMeet", desc := "(LShapeForms$Shape;ILShapeForms$Shape;I)Z" } : Jvm.MethodName)) ∈ wG := mG 305 (by decide +kernel) (by decide +kernel)
theorem w_274 : (Jvm.Cond.code ({ cls := "ShapeForms$Pair", name := "sidesMeet", desc := "(LShapeForms$Shape;ILShapeForms$Shape;I)Z" } : Jvm.MethodName) prog_2_method_5_code (6 : Nat) (Option.some Jvm.ClassFile.FieldType.boolean)) ∈ wG := mG 306 (by decide +kernel) (by decide +kernel)
theorem w_275 : (Jvm.Cond.methodLink "ShapeForms$Pair" (58 : Nat) ({ cls := "ShapeForms$Pair", name := "spansMeet", desc := "(JJJJ)Z" } : Jvm.MethodName)) ∈ wG := mG 307 (by decide +kernel) (by decide +kernel)
theorem w_276 : (Jvm.Cond.static ({ cls := "ShapeForms$Pair", name := "spansMeet", desc := "(JJJJ)Z" } : Jvm.MethodName)) ∈ wG := mG 308 (by decide +kernel) (by decide +kernel)
theorem w_277 : (Jvm.Cond.code ({ cls := "ShapeForms$Pair", name := "spansMeet", desc := "(JJJJ)Z" } : Jvm.MethodName) prog_2_method_6_code (8 : Nat) (Option.some Jvm.ClassFile.FieldType.boolean)) ∈ wG := mG 309 (by decide +kernel) (by decide +kernel)
theorem w_278 : (Jvm.Cond.methodLink "ShapeForms$Pair" (65 : Nat) ({ cls := "java/lang/Math", name := "min", desc := "(JJ)J" } : Jvm.MethodName)) ∈ wG := mG 310 (by decide +kernel) (by decide +kernel)
theorem w_279 : (Jvm.Cond.static ({ cls := "java/lang/Math", name := "min", desc := "(JJ)J" } : Jvm.MethodName)) ∈ wG := mG 311 (by decide +kernel) (by decide +kernel)
theorem w_280 : (Jvm.Cond.code ({ cls := "java/lang/Math", name := "min", desc := "(JJ)J" } : Jvm.MethodName) prog_12_method_70_code (4 : Nat) (Option.some Jvm.ClassFile.FieldType.long)) ∈ wG := mG 312 (by decide +kernel) (by decide +kernel)
theorem w_281 : (Jvm.Cond.methodLink "ShapeForms$Pair" (68 : Nat) ({ cls := "java/lang/Math", name := "max", desc := "(JJ)J" } : Jvm.MethodName)) ∈ wG := mG 313 (by decide +kernel) (by decide +kernel)
theorem w_282 : (Jvm.Cond.static ({ cls := "java/lang/Math", name := "max", desc := "(JJ)J" } : Jvm.MethodName)) ∈ wG := mG 314 (by decide +kernel) (by decide +kernel)
theorem w_283 : (Jvm.Cond.code ({ cls := "java/lang/Math", name := "max", desc := "(JJ)J" } : Jvm.MethodName) prog_12_method_66_code (4 : Nat) (Option.some Jvm.ClassFile.FieldType.long)) ∈ wG := mG 315 (by decide +kernel) (by decide +kernel)
theorem w_284 : (Jvm.Cond.methodLink "ShapeForms$Pair" (62 : Nat) ({ cls := "ShapeForms$Pair", name := "passesBeside", desc := "(LShapeForms$Shape;ILShapeForms$Shape;I)Z" } : Jvm.MethodName)) ∈ wG := mG 316 (by decide +kernel) (by decide +kernel)
theorem w_285 : (Jvm.Cond.static ({ cls := "ShapeForms$Pair", name := "passesBeside", desc := "(LShapeForms$Shape;ILShapeForms$Shape;I)Z" } : Jvm.MethodName)) ∈ wG := mG 317 (by decide +kernel) (by decide +kernel)
theorem w_286 : (Jvm.Cond.code ({ cls := "ShapeForms$Pair", name := "passesBeside", desc := "(LShapeForms$Shape;ILShapeForms$Shape;I)Z" } : Jvm.MethodName) prog_2_method_7_code (9 : Nat) (Option.some Jvm.ClassFile.FieldType.boolean)) ∈ wG := mG 318 (by decide +kernel) (by decide +kernel)
theorem w_287 : (Jvm.Cond.methodLink "ShapeForms$Pair" (71 : Nat) ({ cls := "ShapeForms$Shape", name := "cross", desc := "(IJJ)J" } : Jvm.MethodName)) ∈ wG := mG 319 (by decide +kernel) (by decide +kernel)
theorem w_288 : (Jvm.Cond.methodLink "ShapeFormsLaw" (98 : Nat) ({ cls := "ShapeFormsLaw", name := "grow", desc := "(LShapeForms;IJ[J)I" } : Jvm.MethodName)) ∈ wG := mG 320 (by decide +kernel) (by decide +kernel)
theorem w_289 : (Jvm.Cond.static ({ cls := "ShapeFormsLaw", name := "grow", desc := "(LShapeForms;IJ[J)I" } : Jvm.MethodName)) ∈ wG := mG 321 (by decide +kernel) (by decide +kernel)
theorem w_291 : (Jvm.Cond.methodLink "ShapeFormsLaw" (35 : Nat) ({ cls := "ShapeForms", name := "grow", desc := "(IJ)I" } : Jvm.MethodName)) ∈ wG := mG 323 (by decide +kernel) (by decide +kernel)
theorem w_292 : (Jvm.Cond.instanceMethod ({ cls := "ShapeForms", name := "grow", desc := "(IJ)I" } : Jvm.MethodName)) ∈ wG := mG 324 (by decide +kernel) (by decide +kernel)
theorem w_293 : (Jvm.Cond.selects "ShapeForms" ({ cls := "ShapeForms", name := "grow", desc := "(IJ)I" } : Jvm.MethodName) ({ cls := "ShapeForms", name := "grow", desc := "(IJ)I" } : Jvm.MethodName)) ∈ wG := mG 325 (by decide +kernel) (by decide +kernel)
theorem w_294 : (Jvm.Cond.code ({ cls := "ShapeForms", name := "grow", desc := "(IJ)I" } : Jvm.MethodName) prog_1_method_8_code (7 : Nat) (Option.some Jvm.ClassFile.FieldType.int)) ∈ wG := mG 326 (by decide +kernel) (by decide +kernel)
theorem w_295 : (Jvm.Cond.methodLink "ShapeForms" (76 : Nat) ({ cls := "ShapeForms", name := "needWhole", desc := "(LShapeForms$Shape;)V" } : Jvm.MethodName)) ∈ wG := mG 327 (by decide +kernel) (by decide +kernel)
theorem w_296 : (Jvm.Cond.static ({ cls := "ShapeForms", name := "needWhole", desc := "(LShapeForms$Shape;)V" } : Jvm.MethodName)) ∈ wG := mG 328 (by decide +kernel) (by decide +kernel)
theorem w_297 : (Jvm.Cond.code ({ cls := "ShapeForms", name := "needWhole", desc := "(LShapeForms$Shape;)V" } : Jvm.MethodName) prog_1_method_19_code (1 : Nat) (Option.none : Option Jvm.ClassFile.FieldType)) ∈ wG := mG 329 (by decide +kernel) (by decide +kernel)
theorem w_298 : (Jvm.Cond.methodLink "ShapeForms" (150 : Nat) ({ cls := "ShapeForms$Shape", name := "isWhole", desc := "()Z" } : Jvm.MethodName)) ∈ wG := mG 330 (by decide +kernel) (by decide +kernel)
theorem w_299 : (Jvm.Cond.instanceMethod ({ cls := "ShapeForms$Shape", name := "isWhole", desc := "()Z" } : Jvm.MethodName)) ∈ wG := mG 331 (by decide +kernel) (by decide +kernel)
theorem w_300 : (Jvm.Cond.selects "ShapeForms$Shape" ({ cls := "ShapeForms$Shape", name := "isWhole", desc := "()Z" } : Jvm.MethodName) ({ cls := "ShapeForms$Shape", name := "isWhole", desc := "()Z" } : Jvm.MethodName)) ∈ wG := mG 332 (by decide +kernel) (by decide +kernel)
theorem w_301 : (Jvm.Cond.code ({ cls := "ShapeForms$Shape", name := "isWhole", desc := "()Z" } : Jvm.MethodName) prog_3_method_2_code (1 : Nat) (Option.some Jvm.ClassFile.FieldType.boolean)) ∈ wG := mG 333 (by decide +kernel) (by decide +kernel)
theorem w_302 : (Jvm.Cond.methodLink "ShapeForms$Shape" (40 : Nat) ({ cls := "ShapeForms$Shape", name := "hasOpenRing", desc := "()Z" } : Jvm.MethodName)) ∈ wG := mG 334 (by decide +kernel) (by decide +kernel)
theorem w_304 : (Jvm.Cond.constantLong "ShapeForms" (80 : Nat) (-1000000000 : Int64)) ∈ wG := mG 336 (by decide +kernel) (by decide +kernel)
theorem w_306 : (Jvm.Cond.methodLink "ShapeForms" (94 : Nat) ({ cls := "ShapeForms$Shape", name := "copyWithRadius", desc := "(J)LShapeForms$Shape;" } : Jvm.MethodName)) ∈ wG := mG 338 (by decide +kernel) (by decide +kernel)
theorem w_307 : (Jvm.Cond.instanceMethod ({ cls := "ShapeForms$Shape", name := "copyWithRadius", desc := "(J)LShapeForms$Shape;" } : Jvm.MethodName)) ∈ wG := mG 339 (by decide +kernel) (by decide +kernel)
theorem w_308 : (Jvm.Cond.selects "ShapeForms$Shape" ({ cls := "ShapeForms$Shape", name := "copyWithRadius", desc := "(J)LShapeForms$Shape;" } : Jvm.MethodName) ({ cls := "ShapeForms$Shape", name := "copyWithRadius", desc := "(J)LShapeForms$Shape;" } : Jvm.MethodName)) ∈ wG := mG 340 (by decide +kernel) (by decide +kernel)
theorem w_309 : (Jvm.Cond.code ({ cls := "ShapeForms$Shape", name := "copyWithRadius", desc := "(J)LShapeForms$Shape;" } : Jvm.MethodName) prog_3_method_9_code (5 : Nat) (Option.some (Jvm.ClassFile.FieldType.object "ShapeForms$Shape"))) ∈ wG := mG 341 (by decide +kernel) (by decide +kernel)
theorem w_310 : (Jvm.Cond.classLink "ShapeForms$Shape" (10 : Nat) "ShapeForms$Shape") ∈ wG := mG 342 (by decide +kernel) (by decide +kernel)
theorem w_311 : (Jvm.Cond.methodLink "ShapeForms$Shape" (60 : Nat) ({ cls := "ShapeForms$Shape", name := "<init>", desc := "(IZJ)V" } : Jvm.MethodName)) ∈ wG := mG 343 (by decide +kernel) (by decide +kernel)
theorem w_312 : (Jvm.Cond.methodLink "ShapeFormsLaw" (102 : Nat) ({ cls := "ShapeFormsLaw", name := "inside", desc := "(LShapeForms;IJJ[J)I" } : Jvm.MethodName)) ∈ wG := mG 344 (by decide +kernel) (by decide +kernel)
theorem w_313 : (Jvm.Cond.static ({ cls := "ShapeFormsLaw", name := "inside", desc := "(LShapeForms;IJJ[J)I" } : Jvm.MethodName)) ∈ wG := mG 345 (by decide +kernel) (by decide +kernel)
theorem w_315 : (Jvm.Cond.methodLink "ShapeFormsLaw" (39 : Nat) ({ cls := "ShapeForms", name := "inside", desc := "(IJJ)Z" } : Jvm.MethodName)) ∈ wG := mG 347 (by decide +kernel) (by decide +kernel)
theorem w_316 : (Jvm.Cond.instanceMethod ({ cls := "ShapeForms", name := "inside", desc := "(IJJ)Z" } : Jvm.MethodName)) ∈ wG := mG 348 (by decide +kernel) (by decide +kernel)
theorem w_317 : (Jvm.Cond.selects "ShapeForms" ({ cls := "ShapeForms", name := "inside", desc := "(IJJ)Z" } : Jvm.MethodName) ({ cls := "ShapeForms", name := "inside", desc := "(IJJ)Z" } : Jvm.MethodName)) ∈ wG := mG 349 (by decide +kernel) (by decide +kernel)
theorem w_318 : (Jvm.Cond.code ({ cls := "ShapeForms", name := "inside", desc := "(IJJ)Z" } : Jvm.MethodName) prog_1_method_9_code (7 : Nat) (Option.some Jvm.ClassFile.FieldType.boolean)) ∈ wG := mG 350 (by decide +kernel) (by decide +kernel)
theorem w_319 : (Jvm.Cond.methodLink "ShapeForms" (98 : Nat) ({ cls := "ShapeForms$Shape", name := "compareToSides", desc := "(JJJ)I" } : Jvm.MethodName)) ∈ wG := mG 351 (by decide +kernel) (by decide +kernel)
theorem w_320 : (Jvm.Cond.instanceMethod ({ cls := "ShapeForms$Shape", name := "compareToSides", desc := "(JJJ)I" } : Jvm.MethodName)) ∈ wG := mG 352 (by decide +kernel) (by decide +kernel)
theorem w_321 : (Jvm.Cond.selects "ShapeForms$Shape" ({ cls := "ShapeForms$Shape", name := "compareToSides", desc := "(JJJ)I" } : Jvm.MethodName) ({ cls := "ShapeForms$Shape", name := "compareToSides", desc := "(JJJ)I" } : Jvm.MethodName)) ∈ wG := mG 353 (by decide +kernel) (by decide +kernel)
theorem w_322 : (Jvm.Cond.code ({ cls := "ShapeForms$Shape", name := "compareToSides", desc := "(JJJ)I" } : Jvm.MethodName) prog_3_method_16_code (9 : Nat) (Option.some Jvm.ClassFile.FieldType.int)) ∈ wG := mG 354 (by decide +kernel) (by decide +kernel)
theorem w_323 : (Jvm.Cond.methodLink "ShapeForms$Shape" (76 : Nat) ({ cls := "ShapeForms$Shape", name := "compareToSide", desc := "(IJJJ)I" } : Jvm.MethodName)) ∈ wG := mG 355 (by decide +kernel) (by decide +kernel)
theorem w_325 : (Jvm.Cond.instanceMethod ({ cls := "ShapeForms$Shape", name := "compareToSide", desc := "(IJJJ)I" } : Jvm.MethodName)) ∈ wG := mG 357 (by decide +kernel) (by decide +kernel)
theorem w_326 : (Jvm.Cond.code ({ cls := "ShapeForms$Shape", name := "compareToSide", desc := "(IJJJ)I" } : Jvm.MethodName) prog_3_method_17_code (19 : Nat) (Option.some Jvm.ClassFile.FieldType.int)) ∈ wG := mG 358 (by decide +kernel) (by decide +kernel)
theorem w_327 : (Jvm.Cond.methodLink "ShapeForms$Shape" (83 : Nat) ({ cls := "ShapeForms$Shape", name := "squareTo", desc := "(IJJ)J" } : Jvm.MethodName)) ∈ wG := mG 359 (by decide +kernel) (by decide +kernel)
theorem w_329 : (Jvm.Cond.instanceMethod ({ cls := "ShapeForms$Shape", name := "squareTo", desc := "(IJJ)J" } : Jvm.MethodName)) ∈ wG := mG 361 (by decide +kernel) (by decide +kernel)
theorem w_330 : (Jvm.Cond.code ({ cls := "ShapeForms$Shape", name := "squareTo", desc := "(IJJ)J" } : Jvm.MethodName) prog_3_method_18_code (6 : Nat) (Option.some Jvm.ClassFile.FieldType.long)) ∈ wG := mG 362 (by decide +kernel) (by decide +kernel)
theorem w_331 : (Jvm.Cond.methodLink "ShapeForms$Shape" (86 : Nat) ({ cls := "java/lang/Long", name := "compare", desc := "(JJ)I" } : Jvm.MethodName)) ∈ wG := mG 363 (by decide +kernel) (by decide +kernel)
theorem w_332 : (Jvm.Cond.static ({ cls := "java/lang/Long", name := "compare", desc := "(JJ)I" } : Jvm.MethodName)) ∈ wG := mG 364 (by decide +kernel) (by decide +kernel)
theorem w_333 : (Jvm.Cond.code ({ cls := "java/lang/Long", name := "compare", desc := "(JJ)I" } : Jvm.MethodName) prog_11_method_42_code (4 : Nat) (Option.some Jvm.ClassFile.FieldType.int)) ∈ wG := mG 365 (by decide +kernel) (by decide +kernel)
theorem w_334 : (Jvm.Cond.methodLink "ShapeForms$Shape" (92 : Nat) ({ cls := "java/lang/Math", name := "abs", desc := "(J)J" } : Jvm.MethodName)) ∈ wG := mG 366 (by decide +kernel) (by decide +kernel)
theorem w_335 : (Jvm.Cond.static ({ cls := "java/lang/Math", name := "abs", desc := "(J)J" } : Jvm.MethodName)) ∈ wG := mG 367 (by decide +kernel) (by decide +kernel)
theorem w_336 : (Jvm.Cond.code ({ cls := "java/lang/Math", name := "abs", desc := "(J)J" } : Jvm.MethodName) prog_12_method_61_code (2 : Nat) (Option.some Jvm.ClassFile.FieldType.long)) ∈ wG := mG 368 (by decide +kernel) (by decide +kernel)
theorem w_337 : (Jvm.Cond.methodLink "ShapeForms$Shape" (96 : Nat) ({ cls := "ShapeForms$Wide", name := "compareProducts", desc := "(JJJJ)I" } : Jvm.MethodName)) ∈ wG := mG 369 (by decide +kernel) (by decide +kernel)
theorem w_338 : (Jvm.Cond.static ({ cls := "ShapeForms$Wide", name := "compareProducts", desc := "(JJJJ)I" } : Jvm.MethodName)) ∈ wG := mG 370 (by decide +kernel) (by decide +kernel)
theorem w_339 : (Jvm.Cond.code ({ cls := "ShapeForms$Wide", name := "compareProducts", desc := "(JJJJ)I" } : Jvm.MethodName) prog_4_method_2_code (9 : Nat) (Option.some Jvm.ClassFile.FieldType.int)) ∈ wG := mG 371 (by decide +kernel) (by decide +kernel)
theorem w_340 : (Jvm.Cond.methodLink "ShapeForms$Wide" (7 : Nat) ({ cls := "ShapeForms$Wide", name := "highPart", desc := "(JJ)J" } : Jvm.MethodName)) ∈ wG := mG 372 (by decide +kernel) (by decide +kernel)
theorem w_341 : (Jvm.Cond.static ({ cls := "ShapeForms$Wide", name := "highPart", desc := "(JJ)J" } : Jvm.MethodName)) ∈ wG := mG 373 (by decide +kernel) (by decide +kernel)
theorem w_342 : (Jvm.Cond.code ({ cls := "ShapeForms$Wide", name := "highPart", desc := "(JJ)J" } : Jvm.MethodName) prog_4_method_3_code (16 : Nat) (Option.some Jvm.ClassFile.FieldType.long)) ∈ wG := mG 374 (by decide +kernel) (by decide +kernel)
theorem w_343 : (Jvm.Cond.constantLong "ShapeForms$Wide" (21 : Nat) (4294967295 : Int64)) ∈ wG := mG 375 (by decide +kernel) (by decide +kernel)
theorem w_344 : (Jvm.Cond.methodLink "ShapeForms$Wide" (13 : Nat) ({ cls := "java/lang/Long", name := "compare", desc := "(JJ)I" } : Jvm.MethodName)) ∈ wG := mG 376 (by decide +kernel) (by decide +kernel)
theorem w_345 : (Jvm.Cond.constantLong "ShapeForms$Wide" (19 : Nat) (-9223372036854775808 : Int64)) ∈ wG := mG 377 (by decide +kernel) (by decide +kernel)
theorem w_346 : (Jvm.Cond.methodLink "ShapeForms$Shape" (80 : Nat) ({ cls := "java/lang/Math", name := "min", desc := "(II)I" } : Jvm.MethodName)) ∈ wG := mG 378 (by decide +kernel) (by decide +kernel)
theorem w_347 : (Jvm.Cond.static ({ cls := "java/lang/Math", name := "min", desc := "(II)I" } : Jvm.MethodName)) ∈ wG := mG 379 (by decide +kernel) (by decide +kernel)
theorem w_348 : (Jvm.Cond.code ({ cls := "java/lang/Math", name := "min", desc := "(II)I" } : Jvm.MethodName) prog_12_method_69_code (2 : Nat) (Option.some Jvm.ClassFile.FieldType.int)) ∈ wG := mG 380 (by decide +kernel) (by decide +kernel)
theorem w_349 : (Jvm.Cond.methodLink "ShapeForms" (102 : Nat) ({ cls := "ShapeForms$Shape", name := "encloses", desc := "(JJ)Z" } : Jvm.MethodName)) ∈ wG := mG 381 (by decide +kernel) (by decide +kernel)
theorem w_350 : (Jvm.Cond.instanceMethod ({ cls := "ShapeForms$Shape", name := "encloses", desc := "(JJ)Z" } : Jvm.MethodName)) ∈ wG := mG 382 (by decide +kernel) (by decide +kernel)
theorem w_351 : (Jvm.Cond.selects "ShapeForms$Shape" ({ cls := "ShapeForms$Shape", name := "encloses", desc := "(JJ)Z" } : Jvm.MethodName) ({ cls := "ShapeForms$Shape", name := "encloses", desc := "(JJ)Z" } : Jvm.MethodName)) ∈ wG := mG 383 (by decide +kernel) (by decide +kernel)
theorem w_352 : (Jvm.Cond.code ({ cls := "ShapeForms$Shape", name := "encloses", desc := "(JJ)Z" } : Jvm.MethodName) prog_3_method_14_code (9 : Nat) (Option.some Jvm.ClassFile.FieldType.boolean)) ∈ wG := mG 384 (by decide +kernel) (by decide +kernel)
theorem w_353 : (Jvm.Cond.methodLink "ShapeFormsLaw" (105 : Nat) ({ cls := "ShapeFormsLaw", name := "nearer", desc := "(LShapeForms;IIJ[J)I" } : Jvm.MethodName)) ∈ wG := mG 385 (by decide +kernel) (by decide +kernel)
theorem w_354 : (Jvm.Cond.static ({ cls := "ShapeFormsLaw", name := "nearer", desc := "(LShapeForms;IIJ[J)I" } : Jvm.MethodName)) ∈ wG := mG 386 (by decide +kernel) (by decide +kernel)
theorem w_356 : (Jvm.Cond.methodLink "ShapeFormsLaw" (42 : Nat) ({ cls := "ShapeForms", name := "nearer", desc := "(IIJ)I" } : Jvm.MethodName)) ∈ wG := mG 388 (by decide +kernel) (by decide +kernel)
theorem w_357 : (Jvm.Cond.instanceMethod ({ cls := "ShapeForms", name := "nearer", desc := "(IIJ)I" } : Jvm.MethodName)) ∈ wG := mG 389 (by decide +kernel) (by decide +kernel)
theorem w_358 : (Jvm.Cond.selects "ShapeForms" ({ cls := "ShapeForms", name := "nearer", desc := "(IIJ)I" } : Jvm.MethodName) ({ cls := "ShapeForms", name := "nearer", desc := "(IIJ)I" } : Jvm.MethodName)) ∈ wG := mG 390 (by decide +kernel) (by decide +kernel)
theorem w_359 : (Jvm.Cond.code ({ cls := "ShapeForms", name := "nearer", desc := "(IIJ)I" } : Jvm.MethodName) prog_1_method_10_code (8 : Nat) (Option.some Jvm.ClassFile.FieldType.int)) ∈ wG := mG 391 (by decide +kernel) (by decide +kernel)
theorem w_360 : (Jvm.Cond.methodLink "ShapeForms" (105 : Nat) ({ cls := "ShapeForms$Pair", name := "compareCores", desc := "(LShapeForms$Shape;LShapeForms$Shape;J)I" } : Jvm.MethodName)) ∈ wG := mG 392 (by decide +kernel) (by decide +kernel)
theorem w_361 : (Jvm.Cond.static ({ cls := "ShapeForms$Pair", name := "compareCores", desc := "(LShapeForms$Shape;LShapeForms$Shape;J)I" } : Jvm.MethodName)) ∈ wG := mG 393 (by decide +kernel) (by decide +kernel)
theorem w_362 : (Jvm.Cond.code ({ cls := "ShapeForms$Pair", name := "compareCores", desc := "(LShapeForms$Shape;LShapeForms$Shape;J)I" } : Jvm.MethodName) prog_2_method_2_code (4 : Nat) (Option.some Jvm.ClassFile.FieldType.int)) ∈ wG := mG 394 (by decide +kernel) (by decide +kernel)
theorem w_363 : (Jvm.Cond.methodLink "ShapeForms$Pair" (7 : Nat) ({ cls := "ShapeForms$Pair", name := "coresMeet", desc := "(LShapeForms$Shape;LShapeForms$Shape;)Z" } : Jvm.MethodName)) ∈ wG := mG 395 (by decide +kernel) (by decide +kernel)
theorem w_364 : (Jvm.Cond.static ({ cls := "ShapeForms$Pair", name := "coresMeet", desc := "(LShapeForms$Shape;LShapeForms$Shape;)Z" } : Jvm.MethodName)) ∈ wG := mG 396 (by decide +kernel) (by decide +kernel)
theorem w_365 : (Jvm.Cond.code ({ cls := "ShapeForms$Pair", name := "coresMeet", desc := "(LShapeForms$Shape;LShapeForms$Shape;)Z" } : Jvm.MethodName) prog_2_method_4_code (4 : Nat) (Option.some Jvm.ClassFile.FieldType.boolean)) ∈ wG := mG 397 (by decide +kernel) (by decide +kernel)
theorem w_366 : (Jvm.Cond.methodLink "ShapeForms$Pair" (46 : Nat) ({ cls := "ShapeForms$Pair", name := "sidesMeet", desc := "(LShapeForms$Shape;ILShapeForms$Shape;I)Z" } : Jvm.MethodName)) ∈ wG := mG 398 (by decide +kernel) (by decide +kernel)
theorem w_367 : (Jvm.Cond.methodLink "ShapeForms$Pair" (50 : Nat) ({ cls := "ShapeForms$Shape", name := "enclosesCornerOf", desc := "(LShapeForms$Shape;)Z" } : Jvm.MethodName)) ∈ wG := mG 399 (by decide +kernel) (by decide +kernel)
theorem w_368 : (Jvm.Cond.instanceMethod ({ cls := "ShapeForms$Shape", name := "enclosesCornerOf", desc := "(LShapeForms$Shape;)Z" } : Jvm.MethodName)) ∈ wG := mG 400 (by decide +kernel) (by decide +kernel)
theorem w_369 : (Jvm.Cond.selects "ShapeForms$Shape" ({ cls := "ShapeForms$Shape", name := "enclosesCornerOf", desc := "(LShapeForms$Shape;)Z" } : Jvm.MethodName) ({ cls := "ShapeForms$Shape", name := "enclosesCornerOf", desc := "(LShapeForms$Shape;)Z" } : Jvm.MethodName)) ∈ wG := mG 401 (by decide +kernel) (by decide +kernel)
theorem w_370 : (Jvm.Cond.code ({ cls := "ShapeForms$Shape", name := "enclosesCornerOf", desc := "(LShapeForms$Shape;)Z" } : Jvm.MethodName) prog_3_method_15_code (3 : Nat) (Option.some Jvm.ClassFile.FieldType.boolean)) ∈ wG := mG 402 (by decide +kernel) (by decide +kernel)
theorem w_371 : (Jvm.Cond.methodLink "ShapeForms$Shape" (72 : Nat) ({ cls := "ShapeForms$Shape", name := "encloses", desc := "(JJ)Z" } : Jvm.MethodName)) ∈ wG := mG 403 (by decide +kernel) (by decide +kernel)
theorem w_372 : (Jvm.Cond.methodLink "ShapeForms$Pair" (13 : Nat) ({ cls := "java/lang/Long", name := "compare", desc := "(JJ)I" } : Jvm.MethodName)) ∈ wG := mG 404 (by decide +kernel) (by decide +kernel)
theorem w_373 : (Jvm.Cond.methodLink "ShapeForms$Pair" (19 : Nat) ({ cls := "ShapeForms$Pair", name := "compareCorners", desc := "(LShapeForms$Shape;LShapeForms$Shape;J)I" } : Jvm.MethodName)) ∈ wG := mG 405 (by decide +kernel) (by decide +kernel)
theorem w_374 : (Jvm.Cond.static ({ cls := "ShapeForms$Pair", name := "compareCorners", desc := "(LShapeForms$Shape;LShapeForms$Shape;J)I" } : Jvm.MethodName)) ∈ wG := mG 406 (by decide +kernel) (by decide +kernel)
theorem w_375 : (Jvm.Cond.code ({ cls := "ShapeForms$Pair", name := "compareCorners", desc := "(LShapeForms$Shape;LShapeForms$Shape;J)I" } : Jvm.MethodName) prog_2_method_3_code (6 : Nat) (Option.some Jvm.ClassFile.FieldType.int)) ∈ wG := mG 407 (by decide +kernel) (by decide +kernel)
theorem w_376 : (Jvm.Cond.methodLink "ShapeForms$Pair" (42 : Nat) ({ cls := "ShapeForms$Shape", name := "compareToSides", desc := "(JJJ)I" } : Jvm.MethodName)) ∈ wG := mG 408 (by decide +kernel) (by decide +kernel)
theorem w_377 : (Jvm.Cond.methodLink "ShapeForms$Pair" (23 : Nat) ({ cls := "java/lang/Math", name := "min", desc := "(II)I" } : Jvm.MethodName)) ∈ wG := mG 409 (by decide +kernel) (by decide +kernel)
theorem w_378 : (Jvm.Cond.methodLink "ShapeFormsLaw" (109 : Nat) ({ cls := "ShapeFormsLaw", name := "boxOf", desc := "(LShapeForms;II[J)I" } : Jvm.MethodName)) ∈ wG := mG 410 (by decide +kernel) (by decide +kernel)
theorem w_379 : (Jvm.Cond.static ({ cls := "ShapeFormsLaw", name := "boxOf", desc := "(LShapeForms;II[J)I" } : Jvm.MethodName)) ∈ wG := mG 411 (by decide +kernel) (by decide +kernel)
theorem w_381 : (Jvm.Cond.methodLink "ShapeFormsLaw" (46 : Nat) ({ cls := "ShapeForms", name := "boxOf", desc := "(II)J" } : Jvm.MethodName)) ∈ wG := mG 413 (by decide +kernel) (by decide +kernel)
theorem w_382 : (Jvm.Cond.instanceMethod ({ cls := "ShapeForms", name := "boxOf", desc := "(II)J" } : Jvm.MethodName)) ∈ wG := mG 414 (by decide +kernel) (by decide +kernel)
theorem w_383 : (Jvm.Cond.selects "ShapeForms" ({ cls := "ShapeForms", name := "boxOf", desc := "(II)J" } : Jvm.MethodName) ({ cls := "ShapeForms", name := "boxOf", desc := "(II)J" } : Jvm.MethodName)) ∈ wG := mG 415 (by decide +kernel) (by decide +kernel)
theorem w_384 : (Jvm.Cond.code ({ cls := "ShapeForms", name := "boxOf", desc := "(II)J" } : Jvm.MethodName) prog_1_method_11_code (4 : Nat) (Option.some Jvm.ClassFile.FieldType.long)) ∈ wG := mG 416 (by decide +kernel) (by decide +kernel)
theorem w_386 : (Jvm.Cond.methodLink "ShapeForms" (116 : Nat) ({ cls := "ShapeForms$Shape", name := "outermost", desc := "(I)J" } : Jvm.MethodName)) ∈ wG := mG 418 (by decide +kernel) (by decide +kernel)
theorem w_387 : (Jvm.Cond.instanceMethod ({ cls := "ShapeForms$Shape", name := "outermost", desc := "(I)J" } : Jvm.MethodName)) ∈ wG := mG 419 (by decide +kernel) (by decide +kernel)
theorem w_388 : (Jvm.Cond.selects "ShapeForms$Shape" ({ cls := "ShapeForms$Shape", name := "outermost", desc := "(I)J" } : Jvm.MethodName) ({ cls := "ShapeForms$Shape", name := "outermost", desc := "(I)J" } : Jvm.MethodName)) ∈ wG := mG 420 (by decide +kernel) (by decide +kernel)
theorem w_389 : (Jvm.Cond.code ({ cls := "ShapeForms$Shape", name := "outermost", desc := "(I)J" } : Jvm.MethodName) prog_3_method_12_code (8 : Nat) (Option.some Jvm.ClassFile.FieldType.long)) ∈ wG := mG 421 (by decide +kernel) (by decide +kernel)
theorem w_390 : (Jvm.Cond.methodLink "ShapeForms$Shape" (63 : Nat) ({ cls := "java/lang/Math", name := "min", desc := "(JJ)J" } : Jvm.MethodName)) ∈ wG := mG 422 (by decide +kernel) (by decide +kernel)
theorem w_391 : (Jvm.Cond.methodLink "ShapeForms$Shape" (69 : Nat) ({ cls := "java/lang/Math", name := "max", desc := "(JJ)J" } : Jvm.MethodName)) ∈ wG := mG 423 (by decide +kernel) (by decide +kernel)
theorem w_392 : (Jvm.Cond.methodLink "ShapeFormsLaw" (113 : Nat) ({ cls := "ShapeFormsLaw", name := "turn", desc := "(LShapeForms;IIZ[J)I" } : Jvm.MethodName)) ∈ wG := mG 424 (by decide +kernel) (by decide +kernel)
theorem w_393 : (Jvm.Cond.static ({ cls := "ShapeFormsLaw", name := "turn", desc := "(LShapeForms;IIZ[J)I" } : Jvm.MethodName)) ∈ wG := mG 425 (by decide +kernel) (by decide +kernel)
theorem w_395 : (Jvm.Cond.methodLink "ShapeFormsLaw" (50 : Nat) ({ cls := "ShapeForms", name := "turn", desc := "(IIZ)I" } : Jvm.MethodName)) ∈ wG := mG 427 (by decide +kernel) (by decide +kernel)
theorem w_396 : (Jvm.Cond.instanceMethod ({ cls := "ShapeForms", name := "turn", desc := "(IIZ)I" } : Jvm.MethodName)) ∈ wG := mG 428 (by decide +kernel) (by decide +kernel)
theorem w_397 : (Jvm.Cond.selects "ShapeForms" ({ cls := "ShapeForms", name := "turn", desc := "(IIZ)I" } : Jvm.MethodName) ({ cls := "ShapeForms", name := "turn", desc := "(IIZ)I" } : Jvm.MethodName)) ∈ wG := mG 429 (by decide +kernel) (by decide +kernel)
theorem w_398 : (Jvm.Cond.code ({ cls := "ShapeForms", name := "turn", desc := "(IIZ)I" } : Jvm.MethodName) prog_1_method_12_code (8 : Nat) (Option.some Jvm.ClassFile.FieldType.int)) ∈ wG := mG 430 (by decide +kernel) (by decide +kernel)
theorem w_399 : (Jvm.Cond.methodLink "ShapeForms" (120 : Nat) ({ cls := "ShapeForms$Shape", name := "mirrorCorners", desc := "()V" } : Jvm.MethodName)) ∈ wG := mG 431 (by decide +kernel) (by decide +kernel)
theorem w_400 : (Jvm.Cond.instanceMethod ({ cls := "ShapeForms$Shape", name := "mirrorCorners", desc := "()V" } : Jvm.MethodName)) ∈ wG := mG 432 (by decide +kernel) (by decide +kernel)
theorem w_401 : (Jvm.Cond.selects "ShapeForms$Shape" ({ cls := "ShapeForms$Shape", name := "mirrorCorners", desc := "()V" } : Jvm.MethodName) ({ cls := "ShapeForms$Shape", name := "mirrorCorners", desc := "()V" } : Jvm.MethodName)) ∈ wG := mG 433 (by decide +kernel) (by decide +kernel)
theorem w_402 : (Jvm.Cond.code ({ cls := "ShapeForms$Shape", name := "mirrorCorners", desc := "()V" } : Jvm.MethodName) prog_3_method_10_code (2 : Nat) (Option.none : Option Jvm.ClassFile.FieldType)) ∈ wG := mG 434 (by decide +kernel) (by decide +kernel)
theorem w_403 : (Jvm.Cond.methodLink "ShapeForms" (123 : Nat) ({ cls := "java/lang/Math", name := "floorMod", desc := "(II)I" } : Jvm.MethodName)) ∈ wG := mG 435 (by decide +kernel) (by decide +kernel)
theorem w_404 : (Jvm.Cond.static ({ cls := "java/lang/Math", name := "floorMod", desc := "(II)I" } : Jvm.MethodName)) ∈ wG := mG 436 (by decide +kernel) (by decide +kernel)
theorem w_405 : (Jvm.Cond.code ({ cls := "java/lang/Math", name := "floorMod", desc := "(II)I" } : Jvm.MethodName) prog_12_method_50_code (3 : Nat) (Option.some Jvm.ClassFile.FieldType.int)) ∈ wG := mG 437 (by decide +kernel) (by decide +kernel)
theorem w_406 : (Jvm.Cond.methodLink "ShapeForms" (129 : Nat) ({ cls := "ShapeForms$Shape", name := "turnCornersOnce", desc := "()V" } : Jvm.MethodName)) ∈ wG := mG 438 (by decide +kernel) (by decide +kernel)
theorem w_407 : (Jvm.Cond.instanceMethod ({ cls := "ShapeForms$Shape", name := "turnCornersOnce", desc := "()V" } : Jvm.MethodName)) ∈ wG := mG 439 (by decide +kernel) (by decide +kernel)
theorem w_408 : (Jvm.Cond.selects "ShapeForms$Shape" ({ cls := "ShapeForms$Shape", name := "turnCornersOnce", desc := "()V" } : Jvm.MethodName) ({ cls := "ShapeForms$Shape", name := "turnCornersOnce", desc := "()V" } : Jvm.MethodName)) ∈ wG := mG 440 (by decide +kernel) (by decide +kernel)
theorem w_409 : (Jvm.Cond.code ({ cls := "ShapeForms$Shape", name := "turnCornersOnce", desc := "()V" } : Jvm.MethodName) prog_3_method_11_code (4 : Nat) (Option.none : Option Jvm.ClassFile.FieldType)) ∈ wG := mG 441 (by decide +kernel) (by decide +kernel)
theorem w_410 : (Jvm.Cond.methodLink "ShapeFormsLaw" (117 : Nat) ({ cls := "ShapeFormsLaw", name := "kind", desc := "(LShapeForms;I[J)I" } : Jvm.MethodName)) ∈ wG := mG 442 (by decide +kernel) (by decide +kernel)
theorem w_411 : (Jvm.Cond.static ({ cls := "ShapeFormsLaw", name := "kind", desc := "(LShapeForms;I[J)I" } : Jvm.MethodName)) ∈ wG := mG 443 (by decide +kernel) (by decide +kernel)
theorem w_413 : (Jvm.Cond.methodLink "ShapeFormsLaw" (54 : Nat) ({ cls := "ShapeForms", name := "kind", desc := "(I)I" } : Jvm.MethodName)) ∈ wG := mG 445 (by decide +kernel) (by decide +kernel)
theorem w_414 : (Jvm.Cond.instanceMethod ({ cls := "ShapeForms", name := "kind", desc := "(I)I" } : Jvm.MethodName)) ∈ wG := mG 446 (by decide +kernel) (by decide +kernel)
theorem w_415 : (Jvm.Cond.selects "ShapeForms" ({ cls := "ShapeForms", name := "kind", desc := "(I)I" } : Jvm.MethodName) ({ cls := "ShapeForms", name := "kind", desc := "(I)I" } : Jvm.MethodName)) ∈ wG := mG 447 (by decide +kernel) (by decide +kernel)
theorem w_416 : (Jvm.Cond.code ({ cls := "ShapeForms", name := "kind", desc := "(I)I" } : Jvm.MethodName) prog_1_method_13_code (3 : Nat) (Option.some Jvm.ClassFile.FieldType.int)) ∈ wG := mG 448 (by decide +kernel) (by decide +kernel)
theorem w_417 : (Jvm.Cond.methodLink "ShapeFormsLaw" (120 : Nat) ({ cls := "ShapeFormsLaw", name := "same", desc := "(LShapeForms;II[J)I" } : Jvm.MethodName)) ∈ wG := mG 449 (by decide +kernel) (by decide +kernel)
theorem w_418 : (Jvm.Cond.static ({ cls := "ShapeFormsLaw", name := "same", desc := "(LShapeForms;II[J)I" } : Jvm.MethodName)) ∈ wG := mG 450 (by decide +kernel) (by decide +kernel)
theorem w_420 : (Jvm.Cond.methodLink "ShapeFormsLaw" (58 : Nat) ({ cls := "ShapeForms", name := "same", desc := "(II)Z" } : Jvm.MethodName)) ∈ wG := mG 452 (by decide +kernel) (by decide +kernel)
theorem w_421 : (Jvm.Cond.instanceMethod ({ cls := "ShapeForms", name := "same", desc := "(II)Z" } : Jvm.MethodName)) ∈ wG := mG 453 (by decide +kernel) (by decide +kernel)
theorem w_422 : (Jvm.Cond.selects "ShapeForms" ({ cls := "ShapeForms", name := "same", desc := "(II)Z" } : Jvm.MethodName) ({ cls := "ShapeForms", name := "same", desc := "(II)Z" } : Jvm.MethodName)) ∈ wG := mG 454 (by decide +kernel) (by decide +kernel)
theorem w_423 : (Jvm.Cond.code ({ cls := "ShapeForms", name := "same", desc := "(II)Z" } : Jvm.MethodName) prog_1_method_14_code (5 : Nat) (Option.some Jvm.ClassFile.FieldType.boolean)) ∈ wG := mG 455 (by decide +kernel) (by decide +kernel)
theorem w_424 : (Jvm.Cond.methodLink "ShapeForms" (135 : Nat) ({ cls := "ShapeForms$Pair", name := "haveOneCore", desc := "(LShapeForms$Shape;LShapeForms$Shape;)Z" } : Jvm.MethodName)) ∈ wG := mG 456 (by decide +kernel) (by decide +kernel)
theorem w_425 : (Jvm.Cond.static ({ cls := "ShapeForms$Pair", name := "haveOneCore", desc := "(LShapeForms$Shape;LShapeForms$Shape;)Z" } : Jvm.MethodName)) ∈ wG := mG 457 (by decide +kernel) (by decide +kernel)
theorem w_426 : (Jvm.Cond.code ({ cls := "ShapeForms$Pair", name := "haveOneCore", desc := "(LShapeForms$Shape;LShapeForms$Shape;)Z" } : Jvm.MethodName) prog_2_method_8_code (2 : Nat) (Option.some Jvm.ClassFile.FieldType.boolean)) ∈ wG := mG 458 (by decide +kernel) (by decide +kernel)
theorem w_427 : (Jvm.Cond.methodLink "ShapeForms$Pair" (79 : Nat) ({ cls := "ShapeForms$Pair", name := "coversAll", desc := "(LShapeForms$Shape;LShapeForms$Shape;)Z" } : Jvm.MethodName)) ∈ wG := mG 459 (by decide +kernel) (by decide +kernel)
theorem w_428 : (Jvm.Cond.static ({ cls := "ShapeForms$Pair", name := "coversAll", desc := "(LShapeForms$Shape;LShapeForms$Shape;)Z" } : Jvm.MethodName)) ∈ wG := mG 460 (by decide +kernel) (by decide +kernel)
theorem w_429 : (Jvm.Cond.code ({ cls := "ShapeForms$Pair", name := "coversAll", desc := "(LShapeForms$Shape;LShapeForms$Shape;)Z" } : Jvm.MethodName) prog_2_method_9_code (3 : Nat) (Option.some Jvm.ClassFile.FieldType.boolean)) ∈ wG := mG 461 (by decide +kernel) (by decide +kernel)
theorem w_430 : (Jvm.Cond.methodLink "ShapeForms$Pair" (82 : Nat) ({ cls := "ShapeForms$Shape", name := "coversSide", desc := "(LShapeForms$Shape;I)Z" } : Jvm.MethodName)) ∈ wG := mG 462 (by decide +kernel) (by decide +kernel)
theorem w_431 : (Jvm.Cond.instanceMethod ({ cls := "ShapeForms$Shape", name := "coversSide", desc := "(LShapeForms$Shape;I)Z" } : Jvm.MethodName)) ∈ wG := mG 463 (by decide +kernel) (by decide +kernel)
theorem w_432 : (Jvm.Cond.selects "ShapeForms$Shape" ({ cls := "ShapeForms$Shape", name := "coversSide", desc := "(LShapeForms$Shape;I)Z" } : Jvm.MethodName) ({ cls := "ShapeForms$Shape", name := "coversSide", desc := "(LShapeForms$Shape;I)Z" } : Jvm.MethodName)) ∈ wG := mG 464 (by decide +kernel) (by decide +kernel)
theorem w_433 : (Jvm.Cond.code ({ cls := "ShapeForms$Shape", name := "coversSide", desc := "(LShapeForms$Shape;I)Z" } : Jvm.MethodName) prog_3_method_19_code (14 : Nat) (Option.some Jvm.ClassFile.FieldType.boolean)) ∈ wG := mG 465 (by decide +kernel) (by decide +kernel)
theorem w_434 : (Jvm.Cond.methodLink "ShapeForms$Shape" (102 : Nat) ({ cls := "ShapeForms$Shape", name := "compareToSides", desc := "(JJJ)I" } : Jvm.MethodName)) ∈ wG := mG 466 (by decide +kernel) (by decide +kernel)
theorem w_435 : (Jvm.Cond.methodLink "ShapeForms$Shape" (106 : Nat) ({ cls := "ShapeForms$Shape", name := "coveredFrom", desc := "(JZLShapeForms$Shape;I)J" } : Jvm.MethodName)) ∈ wG := mG 467 (by decide +kernel) (by decide +kernel)
theorem w_437 : (Jvm.Cond.instanceMethod ({ cls := "ShapeForms$Shape", name := "coveredFrom", desc := "(JZLShapeForms$Shape;I)J" } : Jvm.MethodName)) ∈ wG := mG 469 (by decide +kernel) (by decide +kernel)
theorem w_438 : (Jvm.Cond.code ({ cls := "ShapeForms$Shape", name := "coveredFrom", desc := "(JZLShapeForms$Shape;I)J" } : Jvm.MethodName) prog_3_method_20_code (15 : Nat) (Option.some Jvm.ClassFile.FieldType.long)) ∈ wG := mG 470 (by decide +kernel) (by decide +kernel)
theorem w_439 : (Jvm.Cond.classLink "ShapeFormsLaw" (63 : Nat) "ShapeFormsModel") ∈ wG := mG 471 (by decide +kernel) (by decide +kernel)
theorem w_440 : (Jvm.Cond.instantiable "ShapeFormsModel" (15 : Nat)) ∈ wG := mG 472 (by decide +kernel) (by decide +kernel)
theorem w_441 : (Jvm.Cond.methodLink "ShapeFormsLaw" (65 : Nat) ({ cls := "ShapeFormsModel", name := "<init>", desc := "()V" } : Jvm.MethodName)) ∈ wG := mG 473 (by decide +kernel) (by decide +kernel)
theorem w_442 : (Jvm.Cond.instanceMethod ({ cls := "ShapeFormsModel", name := "<init>", desc := "()V" } : Jvm.MethodName)) ∈ wG := mG 474 (by decide +kernel) (by decide +kernel)
theorem w_443 : (Jvm.Cond.code ({ cls := "ShapeFormsModel", name := "<init>", desc := "()V" } : Jvm.MethodName) prog_6_method_1_code (1 : Nat) (Option.none : Option Jvm.ClassFile.FieldType)) ∈ wG := mG 475 (by decide +kernel) (by decide +kernel)
theorem w_444 : (Jvm.Cond.methodLink "ShapeFormsModel" (1 : Nat) ({ cls := "java/lang/Object", name := "<init>", desc := "()V" } : Jvm.MethodName)) ∈ wG := mG 476 (by decide +kernel) (by decide +kernel)
theorem w_445 : (Jvm.Cond.fieldLink "ShapeFormsModel" (50 : Nat) "ShapeFormsModel" "thrown" "I") ∈ wG := mG 477 (by decide +kernel) (by decide +kernel)
theorem w_446 : (Jvm.Cond.fieldLink "ShapeFormsModel" (60 : Nat) "ShapeFormsModel" "shapes" "I") ∈ wG := mG 478 (by decide +kernel) (by decide +kernel)
theorem w_447 : (Jvm.Cond.fieldLink "ShapeFormsModel" (7 : Nat) "ShapeFormsModel" "kinds" "[I") ∈ wG := mG 479 (by decide +kernel) (by decide +kernel)
theorem w_448 : (Jvm.Cond.fieldLink "ShapeFormsModel" (13 : Nat) "ShapeFormsModel" "radii" "[J") ∈ wG := mG 480 (by decide +kernel) (by decide +kernel)
theorem w_449 : (Jvm.Cond.fieldLink "ShapeFormsModel" (17 : Nat) "ShapeFormsModel" "cornerX" "[J") ∈ wG := mG 481 (by decide +kernel) (by decide +kernel)
theorem w_450 : (Jvm.Cond.fieldLink "ShapeFormsModel" (20 : Nat) "ShapeFormsModel" "cornerY" "[J") ∈ wG := mG 482 (by decide +kernel) (by decide +kernel)
theorem w_451 : (Jvm.Cond.fieldLink "ShapeFormsModel" (23 : Nat) "ShapeFormsModel" "many" "[I") ∈ wG := mG 483 (by decide +kernel) (by decide +kernel)
theorem w_452 : (Jvm.Cond.fieldLink "ShapeFormsModel" (26 : Nat) "ShapeFormsModel" "ends" "[I") ∈ wG := mG 484 (by decide +kernel) (by decide +kernel)
theorem w_453 : (Jvm.Cond.fieldLink "ShapeFormsModel" (29 : Nat) "ShapeFormsModel" "rings" "[I") ∈ wG := mG 485 (by decide +kernel) (by decide +kernel)
theorem w_454 : (Jvm.Cond.fieldLink "ShapeFormsModel" (32 : Nat) "ShapeFormsModel" "ax" "[J") ∈ wG := mG 486 (by decide +kernel) (by decide +kernel)
theorem w_455 : (Jvm.Cond.fieldLink "ShapeFormsModel" (35 : Nat) "ShapeFormsModel" "ay" "[J") ∈ wG := mG 487 (by decide +kernel) (by decide +kernel)
theorem w_456 : (Jvm.Cond.fieldLink "ShapeFormsModel" (38 : Nat) "ShapeFormsModel" "bx" "[J") ∈ wG := mG 488 (by decide +kernel) (by decide +kernel)
theorem w_457 : (Jvm.Cond.fieldLink "ShapeFormsModel" (41 : Nat) "ShapeFormsModel" "by" "[J") ∈ wG := mG 489 (by decide +kernel) (by decide +kernel)
theorem w_458 : (Jvm.Cond.fieldLink "ShapeFormsModel" (44 : Nat) "ShapeFormsModel" "size" "[I") ∈ wG := mG 490 (by decide +kernel) (by decide +kernel)
theorem w_459 : (Jvm.Cond.fieldLink "ShapeFormsModel" (47 : Nat) "ShapeFormsModel" "digits" "[J") ∈ wG := mG 491 (by decide +kernel) (by decide +kernel)
theorem w_460 : (Jvm.Cond.lays "ShapeFormsModel" "ShapeFormsModel" "thrown" "I") ∈ wG := mG 492 (by decide +kernel) (by decide +kernel)
theorem w_461 : (Jvm.Cond.soleField "ShapeFormsModel" "thrown") ∈ wG := mG 493 (by decide +kernel) (by decide +kernel)
theorem w_462 : (Jvm.Cond.lays "ShapeFormsModel" "ShapeFormsModel" "shapes" "I") ∈ wG := mG 494 (by decide +kernel) (by decide +kernel)
theorem w_463 : (Jvm.Cond.soleField "ShapeFormsModel" "shapes") ∈ wG := mG 495 (by decide +kernel) (by decide +kernel)
theorem w_464 : (Jvm.Cond.laysFinal "ShapeFormsModel" "ShapeFormsModel" "kinds" "[I") ∈ wG := mG 496 (by decide +kernel) (by decide +kernel)
theorem w_465 : (Jvm.Cond.soleField "ShapeFormsModel" "kinds") ∈ wG := mG 497 (by decide +kernel) (by decide +kernel)
theorem w_466 : (Jvm.Cond.laysFinal "ShapeFormsModel" "ShapeFormsModel" "radii" "[J") ∈ wG := mG 498 (by decide +kernel) (by decide +kernel)
theorem w_467 : (Jvm.Cond.soleField "ShapeFormsModel" "radii") ∈ wG := mG 499 (by decide +kernel) (by decide +kernel)
theorem w_468 : (Jvm.Cond.laysFinal "ShapeFormsModel" "ShapeFormsModel" "cornerX" "[J") ∈ wG := mG 500 (by decide +kernel) (by decide +kernel)
theorem w_469 : (Jvm.Cond.soleField "ShapeFormsModel" "cornerX") ∈ wG := mG 501 (by decide +kernel) (by decide +kernel)
theorem w_470 : (Jvm.Cond.laysFinal "ShapeFormsModel" "ShapeFormsModel" "cornerY" "[J") ∈ wG := mG 502 (by decide +kernel) (by decide +kernel)
theorem w_471 : (Jvm.Cond.soleField "ShapeFormsModel" "cornerY") ∈ wG := mG 503 (by decide +kernel) (by decide +kernel)
theorem w_472 : (Jvm.Cond.laysFinal "ShapeFormsModel" "ShapeFormsModel" "many" "[I") ∈ wG := mG 504 (by decide +kernel) (by decide +kernel)
theorem w_473 : (Jvm.Cond.soleField "ShapeFormsModel" "many") ∈ wG := mG 505 (by decide +kernel) (by decide +kernel)
theorem w_474 : (Jvm.Cond.laysFinal "ShapeFormsModel" "ShapeFormsModel" "ends" "[I") ∈ wG := mG 506 (by decide +kernel) (by decide +kernel)
theorem w_475 : (Jvm.Cond.soleField "ShapeFormsModel" "ends") ∈ wG := mG 507 (by decide +kernel) (by decide +kernel)
theorem w_476 : (Jvm.Cond.laysFinal "ShapeFormsModel" "ShapeFormsModel" "rings" "[I") ∈ wG := mG 508 (by decide +kernel) (by decide +kernel)
theorem w_477 : (Jvm.Cond.soleField "ShapeFormsModel" "rings") ∈ wG := mG 509 (by decide +kernel) (by decide +kernel)
theorem w_478 : (Jvm.Cond.laysFinal "ShapeFormsModel" "ShapeFormsModel" "ax" "[J") ∈ wG := mG 510 (by decide +kernel) (by decide +kernel)
theorem w_479 : (Jvm.Cond.soleField "ShapeFormsModel" "ax") ∈ wG := mG 511 (by decide +kernel) (by decide +kernel)
theorem w_480 : (Jvm.Cond.laysFinal "ShapeFormsModel" "ShapeFormsModel" "ay" "[J") ∈ wG := mG 512 (by decide +kernel) (by decide +kernel)
theorem w_481 : (Jvm.Cond.soleField "ShapeFormsModel" "ay") ∈ wG := mG 513 (by decide +kernel) (by decide +kernel)
theorem w_482 : (Jvm.Cond.laysFinal "ShapeFormsModel" "ShapeFormsModel" "bx" "[J") ∈ wG := mG 514 (by decide +kernel) (by decide +kernel)
theorem w_483 : (Jvm.Cond.soleField "ShapeFormsModel" "bx") ∈ wG := mG 515 (by decide +kernel) (by decide +kernel)
theorem w_484 : (Jvm.Cond.laysFinal "ShapeFormsModel" "ShapeFormsModel" "by" "[J") ∈ wG := mG 516 (by decide +kernel) (by decide +kernel)
theorem w_485 : (Jvm.Cond.soleField "ShapeFormsModel" "by") ∈ wG := mG 517 (by decide +kernel) (by decide +kernel)
theorem w_486 : (Jvm.Cond.laysFinal "ShapeFormsModel" "ShapeFormsModel" "size" "[I") ∈ wG := mG 518 (by decide +kernel) (by decide +kernel)
theorem w_487 : (Jvm.Cond.soleField "ShapeFormsModel" "size") ∈ wG := mG 519 (by decide +kernel) (by decide +kernel)
theorem w_488 : (Jvm.Cond.laysFinal "ShapeFormsModel" "ShapeFormsModel" "digits" "[J") ∈ wG := mG 520 (by decide +kernel) (by decide +kernel)
theorem w_489 : (Jvm.Cond.soleField "ShapeFormsModel" "digits") ∈ wG := mG 521 (by decide +kernel) (by decide +kernel)
theorem w_490 : (Jvm.Cond.superclass "ShapeFormsModel" "java/lang/Object") ∈ wG := mG 522 (by decide +kernel) (by decide +kernel)
theorem w_491 : (Jvm.Cond.methodLink "ShapeFormsLaw" (74 : Nat) ({ cls := "ShapeFormsModel", name := "thrown", desc := "()I" } : Jvm.MethodName)) ∈ wG := mG 523 (by decide +kernel) (by decide +kernel)
theorem w_492 : (Jvm.Cond.instanceMethod ({ cls := "ShapeFormsModel", name := "thrown", desc := "()I" } : Jvm.MethodName)) ∈ wG := mG 524 (by decide +kernel) (by decide +kernel)
theorem w_493 : (Jvm.Cond.selects "ShapeFormsModel" ({ cls := "ShapeFormsModel", name := "thrown", desc := "()I" } : Jvm.MethodName) ({ cls := "ShapeFormsModel", name := "thrown", desc := "()I" } : Jvm.MethodName)) ∈ wG := mG 525 (by decide +kernel) (by decide +kernel)
theorem w_494 : (Jvm.Cond.code ({ cls := "ShapeFormsModel", name := "thrown", desc := "()I" } : Jvm.MethodName) prog_6_method_2_code (1 : Nat) (Option.some Jvm.ClassFile.FieldType.int)) ∈ wG := mG 526 (by decide +kernel) (by decide +kernel)
theorem w_495 : (Jvm.Cond.methodLink "ShapeFormsLaw" (73 : Nat) ({ cls := "ShapeFormsModel", name := "circle", desc := "(JJJ)I" } : Jvm.MethodName)) ∈ wG := mG 527 (by decide +kernel) (by decide +kernel)
theorem w_496 : (Jvm.Cond.instanceMethod ({ cls := "ShapeFormsModel", name := "circle", desc := "(JJJ)I" } : Jvm.MethodName)) ∈ wG := mG 528 (by decide +kernel) (by decide +kernel)
theorem w_497 : (Jvm.Cond.selects "ShapeFormsModel" ({ cls := "ShapeFormsModel", name := "circle", desc := "(JJJ)I" } : Jvm.MethodName) ({ cls := "ShapeFormsModel", name := "circle", desc := "(JJJ)I" } : Jvm.MethodName)) ∈ wG := mG 529 (by decide +kernel) (by decide +kernel)
theorem w_498 : (Jvm.Cond.code ({ cls := "ShapeFormsModel", name := "circle", desc := "(JJJ)I" } : Jvm.MethodName) prog_6_method_10_code (8 : Nat) (Option.some Jvm.ClassFile.FieldType.int)) ∈ wG := mG 530 (by decide +kernel) (by decide +kernel)
theorem w_499 : (Jvm.Cond.methodLink "ShapeFormsModel" (67 : Nat) ({ cls := "ShapeFormsModel", name := "isPlace", desc := "(JJ)Z" } : Jvm.MethodName)) ∈ wG := mG 531 (by decide +kernel) (by decide +kernel)
theorem w_500 : (Jvm.Cond.static ({ cls := "ShapeFormsModel", name := "isPlace", desc := "(JJ)Z" } : Jvm.MethodName)) ∈ wG := mG 532 (by decide +kernel) (by decide +kernel)
theorem w_501 : (Jvm.Cond.code ({ cls := "ShapeFormsModel", name := "isPlace", desc := "(JJ)Z" } : Jvm.MethodName) prog_6_method_3_code (4 : Nat) (Option.some Jvm.ClassFile.FieldType.boolean)) ∈ wG := mG 533 (by decide +kernel) (by decide +kernel)
theorem w_502 : (Jvm.Cond.constantLong "ShapeFormsModel" (54 : Nat) (-500000000 : Int64)) ∈ wG := mG 534 (by decide +kernel) (by decide +kernel)
theorem w_503 : (Jvm.Cond.constantLong "ShapeFormsModel" (56 : Nat) (500000000 : Int64)) ∈ wG := mG 535 (by decide +kernel) (by decide +kernel)
theorem w_504 : (Jvm.Cond.methodLink "ShapeFormsModel" (71 : Nat) ({ cls := "ShapeFormsModel", name := "isRadius", desc := "(J)Z" } : Jvm.MethodName)) ∈ wG := mG 536 (by decide +kernel) (by decide +kernel)
theorem w_505 : (Jvm.Cond.static ({ cls := "ShapeFormsModel", name := "isRadius", desc := "(J)Z" } : Jvm.MethodName)) ∈ wG := mG 537 (by decide +kernel) (by decide +kernel)
theorem w_506 : (Jvm.Cond.code ({ cls := "ShapeFormsModel", name := "isRadius", desc := "(J)Z" } : Jvm.MethodName) prog_6_method_4_code (2 : Nat) (Option.some Jvm.ClassFile.FieldType.boolean)) ∈ wG := mG 538 (by decide +kernel) (by decide +kernel)
theorem w_507 : (Jvm.Cond.constantLong "ShapeFormsModel" (58 : Nat) (1000000000 : Int64)) ∈ wG := mG 539 (by decide +kernel) (by decide +kernel)
theorem w_508 : (Jvm.Cond.methodLink "ShapeFormsModel" (75 : Nat) ({ cls := "ShapeFormsModel", name := "begin", desc := "(IJ)I" } : Jvm.MethodName)) ∈ wG := mG 540 (by decide +kernel) (by decide +kernel)
theorem w_510 : (Jvm.Cond.instanceMethod ({ cls := "ShapeFormsModel", name := "begin", desc := "(IJ)I" } : Jvm.MethodName)) ∈ wG := mG 542 (by decide +kernel) (by decide +kernel)
theorem w_511 : (Jvm.Cond.code ({ cls := "ShapeFormsModel", name := "begin", desc := "(IJ)I" } : Jvm.MethodName) prog_6_method_8_code (4 : Nat) (Option.some Jvm.ClassFile.FieldType.int)) ∈ wG := mG 543 (by decide +kernel) (by decide +kernel)
theorem w_512 : (Jvm.Cond.methodLink "ShapeFormsModel" (79 : Nat) ({ cls := "ShapeFormsModel", name := "add", desc := "(IJJ)V" } : Jvm.MethodName)) ∈ wG := mG 544 (by decide +kernel) (by decide +kernel)
theorem w_514 : (Jvm.Cond.instanceMethod ({ cls := "ShapeFormsModel", name := "add", desc := "(IJJ)V" } : Jvm.MethodName)) ∈ wG := mG 546 (by decide +kernel) (by decide +kernel)
theorem w_515 : (Jvm.Cond.code ({ cls := "ShapeFormsModel", name := "add", desc := "(IJJ)V" } : Jvm.MethodName) prog_6_method_9_code (6 : Nat) (Option.none : Option Jvm.ClassFile.FieldType)) ∈ wG := mG 547 (by decide +kernel) (by decide +kernel)
theorem w_516 : (Jvm.Cond.methodLink "ShapeFormsLaw" (81 : Nat) ({ cls := "ShapeFormsModel", name := "box", desc := "(JJJJJ)I" } : Jvm.MethodName)) ∈ wG := mG 548 (by decide +kernel) (by decide +kernel)
theorem w_517 : (Jvm.Cond.instanceMethod ({ cls := "ShapeFormsModel", name := "box", desc := "(JJJJJ)I" } : Jvm.MethodName)) ∈ wG := mG 549 (by decide +kernel) (by decide +kernel)
theorem w_518 : (Jvm.Cond.selects "ShapeFormsModel" ({ cls := "ShapeFormsModel", name := "box", desc := "(JJJJJ)I" } : Jvm.MethodName) ({ cls := "ShapeFormsModel", name := "box", desc := "(JJJJJ)I" } : Jvm.MethodName)) ∈ wG := mG 550 (by decide +kernel) (by decide +kernel)
theorem w_519 : (Jvm.Cond.code ({ cls := "ShapeFormsModel", name := "box", desc := "(JJJJJ)I" } : Jvm.MethodName) prog_6_method_11_code (13 : Nat) (Option.some Jvm.ClassFile.FieldType.int)) ∈ wG := mG 551 (by decide +kernel) (by decide +kernel)
theorem w_520 : (Jvm.Cond.methodLink "ShapeFormsLaw" (85 : Nat) ({ cls := "ShapeFormsModel", name := "polygon", desc := "()I" } : Jvm.MethodName)) ∈ wG := mG 552 (by decide +kernel) (by decide +kernel)
theorem w_521 : (Jvm.Cond.instanceMethod ({ cls := "ShapeFormsModel", name := "polygon", desc := "()I" } : Jvm.MethodName)) ∈ wG := mG 553 (by decide +kernel) (by decide +kernel)
theorem w_522 : (Jvm.Cond.selects "ShapeFormsModel" ({ cls := "ShapeFormsModel", name := "polygon", desc := "()I" } : Jvm.MethodName) ({ cls := "ShapeFormsModel", name := "polygon", desc := "()I" } : Jvm.MethodName)) ∈ wG := mG 554 (by decide +kernel) (by decide +kernel)
theorem w_523 : (Jvm.Cond.code ({ cls := "ShapeFormsModel", name := "polygon", desc := "()I" } : Jvm.MethodName) prog_6_method_12_code (1 : Nat) (Option.some Jvm.ClassFile.FieldType.int)) ∈ wG := mG 555 (by decide +kernel) (by decide +kernel)
theorem w_524 : (Jvm.Cond.methodLink "ShapeFormsLaw" (89 : Nat) ({ cls := "ShapeFormsModel", name := "trace", desc := "(J)I" } : Jvm.MethodName)) ∈ wG := mG 556 (by decide +kernel) (by decide +kernel)
theorem w_525 : (Jvm.Cond.instanceMethod ({ cls := "ShapeFormsModel", name := "trace", desc := "(J)I" } : Jvm.MethodName)) ∈ wG := mG 557 (by decide +kernel) (by decide +kernel)
theorem w_526 : (Jvm.Cond.selects "ShapeFormsModel" ({ cls := "ShapeFormsModel", name := "trace", desc := "(J)I" } : Jvm.MethodName) ({ cls := "ShapeFormsModel", name := "trace", desc := "(J)I" } : Jvm.MethodName)) ∈ wG := mG 558 (by decide +kernel) (by decide +kernel)
theorem w_527 : (Jvm.Cond.code ({ cls := "ShapeFormsModel", name := "trace", desc := "(J)I" } : Jvm.MethodName) prog_6_method_13_code (3 : Nat) (Option.some Jvm.ClassFile.FieldType.int)) ∈ wG := mG 559 (by decide +kernel) (by decide +kernel)
theorem w_528 : (Jvm.Cond.constantLong "ShapeFormsModel" (83 : Nat) (2000000000 : Int64)) ∈ wG := mG 560 (by decide +kernel) (by decide +kernel)
theorem w_529 : (Jvm.Cond.constantLong "ShapeFormsModel" (85 : Nat) (2 : Int64)) ∈ wG := mG 561 (by decide +kernel) (by decide +kernel)
theorem w_530 : (Jvm.Cond.methodLink "ShapeFormsLaw" (93 : Nat) ({ cls := "ShapeFormsModel", name := "corner", desc := "(IJJ)Z" } : Jvm.MethodName)) ∈ wG := mG 562 (by decide +kernel) (by decide +kernel)
theorem w_531 : (Jvm.Cond.instanceMethod ({ cls := "ShapeFormsModel", name := "corner", desc := "(IJJ)Z" } : Jvm.MethodName)) ∈ wG := mG 563 (by decide +kernel) (by decide +kernel)
theorem w_532 : (Jvm.Cond.selects "ShapeFormsModel" ({ cls := "ShapeFormsModel", name := "corner", desc := "(IJJ)Z" } : Jvm.MethodName) ({ cls := "ShapeFormsModel", name := "corner", desc := "(IJJ)Z" } : Jvm.MethodName)) ∈ wG := mG 564 (by decide +kernel) (by decide +kernel)
theorem w_533 : (Jvm.Cond.code ({ cls := "ShapeFormsModel", name := "corner", desc := "(IJJ)Z" } : Jvm.MethodName) prog_6_method_14_code (8 : Nat) (Option.some Jvm.ClassFile.FieldType.boolean)) ∈ wG := mG 565 (by decide +kernel) (by decide +kernel)
theorem w_534 : (Jvm.Cond.methodLink "ShapeFormsModel" (87 : Nat) ({ cls := "ShapeFormsModel", name := "isShape", desc := "(I)Z" } : Jvm.MethodName)) ∈ wG := mG 566 (by decide +kernel) (by decide +kernel)
theorem w_536 : (Jvm.Cond.instanceMethod ({ cls := "ShapeFormsModel", name := "isShape", desc := "(I)Z" } : Jvm.MethodName)) ∈ wG := mG 568 (by decide +kernel) (by decide +kernel)
theorem w_537 : (Jvm.Cond.code ({ cls := "ShapeFormsModel", name := "isShape", desc := "(I)Z" } : Jvm.MethodName) prog_6_method_5_code (2 : Nat) (Option.some Jvm.ClassFile.FieldType.boolean)) ∈ wG := mG 569 (by decide +kernel) (by decide +kernel)
theorem w_538 : (Jvm.Cond.methodLink "ShapeFormsModel" (63 : Nat) ({ cls := "ShapeFormsModel", name := "closed", desc := "(I)I" } : Jvm.MethodName)) ∈ wG := mG 570 (by decide +kernel) (by decide +kernel)
theorem w_540 : (Jvm.Cond.instanceMethod ({ cls := "ShapeFormsModel", name := "closed", desc := "(I)I" } : Jvm.MethodName)) ∈ wG := mG 572 (by decide +kernel) (by decide +kernel)
theorem w_541 : (Jvm.Cond.code ({ cls := "ShapeFormsModel", name := "closed", desc := "(I)I" } : Jvm.MethodName) prog_6_method_6_code (2 : Nat) (Option.some Jvm.ClassFile.FieldType.int)) ∈ wG := mG 573 (by decide +kernel) (by decide +kernel)
theorem w_542 : (Jvm.Cond.methodLink "ShapeFormsLaw" (97 : Nat) ({ cls := "ShapeFormsModel", name := "ring", desc := "(I)Z" } : Jvm.MethodName)) ∈ wG := mG 574 (by decide +kernel) (by decide +kernel)
theorem w_543 : (Jvm.Cond.instanceMethod ({ cls := "ShapeFormsModel", name := "ring", desc := "(I)Z" } : Jvm.MethodName)) ∈ wG := mG 575 (by decide +kernel) (by decide +kernel)
theorem w_544 : (Jvm.Cond.selects "ShapeFormsModel" ({ cls := "ShapeFormsModel", name := "ring", desc := "(I)Z" } : Jvm.MethodName) ({ cls := "ShapeFormsModel", name := "ring", desc := "(I)Z" } : Jvm.MethodName)) ∈ wG := mG 576 (by decide +kernel) (by decide +kernel)
theorem w_545 : (Jvm.Cond.code ({ cls := "ShapeFormsModel", name := "ring", desc := "(I)Z" } : Jvm.MethodName) prog_6_method_28_code (6 : Nat) (Option.some Jvm.ClassFile.FieldType.boolean)) ∈ wG := mG 577 (by decide +kernel) (by decide +kernel)
theorem w_546 : (Jvm.Cond.methodLink "ShapeFormsModel" (134 : Nat) ({ cls := "ShapeFormsModel", name := "isEmpty", desc := "(III)Z" } : Jvm.MethodName)) ∈ wG := mG 578 (by decide +kernel) (by decide +kernel)
theorem w_548 : (Jvm.Cond.instanceMethod ({ cls := "ShapeFormsModel", name := "isEmpty", desc := "(III)Z" } : Jvm.MethodName)) ∈ wG := mG 580 (by decide +kernel) (by decide +kernel)
theorem w_549 : (Jvm.Cond.code ({ cls := "ShapeFormsModel", name := "isEmpty", desc := "(III)Z" } : Jvm.MethodName) prog_6_method_24_code (7 : Nat) (Option.some Jvm.ClassFile.FieldType.boolean)) ∈ wG := mG 581 (by decide +kernel) (by decide +kernel)
theorem w_550 : (Jvm.Cond.methodLink "ShapeFormsModel" (111 : Nat) ({ cls := "ShapeFormsModel", name := "x", desc := "(II)J" } : Jvm.MethodName)) ∈ wG := mG 582 (by decide +kernel) (by decide +kernel)
theorem w_552 : (Jvm.Cond.instanceMethod ({ cls := "ShapeFormsModel", name := "x", desc := "(II)J" } : Jvm.MethodName)) ∈ wG := mG 584 (by decide +kernel) (by decide +kernel)
theorem w_553 : (Jvm.Cond.code ({ cls := "ShapeFormsModel", name := "x", desc := "(II)J" } : Jvm.MethodName) prog_6_method_21_code (3 : Nat) (Option.some Jvm.ClassFile.FieldType.long)) ∈ wG := mG 585 (by decide +kernel) (by decide +kernel)
theorem w_554 : (Jvm.Cond.methodLink "ShapeFormsModel" (115 : Nat) ({ cls := "ShapeFormsModel", name := "y", desc := "(II)J" } : Jvm.MethodName)) ∈ wG := mG 586 (by decide +kernel) (by decide +kernel)
theorem w_556 : (Jvm.Cond.instanceMethod ({ cls := "ShapeFormsModel", name := "y", desc := "(II)J" } : Jvm.MethodName)) ∈ wG := mG 588 (by decide +kernel) (by decide +kernel)
theorem w_557 : (Jvm.Cond.code ({ cls := "ShapeFormsModel", name := "y", desc := "(II)J" } : Jvm.MethodName) prog_6_method_22_code (3 : Nat) (Option.some Jvm.ClassFile.FieldType.long)) ∈ wG := mG 589 (by decide +kernel) (by decide +kernel)
theorem w_558 : (Jvm.Cond.methodLink "ShapeFormsModel" (103 : Nat) ({ cls := "ShapeFormsModel", name := "turnOf", desc := "(JJJJJJ)I" } : Jvm.MethodName)) ∈ wG := mG 590 (by decide +kernel) (by decide +kernel)
theorem w_559 : (Jvm.Cond.static ({ cls := "ShapeFormsModel", name := "turnOf", desc := "(JJJJJJ)I" } : Jvm.MethodName)) ∈ wG := mG 591 (by decide +kernel) (by decide +kernel)
theorem w_560 : (Jvm.Cond.code ({ cls := "ShapeFormsModel", name := "turnOf", desc := "(JJJJJJ)I" } : Jvm.MethodName) prog_6_method_17_code (12 : Nat) (Option.some Jvm.ClassFile.FieldType.int)) ∈ wG := mG 592 (by decide +kernel) (by decide +kernel)
theorem w_561 : (Jvm.Cond.methodLink "ShapeFormsModel" (91 : Nat) ({ cls := "ShapeFormsModel", name := "cross", desc := "(JJJJ)J" } : Jvm.MethodName)) ∈ wG := mG 593 (by decide +kernel) (by decide +kernel)
theorem w_562 : (Jvm.Cond.static ({ cls := "ShapeFormsModel", name := "cross", desc := "(JJJJ)J" } : Jvm.MethodName)) ∈ wG := mG 594 (by decide +kernel) (by decide +kernel)
theorem w_563 : (Jvm.Cond.code ({ cls := "ShapeFormsModel", name := "cross", desc := "(JJJJ)J" } : Jvm.MethodName) prog_6_method_15_code (8 : Nat) (Option.some Jvm.ClassFile.FieldType.long)) ∈ wG := mG 595 (by decide +kernel) (by decide +kernel)
theorem w_564 : (Jvm.Cond.methodLink "ShapeFormsModel" (95 : Nat) ({ cls := "ShapeFormsModel", name := "sign", desc := "(J)I" } : Jvm.MethodName)) ∈ wG := mG 596 (by decide +kernel) (by decide +kernel)
theorem w_565 : (Jvm.Cond.static ({ cls := "ShapeFormsModel", name := "sign", desc := "(J)I" } : Jvm.MethodName)) ∈ wG := mG 597 (by decide +kernel) (by decide +kernel)
theorem w_566 : (Jvm.Cond.code ({ cls := "ShapeFormsModel", name := "sign", desc := "(J)I" } : Jvm.MethodName) prog_6_method_16_code (2 : Nat) (Option.some Jvm.ClassFile.FieldType.int)) ∈ wG := mG 598 (by decide +kernel) (by decide +kernel)
theorem w_567 : (Jvm.Cond.methodLink "ShapeFormsModel" (138 : Nat) ({ cls := "ShapeFormsModel", name := "isCrossing", desc := "(III)Z" } : Jvm.MethodName)) ∈ wG := mG 599 (by decide +kernel) (by decide +kernel)
theorem w_569 : (Jvm.Cond.instanceMethod ({ cls := "ShapeFormsModel", name := "isCrossing", desc := "(III)Z" } : Jvm.MethodName)) ∈ wG := mG 601 (by decide +kernel) (by decide +kernel)
theorem w_570 : (Jvm.Cond.code ({ cls := "ShapeFormsModel", name := "isCrossing", desc := "(III)Z" } : Jvm.MethodName) prog_6_method_27_code (9 : Nat) (Option.some Jvm.ClassFile.FieldType.boolean)) ∈ wG := mG 602 (by decide +kernel) (by decide +kernel)
theorem w_571 : (Jvm.Cond.methodLink "ShapeFormsModel" (126 : Nat) ({ cls := "ShapeFormsModel", name := "foldsBack", desc := "(IIII)Z" } : Jvm.MethodName)) ∈ wG := mG 603 (by decide +kernel) (by decide +kernel)
theorem w_573 : (Jvm.Cond.instanceMethod ({ cls := "ShapeFormsModel", name := "foldsBack", desc := "(IIII)Z" } : Jvm.MethodName)) ∈ wG := mG 605 (by decide +kernel) (by decide +kernel)
theorem w_574 : (Jvm.Cond.code ({ cls := "ShapeFormsModel", name := "foldsBack", desc := "(IIII)Z" } : Jvm.MethodName) prog_6_method_25_code (10 : Nat) (Option.some Jvm.ClassFile.FieldType.boolean)) ∈ wG := mG 606 (by decide +kernel) (by decide +kernel)
theorem w_575 : (Jvm.Cond.methodLink "ShapeFormsModel" (118 : Nat) ({ cls := "ShapeFormsModel", name := "behind", desc := "(III)I" } : Jvm.MethodName)) ∈ wG := mG 607 (by decide +kernel) (by decide +kernel)
theorem w_576 : (Jvm.Cond.static ({ cls := "ShapeFormsModel", name := "behind", desc := "(III)I" } : Jvm.MethodName)) ∈ wG := mG 608 (by decide +kernel) (by decide +kernel)
theorem w_577 : (Jvm.Cond.code ({ cls := "ShapeFormsModel", name := "behind", desc := "(III)I" } : Jvm.MethodName) prog_6_method_23_code (3 : Nat) (Option.some Jvm.ClassFile.FieldType.int)) ∈ wG := mG 609 (by decide +kernel) (by decide +kernel)
theorem w_578 : (Jvm.Cond.methodLink "ShapeFormsModel" (107 : Nat) ({ cls := "ShapeFormsModel", name := "isOn", desc := "(JJJJJJ)Z" } : Jvm.MethodName)) ∈ wG := mG 610 (by decide +kernel) (by decide +kernel)
theorem w_579 : (Jvm.Cond.static ({ cls := "ShapeFormsModel", name := "isOn", desc := "(JJJJJJ)Z" } : Jvm.MethodName)) ∈ wG := mG 611 (by decide +kernel) (by decide +kernel)
theorem w_580 : (Jvm.Cond.code ({ cls := "ShapeFormsModel", name := "isOn", desc := "(JJJJJJ)Z" } : Jvm.MethodName) prog_6_method_19_code (12 : Nat) (Option.some Jvm.ClassFile.FieldType.boolean)) ∈ wG := mG 612 (by decide +kernel) (by decide +kernel)
theorem w_581 : (Jvm.Cond.methodLink "ShapeFormsModel" (99 : Nat) ({ cls := "ShapeFormsModel", name := "between", desc := "(JJJ)Z" } : Jvm.MethodName)) ∈ wG := mG 613 (by decide +kernel) (by decide +kernel)
theorem w_582 : (Jvm.Cond.static ({ cls := "ShapeFormsModel", name := "between", desc := "(JJJ)Z" } : Jvm.MethodName)) ∈ wG := mG 614 (by decide +kernel) (by decide +kernel)
theorem w_583 : (Jvm.Cond.code ({ cls := "ShapeFormsModel", name := "between", desc := "(JJJ)Z" } : Jvm.MethodName) prog_6_method_18_code (6 : Nat) (Option.some Jvm.ClassFile.FieldType.boolean)) ∈ wG := mG 615 (by decide +kernel) (by decide +kernel)
theorem w_584 : (Jvm.Cond.methodLink "ShapeFormsModel" (130 : Nat) ({ cls := "ShapeFormsModel", name := "sidesMeet", desc := "(IIIIIII)Z" } : Jvm.MethodName)) ∈ wG := mG 616 (by decide +kernel) (by decide +kernel)
theorem w_586 : (Jvm.Cond.instanceMethod ({ cls := "ShapeFormsModel", name := "sidesMeet", desc := "(IIIIIII)Z" } : Jvm.MethodName)) ∈ wG := mG 618 (by decide +kernel) (by decide +kernel)
theorem w_587 : (Jvm.Cond.code ({ cls := "ShapeFormsModel", name := "sidesMeet", desc := "(IIIIIII)Z" } : Jvm.MethodName) prog_6_method_26_code (10 : Nat) (Option.some Jvm.ClassFile.FieldType.boolean)) ∈ wG := mG 619 (by decide +kernel) (by decide +kernel)
theorem w_588 : (Jvm.Cond.methodLink "ShapeFormsModel" (122 : Nat) ({ cls := "ShapeFormsModel", name := "meet", desc := "(JJJJJJJJ)Z" } : Jvm.MethodName)) ∈ wG := mG 620 (by decide +kernel) (by decide +kernel)
theorem w_589 : (Jvm.Cond.static ({ cls := "ShapeFormsModel", name := "meet", desc := "(JJJJJJJJ)Z" } : Jvm.MethodName)) ∈ wG := mG 621 (by decide +kernel) (by decide +kernel)
theorem w_590 : (Jvm.Cond.code ({ cls := "ShapeFormsModel", name := "meet", desc := "(JJJJJJJJ)Z" } : Jvm.MethodName) prog_6_method_20_code (18 : Nat) (Option.some Jvm.ClassFile.FieldType.boolean)) ∈ wG := mG 622 (by decide +kernel) (by decide +kernel)
theorem w_591 : (Jvm.Cond.methodLink "ShapeFormsLaw" (108 : Nat) ({ cls := "ShapeFormsModel", name := "nearer", desc := "(IIJ)I" } : Jvm.MethodName)) ∈ wG := mG 623 (by decide +kernel) (by decide +kernel)
theorem w_592 : (Jvm.Cond.instanceMethod ({ cls := "ShapeFormsModel", name := "nearer", desc := "(IIJ)I" } : Jvm.MethodName)) ∈ wG := mG 624 (by decide +kernel) (by decide +kernel)
theorem w_593 : (Jvm.Cond.selects "ShapeFormsModel" ({ cls := "ShapeFormsModel", name := "nearer", desc := "(IIJ)I" } : Jvm.MethodName) ({ cls := "ShapeFormsModel", name := "nearer", desc := "(IIJ)I" } : Jvm.MethodName)) ∈ wG := mG 625 (by decide +kernel) (by decide +kernel)
theorem w_594 : (Jvm.Cond.code ({ cls := "ShapeFormsModel", name := "nearer", desc := "(IIJ)I" } : Jvm.MethodName) prog_6_method_39_code (6 : Nat) (Option.some Jvm.ClassFile.FieldType.int)) ∈ wG := mG 626 (by decide +kernel) (by decide +kernel)
theorem w_595 : (Jvm.Cond.methodLink "ShapeFormsModel" (177 : Nat) ({ cls := "ShapeFormsModel", name := "isWhole", desc := "(I)Z" } : Jvm.MethodName)) ∈ wG := mG 627 (by decide +kernel) (by decide +kernel)
theorem w_597 : (Jvm.Cond.instanceMethod ({ cls := "ShapeFormsModel", name := "isWhole", desc := "(I)Z" } : Jvm.MethodName)) ∈ wG := mG 629 (by decide +kernel) (by decide +kernel)
theorem w_598 : (Jvm.Cond.code ({ cls := "ShapeFormsModel", name := "isWhole", desc := "(I)Z" } : Jvm.MethodName) prog_6_method_7_code (2 : Nat) (Option.some Jvm.ClassFile.FieldType.boolean)) ∈ wG := mG 630 (by decide +kernel) (by decide +kernel)
theorem w_599 : (Jvm.Cond.methodLink "ShapeFormsModel" (180 : Nat) ({ cls := "ShapeFormsModel", name := "coresApart", desc := "(IIJ)I" } : Jvm.MethodName)) ∈ wG := mG 631 (by decide +kernel) (by decide +kernel)
theorem w_601 : (Jvm.Cond.instanceMethod ({ cls := "ShapeFormsModel", name := "coresApart", desc := "(IIJ)I" } : Jvm.MethodName)) ∈ wG := mG 633 (by decide +kernel) (by decide +kernel)
theorem w_602 : (Jvm.Cond.code ({ cls := "ShapeFormsModel", name := "coresApart", desc := "(IIJ)I" } : Jvm.MethodName) prog_6_method_38_code (9 : Nat) (Option.some Jvm.ClassFile.FieldType.int)) ∈ wG := mG 634 (by decide +kernel) (by decide +kernel)
theorem w_603 : (Jvm.Cond.methodLink "ShapeFormsModel" (165 : Nat) ({ cls := "ShapeFormsModel", name := "pieces", desc := "(II)V" } : Jvm.MethodName)) ∈ wG := mG 635 (by decide +kernel) (by decide +kernel)
theorem w_605 : (Jvm.Cond.instanceMethod ({ cls := "ShapeFormsModel", name := "pieces", desc := "(II)V" } : Jvm.MethodName)) ∈ wG := mG 637 (by decide +kernel) (by decide +kernel)
theorem w_606 : (Jvm.Cond.code ({ cls := "ShapeFormsModel", name := "pieces", desc := "(II)V" } : Jvm.MethodName) prog_6_method_30_code (7 : Nat) (Option.none : Option Jvm.ClassFile.FieldType)) ∈ wG := mG 638 (by decide +kernel) (by decide +kernel)
theorem w_607 : (Jvm.Cond.methodLink "ShapeFormsModel" (141 : Nat) ({ cls := "ShapeFormsModel", name := "piece", desc := "(IJJJJ)V" } : Jvm.MethodName)) ∈ wG := mG 639 (by decide +kernel) (by decide +kernel)
theorem w_609 : (Jvm.Cond.instanceMethod ({ cls := "ShapeFormsModel", name := "piece", desc := "(IJJJJ)V" } : Jvm.MethodName)) ∈ wG := mG 641 (by decide +kernel) (by decide +kernel)
theorem w_610 : (Jvm.Cond.code ({ cls := "ShapeFormsModel", name := "piece", desc := "(IJJJJ)V" } : Jvm.MethodName) prog_6_method_29_code (11 : Nat) (Option.none : Option Jvm.ClassFile.FieldType)) ∈ wG := mG 642 (by decide +kernel) (by decide +kernel)
theorem w_611 : (Jvm.Cond.methodLink "ShapeFormsModel" (169 : Nat) ({ cls := "ShapeFormsModel", name := "haveCommon", desc := "(II)Z" } : Jvm.MethodName)) ∈ wG := mG 643 (by decide +kernel) (by decide +kernel)
theorem w_613 : (Jvm.Cond.instanceMethod ({ cls := "ShapeFormsModel", name := "haveCommon", desc := "(II)Z" } : Jvm.MethodName)) ∈ wG := mG 645 (by decide +kernel) (by decide +kernel)
theorem w_614 : (Jvm.Cond.code ({ cls := "ShapeFormsModel", name := "haveCommon", desc := "(II)Z" } : Jvm.MethodName) prog_6_method_37_code (5 : Nat) (Option.some Jvm.ClassFile.FieldType.boolean)) ∈ wG := mG 646 (by decide +kernel) (by decide +kernel)
theorem w_615 : (Jvm.Cond.methodLink "ShapeFormsModel" (161 : Nat) ({ cls := "ShapeFormsModel", name := "isInCore", desc := "(IIJJ)Z" } : Jvm.MethodName)) ∈ wG := mG 647 (by decide +kernel) (by decide +kernel)
theorem w_617 : (Jvm.Cond.instanceMethod ({ cls := "ShapeFormsModel", name := "isInCore", desc := "(IIJJ)Z" } : Jvm.MethodName)) ∈ wG := mG 649 (by decide +kernel) (by decide +kernel)
theorem w_618 : (Jvm.Cond.code ({ cls := "ShapeFormsModel", name := "isInCore", desc := "(IIJJ)Z" } : Jvm.MethodName) prog_6_method_32_code (10 : Nat) (Option.some Jvm.ClassFile.FieldType.boolean)) ∈ wG := mG 650 (by decide +kernel) (by decide +kernel)
theorem w_619 : (Jvm.Cond.methodLink "ShapeFormsModel" (145 : Nat) ({ cls := "ShapeFormsModel", name := "hasArea", desc := "(I)Z" } : Jvm.MethodName)) ∈ wG := mG 651 (by decide +kernel) (by decide +kernel)
theorem w_621 : (Jvm.Cond.instanceMethod ({ cls := "ShapeFormsModel", name := "hasArea", desc := "(I)Z" } : Jvm.MethodName)) ∈ wG := mG 653 (by decide +kernel) (by decide +kernel)
theorem w_622 : (Jvm.Cond.code ({ cls := "ShapeFormsModel", name := "hasArea", desc := "(I)Z" } : Jvm.MethodName) prog_6_method_31_code (2 : Nat) (Option.some Jvm.ClassFile.FieldType.boolean)) ∈ wG := mG 654 (by decide +kernel) (by decide +kernel)
theorem w_623 : (Jvm.Cond.methodLink "ShapeFormsModel" (173 : Nat) ({ cls := "ShapeFormsModel", name := "apart", desc := "(IIJ)I" } : Jvm.MethodName)) ∈ wG := mG 655 (by decide +kernel) (by decide +kernel)
theorem w_625 : (Jvm.Cond.instanceMethod ({ cls := "ShapeFormsModel", name := "apart", desc := "(IIJ)I" } : Jvm.MethodName)) ∈ wG := mG 657 (by decide +kernel) (by decide +kernel)
theorem w_626 : (Jvm.Cond.code ({ cls := "ShapeFormsModel", name := "apart", desc := "(IIJ)I" } : Jvm.MethodName) prog_6_method_36_code (11 : Nat) (Option.some Jvm.ClassFile.FieldType.int)) ∈ wG := mG 658 (by decide +kernel) (by decide +kernel)
theorem w_627 : (Jvm.Cond.methodLink "ShapeFormsModel" (157 : Nat) ({ cls := "ShapeFormsModel", name := "farther", desc := "(JJJJJJJ)I" } : Jvm.MethodName)) ∈ wG := mG 659 (by decide +kernel) (by decide +kernel)
theorem w_629 : (Jvm.Cond.instanceMethod ({ cls := "ShapeFormsModel", name := "farther", desc := "(JJJJJJJ)I" } : Jvm.MethodName)) ∈ wG := mG 661 (by decide +kernel) (by decide +kernel)
theorem w_630 : (Jvm.Cond.code ({ cls := "ShapeFormsModel", name := "farther", desc := "(JJJJJJJ)I" } : Jvm.MethodName) prog_6_method_35_code (27 : Nat) (Option.some Jvm.ClassFile.FieldType.int)) ∈ wG := mG 662 (by decide +kernel) (by decide +kernel)
theorem w_631 : (Jvm.Cond.methodLink "ShapeFormsModel" (153 : Nat) ({ cls := "ShapeFormsModel", name := "compareProducts", desc := "(JJJJ)I" } : Jvm.MethodName)) ∈ wG := mG 663 (by decide +kernel) (by decide +kernel)
theorem w_633 : (Jvm.Cond.instanceMethod ({ cls := "ShapeFormsModel", name := "compareProducts", desc := "(JJJJ)I" } : Jvm.MethodName)) ∈ wG := mG 665 (by decide +kernel) (by decide +kernel)
theorem w_634 : (Jvm.Cond.code ({ cls := "ShapeFormsModel", name := "compareProducts", desc := "(JJJJ)I" } : Jvm.MethodName) prog_6_method_34_code (10 : Nat) (Option.some Jvm.ClassFile.FieldType.int)) ∈ wG := mG 666 (by decide +kernel) (by decide +kernel)
theorem w_635 : (Jvm.Cond.methodLink "ShapeFormsModel" (150 : Nat) ({ cls := "ShapeFormsModel", name := "multiply", desc := "(IJJ)V" } : Jvm.MethodName)) ∈ wG := mG 667 (by decide +kernel) (by decide +kernel)
theorem w_637 : (Jvm.Cond.instanceMethod ({ cls := "ShapeFormsModel", name := "multiply", desc := "(IJJ)V" } : Jvm.MethodName)) ∈ wG := mG 669 (by decide +kernel) (by decide +kernel)
theorem w_638 : (Jvm.Cond.code ({ cls := "ShapeFormsModel", name := "multiply", desc := "(IJJ)V" } : Jvm.MethodName) prog_6_method_33_code (24 : Nat) (Option.none : Option Jvm.ClassFile.FieldType)) ∈ wG := mG 670 (by decide +kernel) (by decide +kernel)
theorem w_639 : (Jvm.Cond.constantLong "ShapeFormsModel" (148 : Nat) (4294967295 : Int64)) ∈ wG := mG 671 (by decide +kernel) (by decide +kernel)
theorem w_640 : (Jvm.Cond.methodLink "ShapeFormsLaw" (104 : Nat) ({ cls := "ShapeFormsModel", name := "inside", desc := "(IJJ)Z" } : Jvm.MethodName)) ∈ wG := mG 672 (by decide +kernel) (by decide +kernel)
theorem w_641 : (Jvm.Cond.instanceMethod ({ cls := "ShapeFormsModel", name := "inside", desc := "(IJJ)Z" } : Jvm.MethodName)) ∈ wG := mG 673 (by decide +kernel) (by decide +kernel)
theorem w_642 : (Jvm.Cond.selects "ShapeFormsModel" ({ cls := "ShapeFormsModel", name := "inside", desc := "(IJJ)Z" } : Jvm.MethodName) ({ cls := "ShapeFormsModel", name := "inside", desc := "(IJJ)Z" } : Jvm.MethodName)) ∈ wG := mG 674 (by decide +kernel) (by decide +kernel)
theorem w_643 : (Jvm.Cond.code ({ cls := "ShapeFormsModel", name := "inside", desc := "(IJJ)Z" } : Jvm.MethodName) prog_6_method_40_code (7 : Nat) (Option.some Jvm.ClassFile.FieldType.boolean)) ∈ wG := mG 675 (by decide +kernel) (by decide +kernel)
theorem w_644 : (Jvm.Cond.methodLink "ShapeFormsLaw" (101 : Nat) ({ cls := "ShapeFormsModel", name := "grow", desc := "(IJ)I" } : Jvm.MethodName)) ∈ wG := mG 676 (by decide +kernel) (by decide +kernel)
theorem w_645 : (Jvm.Cond.instanceMethod ({ cls := "ShapeFormsModel", name := "grow", desc := "(IJ)I" } : Jvm.MethodName)) ∈ wG := mG 677 (by decide +kernel) (by decide +kernel)
theorem w_646 : (Jvm.Cond.selects "ShapeFormsModel" ({ cls := "ShapeFormsModel", name := "grow", desc := "(IJ)I" } : Jvm.MethodName) ({ cls := "ShapeFormsModel", name := "grow", desc := "(IJ)I" } : Jvm.MethodName)) ∈ wG := mG 678 (by decide +kernel) (by decide +kernel)
theorem w_647 : (Jvm.Cond.code ({ cls := "ShapeFormsModel", name := "grow", desc := "(IJ)I" } : Jvm.MethodName) prog_6_method_42_code (4 : Nat) (Option.some Jvm.ClassFile.FieldType.int)) ∈ wG := mG 679 (by decide +kernel) (by decide +kernel)
theorem w_648 : (Jvm.Cond.constantLong "ShapeFormsModel" (183 : Nat) (-1000000000 : Int64)) ∈ wG := mG 680 (by decide +kernel) (by decide +kernel)
theorem w_649 : (Jvm.Cond.methodLink "ShapeFormsModel" (185 : Nat) ({ cls := "ShapeFormsModel", name := "copy", desc := "(IJ)I" } : Jvm.MethodName)) ∈ wG := mG 681 (by decide +kernel) (by decide +kernel)
theorem w_651 : (Jvm.Cond.instanceMethod ({ cls := "ShapeFormsModel", name := "copy", desc := "(IJ)I" } : Jvm.MethodName)) ∈ wG := mG 683 (by decide +kernel) (by decide +kernel)
theorem w_652 : (Jvm.Cond.code ({ cls := "ShapeFormsModel", name := "copy", desc := "(IJ)I" } : Jvm.MethodName) prog_6_method_41_code (6 : Nat) (Option.some Jvm.ClassFile.FieldType.int)) ∈ wG := mG 684 (by decide +kernel) (by decide +kernel)
theorem w_653 : (Jvm.Cond.methodLink "ShapeFormsLaw" (116 : Nat) ({ cls := "ShapeFormsModel", name := "turn", desc := "(IIZ)I" } : Jvm.MethodName)) ∈ wG := mG 685 (by decide +kernel) (by decide +kernel)
theorem w_654 : (Jvm.Cond.instanceMethod ({ cls := "ShapeFormsModel", name := "turn", desc := "(IIZ)I" } : Jvm.MethodName)) ∈ wG := mG 686 (by decide +kernel) (by decide +kernel)
theorem w_655 : (Jvm.Cond.selects "ShapeFormsModel" ({ cls := "ShapeFormsModel", name := "turn", desc := "(IIZ)I" } : Jvm.MethodName) ({ cls := "ShapeFormsModel", name := "turn", desc := "(IIZ)I" } : Jvm.MethodName)) ∈ wG := mG 687 (by decide +kernel) (by decide +kernel)
theorem w_656 : (Jvm.Cond.code ({ cls := "ShapeFormsModel", name := "turn", desc := "(IIZ)I" } : Jvm.MethodName) prog_6_method_43_code (10 : Nat) (Option.some Jvm.ClassFile.FieldType.int)) ∈ wG := mG 688 (by decide +kernel) (by decide +kernel)
theorem w_657 : (Jvm.Cond.methodLink "ShapeFormsModel" (188 : Nat) ({ cls := "ShapeFormsModel", name := "order", desc := "(I)V" } : Jvm.MethodName)) ∈ wG := mG 689 (by decide +kernel) (by decide +kernel)
theorem w_659 : (Jvm.Cond.instanceMethod ({ cls := "ShapeFormsModel", name := "order", desc := "(I)V" } : Jvm.MethodName)) ∈ wG := mG 691 (by decide +kernel) (by decide +kernel)
theorem w_660 : (Jvm.Cond.code ({ cls := "ShapeFormsModel", name := "order", desc := "(I)V" } : Jvm.MethodName) prog_6_method_44_code (10 : Nat) (Option.none : Option Jvm.ClassFile.FieldType)) ∈ wG := mG 692 (by decide +kernel) (by decide +kernel)
theorem w_661 : (Jvm.Cond.methodLink "ShapeFormsLaw" (112 : Nat) ({ cls := "ShapeFormsModel", name := "boxOf", desc := "(II)J" } : Jvm.MethodName)) ∈ wG := mG 693 (by decide +kernel) (by decide +kernel)
theorem w_662 : (Jvm.Cond.instanceMethod ({ cls := "ShapeFormsModel", name := "boxOf", desc := "(II)J" } : Jvm.MethodName)) ∈ wG := mG 694 (by decide +kernel) (by decide +kernel)
theorem w_663 : (Jvm.Cond.selects "ShapeFormsModel" ({ cls := "ShapeFormsModel", name := "boxOf", desc := "(II)J" } : Jvm.MethodName) ({ cls := "ShapeFormsModel", name := "boxOf", desc := "(II)J" } : Jvm.MethodName)) ∈ wG := mG 695 (by decide +kernel) (by decide +kernel)
theorem w_664 : (Jvm.Cond.code ({ cls := "ShapeFormsModel", name := "boxOf", desc := "(II)J" } : Jvm.MethodName) prog_6_method_45_code (10 : Nat) (Option.some Jvm.ClassFile.FieldType.long)) ∈ wG := mG 696 (by decide +kernel) (by decide +kernel)
theorem w_665 : (Jvm.Cond.methodLink "ShapeFormsLaw" (119 : Nat) ({ cls := "ShapeFormsModel", name := "kind", desc := "(I)I" } : Jvm.MethodName)) ∈ wG := mG 697 (by decide +kernel) (by decide +kernel)
theorem w_666 : (Jvm.Cond.instanceMethod ({ cls := "ShapeFormsModel", name := "kind", desc := "(I)I" } : Jvm.MethodName)) ∈ wG := mG 698 (by decide +kernel) (by decide +kernel)
theorem w_667 : (Jvm.Cond.selects "ShapeFormsModel" ({ cls := "ShapeFormsModel", name := "kind", desc := "(I)I" } : Jvm.MethodName) ({ cls := "ShapeFormsModel", name := "kind", desc := "(I)I" } : Jvm.MethodName)) ∈ wG := mG 699 (by decide +kernel) (by decide +kernel)
theorem w_668 : (Jvm.Cond.code ({ cls := "ShapeFormsModel", name := "kind", desc := "(I)I" } : Jvm.MethodName) prog_6_method_46_code (2 : Nat) (Option.some Jvm.ClassFile.FieldType.int)) ∈ wG := mG 700 (by decide +kernel) (by decide +kernel)
theorem w_669 : (Jvm.Cond.methodLink "ShapeFormsLaw" (122 : Nat) ({ cls := "ShapeFormsModel", name := "same", desc := "(II)Z" } : Jvm.MethodName)) ∈ wG := mG 701 (by decide +kernel) (by decide +kernel)
theorem w_670 : (Jvm.Cond.instanceMethod ({ cls := "ShapeFormsModel", name := "same", desc := "(II)Z" } : Jvm.MethodName)) ∈ wG := mG 702 (by decide +kernel) (by decide +kernel)
theorem w_671 : (Jvm.Cond.selects "ShapeFormsModel" ({ cls := "ShapeFormsModel", name := "same", desc := "(II)Z" } : Jvm.MethodName) ({ cls := "ShapeFormsModel", name := "same", desc := "(II)Z" } : Jvm.MethodName)) ∈ wG := mG 703 (by decide +kernel) (by decide +kernel)
theorem w_672 : (Jvm.Cond.code ({ cls := "ShapeFormsModel", name := "same", desc := "(II)Z" } : Jvm.MethodName) prog_6_method_51_code (3 : Nat) (Option.some Jvm.ClassFile.FieldType.boolean)) ∈ wG := mG 704 (by decide +kernel) (by decide +kernel)
theorem w_673 : (Jvm.Cond.methodLink "ShapeFormsModel" (203 : Nat) ({ cls := "ShapeFormsModel", name := "covers", desc := "(II)Z" } : Jvm.MethodName)) ∈ wG := mG 705 (by decide +kernel) (by decide +kernel)
theorem w_675 : (Jvm.Cond.instanceMethod ({ cls := "ShapeFormsModel", name := "covers", desc := "(II)Z" } : Jvm.MethodName)) ∈ wG := mG 707 (by decide +kernel) (by decide +kernel)
theorem w_676 : (Jvm.Cond.code ({ cls := "ShapeFormsModel", name := "covers", desc := "(II)Z" } : Jvm.MethodName) prog_6_method_50_code (5 : Nat) (Option.some Jvm.ClassFile.FieldType.boolean)) ∈ wG := mG 708 (by decide +kernel) (by decide +kernel)
theorem w_677 : (Jvm.Cond.methodLink "ShapeFormsModel" (200 : Nat) ({ cls := "ShapeFormsModel", name := "isCovered", desc := "(II)Z" } : Jvm.MethodName)) ∈ wG := mG 709 (by decide +kernel) (by decide +kernel)
theorem w_679 : (Jvm.Cond.instanceMethod ({ cls := "ShapeFormsModel", name := "isCovered", desc := "(II)Z" } : Jvm.MethodName)) ∈ wG := mG 711 (by decide +kernel) (by decide +kernel)
theorem w_680 : (Jvm.Cond.code ({ cls := "ShapeFormsModel", name := "isCovered", desc := "(II)Z" } : Jvm.MethodName) prog_6_method_49_code (14 : Nat) (Option.some Jvm.ClassFile.FieldType.boolean)) ∈ wG := mG 712 (by decide +kernel) (by decide +kernel)
theorem w_681 : (Jvm.Cond.methodLink "ShapeFormsModel" (192 : Nat) ({ cls := "ShapeFormsModel", name := "isAhead", desc := "(IJJJJ)Z" } : Jvm.MethodName)) ∈ wG := mG 713 (by decide +kernel) (by decide +kernel)
theorem w_683 : (Jvm.Cond.instanceMethod ({ cls := "ShapeFormsModel", name := "isAhead", desc := "(IJJJJ)Z" } : Jvm.MethodName)) ∈ wG := mG 715 (by decide +kernel) (by decide +kernel)
theorem w_684 : (Jvm.Cond.code ({ cls := "ShapeFormsModel", name := "isAhead", desc := "(IJJJJ)Z" } : Jvm.MethodName) prog_6_method_48_code (10 : Nat) (Option.some Jvm.ClassFile.FieldType.boolean)) ∈ wG := mG 716 (by decide +kernel) (by decide +kernel)
theorem w_685 : (Jvm.Cond.methodLink "ShapeFormsModel" (196 : Nat) ({ cls := "ShapeFormsModel", name := "isLine", desc := "(II[J[J[J[J)Z" } : Jvm.MethodName)) ∈ wG := mG 717 (by decide +kernel) (by decide +kernel)
theorem w_686 : (Jvm.Cond.static ({ cls := "ShapeFormsModel", name := "isLine", desc := "(II[J[J[J[J)Z" } : Jvm.MethodName)) ∈ wG := mG 718 (by decide +kernel) (by decide +kernel)
theorem w_687 : (Jvm.Cond.code ({ cls := "ShapeFormsModel", name := "isLine", desc := "(II[J[J[J[J)Z" } : Jvm.MethodName) prog_6_method_47_code (6 : Nat) (Option.some Jvm.ClassFile.FieldType.boolean)) ∈ wG := mG 719 (by decide +kernel) (by decide +kernel)
theorem w_688 : (Jvm.Cond.constantLong "ShapeFormsLaw" (66 : Nat) (4294967295 : Int64)) ∈ wG := mG 720 (by decide +kernel) (by decide +kernel)
theorem w_689 : (Jvm.Cond.sameMethod "java/lang/Throwable" "java/lang/Throwable" "fillInStackTrace" "(I)Ljava/lang/Throwable;") ∈ wG := mG 721 (by decide +kernel) (by decide +kernel)
theorem wp_0 : Cond.selects "ShapeForms" ⟨"ShapeForms", "keep", "(LShapeForms$Shape;)I"⟩ ⟨"ShapeForms", "keep", "(LShapeForms$Shape;)I"⟩ ∈ wG := mG 0 (by decide +kernel) (by decide +kernel)
theorem wp_1 : Cond.selects "java/lang/Throwable" ⟨"java/lang/Throwable", "fillInStackTrace", "(I)Ljava/lang/Throwable;"⟩ ⟨"java/lang/Throwable", "fillInStackTrace", "(I)Ljava/lang/Throwable;"⟩ ∈ wG := mG 1 (by decide +kernel) (by decide +kernel)
theorem wp_2 : Cond.selects "ShapeForms" ⟨"ShapeForms", "find", "(I)LShapeForms$Shape;"⟩ ⟨"ShapeForms", "find", "(I)LShapeForms$Shape;"⟩ ∈ wG := mG 2 (by decide +kernel) (by decide +kernel)
theorem wp_3 : Cond.selects "ShapeForms$Shape" ⟨"ShapeForms$Shape", "compareToSide", "(IJJJ)I"⟩ ⟨"ShapeForms$Shape", "compareToSide", "(IJJJ)I"⟩ ∈ wG := mG 3 (by decide +kernel) (by decide +kernel)
theorem wp_4 : Cond.selects "ShapeForms$Shape" ⟨"ShapeForms$Shape", "squareTo", "(IJJ)J"⟩ ⟨"ShapeForms$Shape", "squareTo", "(IJJ)J"⟩ ∈ wG := mG 4 (by decide +kernel) (by decide +kernel)
theorem wp_5 : Cond.selects "ShapeForms$Shape" ⟨"ShapeForms$Shape", "coveredFrom", "(JZLShapeForms$Shape;I)J"⟩ ⟨"ShapeForms$Shape", "coveredFrom", "(JZLShapeForms$Shape;I)J"⟩ ∈ wG := mG 5 (by decide +kernel) (by decide +kernel)
theorem wp_6 : Cond.selects "ShapeFormsModel" ⟨"ShapeFormsModel", "begin", "(IJ)I"⟩ ⟨"ShapeFormsModel", "begin", "(IJ)I"⟩ ∈ wG := mG 6 (by decide +kernel) (by decide +kernel)
theorem wp_7 : Cond.selects "ShapeFormsModel" ⟨"ShapeFormsModel", "add", "(IJJ)V"⟩ ⟨"ShapeFormsModel", "add", "(IJJ)V"⟩ ∈ wG := mG 7 (by decide +kernel) (by decide +kernel)
theorem wp_8 : Cond.selects "ShapeFormsModel" ⟨"ShapeFormsModel", "isShape", "(I)Z"⟩ ⟨"ShapeFormsModel", "isShape", "(I)Z"⟩ ∈ wG := mG 8 (by decide +kernel) (by decide +kernel)
theorem wp_9 : Cond.selects "ShapeFormsModel" ⟨"ShapeFormsModel", "closed", "(I)I"⟩ ⟨"ShapeFormsModel", "closed", "(I)I"⟩ ∈ wG := mG 9 (by decide +kernel) (by decide +kernel)
theorem wp_10 : Cond.selects "ShapeFormsModel" ⟨"ShapeFormsModel", "isEmpty", "(III)Z"⟩ ⟨"ShapeFormsModel", "isEmpty", "(III)Z"⟩ ∈ wG := mG 10 (by decide +kernel) (by decide +kernel)
theorem wp_11 : Cond.selects "ShapeFormsModel" ⟨"ShapeFormsModel", "x", "(II)J"⟩ ⟨"ShapeFormsModel", "x", "(II)J"⟩ ∈ wG := mG 11 (by decide +kernel) (by decide +kernel)
theorem wp_12 : Cond.selects "ShapeFormsModel" ⟨"ShapeFormsModel", "y", "(II)J"⟩ ⟨"ShapeFormsModel", "y", "(II)J"⟩ ∈ wG := mG 12 (by decide +kernel) (by decide +kernel)
theorem wp_13 : Cond.selects "ShapeFormsModel" ⟨"ShapeFormsModel", "isCrossing", "(III)Z"⟩ ⟨"ShapeFormsModel", "isCrossing", "(III)Z"⟩ ∈ wG := mG 13 (by decide +kernel) (by decide +kernel)
theorem wp_14 : Cond.selects "ShapeFormsModel" ⟨"ShapeFormsModel", "foldsBack", "(IIII)Z"⟩ ⟨"ShapeFormsModel", "foldsBack", "(IIII)Z"⟩ ∈ wG := mG 14 (by decide +kernel) (by decide +kernel)
theorem wp_15 : Cond.selects "ShapeFormsModel" ⟨"ShapeFormsModel", "sidesMeet", "(IIIIIII)Z"⟩ ⟨"ShapeFormsModel", "sidesMeet", "(IIIIIII)Z"⟩ ∈ wG := mG 15 (by decide +kernel) (by decide +kernel)
theorem wp_16 : Cond.selects "ShapeFormsModel" ⟨"ShapeFormsModel", "isWhole", "(I)Z"⟩ ⟨"ShapeFormsModel", "isWhole", "(I)Z"⟩ ∈ wG := mG 16 (by decide +kernel) (by decide +kernel)
theorem wp_17 : Cond.selects "ShapeFormsModel" ⟨"ShapeFormsModel", "coresApart", "(IIJ)I"⟩ ⟨"ShapeFormsModel", "coresApart", "(IIJ)I"⟩ ∈ wG := mG 17 (by decide +kernel) (by decide +kernel)
theorem wp_18 : Cond.selects "ShapeFormsModel" ⟨"ShapeFormsModel", "pieces", "(II)V"⟩ ⟨"ShapeFormsModel", "pieces", "(II)V"⟩ ∈ wG := mG 18 (by decide +kernel) (by decide +kernel)
theorem wp_19 : Cond.selects "ShapeFormsModel" ⟨"ShapeFormsModel", "piece", "(IJJJJ)V"⟩ ⟨"ShapeFormsModel", "piece", "(IJJJJ)V"⟩ ∈ wG := mG 19 (by decide +kernel) (by decide +kernel)
theorem wp_20 : Cond.selects "ShapeFormsModel" ⟨"ShapeFormsModel", "haveCommon", "(II)Z"⟩ ⟨"ShapeFormsModel", "haveCommon", "(II)Z"⟩ ∈ wG := mG 20 (by decide +kernel) (by decide +kernel)
theorem wp_21 : Cond.selects "ShapeFormsModel" ⟨"ShapeFormsModel", "isInCore", "(IIJJ)Z"⟩ ⟨"ShapeFormsModel", "isInCore", "(IIJJ)Z"⟩ ∈ wG := mG 21 (by decide +kernel) (by decide +kernel)
theorem wp_22 : Cond.selects "ShapeFormsModel" ⟨"ShapeFormsModel", "hasArea", "(I)Z"⟩ ⟨"ShapeFormsModel", "hasArea", "(I)Z"⟩ ∈ wG := mG 22 (by decide +kernel) (by decide +kernel)
theorem wp_23 : Cond.selects "ShapeFormsModel" ⟨"ShapeFormsModel", "apart", "(IIJ)I"⟩ ⟨"ShapeFormsModel", "apart", "(IIJ)I"⟩ ∈ wG := mG 23 (by decide +kernel) (by decide +kernel)
theorem wp_24 : Cond.selects "ShapeFormsModel" ⟨"ShapeFormsModel", "farther", "(JJJJJJJ)I"⟩ ⟨"ShapeFormsModel", "farther", "(JJJJJJJ)I"⟩ ∈ wG := mG 24 (by decide +kernel) (by decide +kernel)
theorem wp_25 : Cond.selects "ShapeFormsModel" ⟨"ShapeFormsModel", "compareProducts", "(JJJJ)I"⟩ ⟨"ShapeFormsModel", "compareProducts", "(JJJJ)I"⟩ ∈ wG := mG 25 (by decide +kernel) (by decide +kernel)
theorem wp_26 : Cond.selects "ShapeFormsModel" ⟨"ShapeFormsModel", "multiply", "(IJJ)V"⟩ ⟨"ShapeFormsModel", "multiply", "(IJJ)V"⟩ ∈ wG := mG 26 (by decide +kernel) (by decide +kernel)
theorem wp_27 : Cond.selects "ShapeFormsModel" ⟨"ShapeFormsModel", "copy", "(IJ)I"⟩ ⟨"ShapeFormsModel", "copy", "(IJ)I"⟩ ∈ wG := mG 27 (by decide +kernel) (by decide +kernel)
theorem wp_28 : Cond.selects "ShapeFormsModel" ⟨"ShapeFormsModel", "order", "(I)V"⟩ ⟨"ShapeFormsModel", "order", "(I)V"⟩ ∈ wG := mG 28 (by decide +kernel) (by decide +kernel)
theorem wp_29 : Cond.selects "ShapeFormsModel" ⟨"ShapeFormsModel", "covers", "(II)Z"⟩ ⟨"ShapeFormsModel", "covers", "(II)Z"⟩ ∈ wG := mG 29 (by decide +kernel) (by decide +kernel)
theorem wp_30 : Cond.selects "ShapeFormsModel" ⟨"ShapeFormsModel", "isCovered", "(II)Z"⟩ ⟨"ShapeFormsModel", "isCovered", "(II)Z"⟩ ∈ wG := mG 30 (by decide +kernel) (by decide +kernel)
theorem wp_31 : Cond.selects "ShapeFormsModel" ⟨"ShapeFormsModel", "isAhead", "(IJJJJ)Z"⟩ ⟨"ShapeFormsModel", "isAhead", "(IJJJJ)Z"⟩ ∈ wG := mG 31 (by decide +kernel) (by decide +kernel)
end
section
/-! Own base: pure functions in Option, and rows that read them -/
def ld {α : Type} (n : Nat) (f : Nat → α) (i : Int32) : Option α := if (i < 0 ∨ n ≤ i.toNatClampNeg) then none else some (f i.toNatClampNeg)
theorem ld_of {α : Type} {n : Nat} {f : Nat → α} {i : Int32} {x : α} (h : ld n f i = some x) : vp_in i n ∧ f i.toNatClampNeg = x := by
  unfold ld at h
  by_cases c : (i < 0 ∨ n ≤ i.toNatClampNeg)
  · rw [if_pos c] at h; cases h
  · rw [if_neg c] at h; exact ⟨c, Option.some.inj h⟩
theorem ob_some {α β : Type} {o : Option α} {f : α → Option β} {r : β} (h : o.bind f = some r) : ∃ x, o = some x ∧ f x = some r := by
  cases o with
  | none => cases h
  | some x => exact ⟨x, rfl, h⟩
theorem it_t {α : Type} {c : Prop} [Decidable c] {a b r : α} (hc : c) (h : (if c then a else b) = r) : a = r := by rw [if_pos hc] at h; exact h
theorem it_f {α : Type} {c : Prop} [Decidable c] {a b r : α} (hc : ¬ c) (h : (if c then a else b) = r) : b = r := by rw [if_neg hc] at h; exact h
/-- a boolean answer: 0 or 1 -/
def rb (x : Int32) : Option Int32 := if x = 0 ∨ x = 1 then some x else none
theorem rb_of {x r : Int32} (h : rb x = some r) : narrow .boolean (.int x) = .int x ∧ x = r := by
  unfold rb at h
  by_cases c : (x = 0 ∨ x = 1)
  · rw [if_pos c] at h
    refine ⟨?_, Option.some.inj h⟩
    rcases c with c | c <;> rw [c] <;> decide
  · rw [if_neg c] at h; cases h
theorem nil_locs {P : Addr → Prop} : ∀ q ∈ ([] : List Loc), P q.base := fun _ h => nomatch h
/-- what a reading method takes: its arguments, a picture of the heap, the classes -/
abbrev rd_Pc (av : List Value) (F : Heap → Prop) (D : va_G) (cl : List vw_C) (tys : List (ClassId × FieldType)) : Array Value → State → Prop := va_Pc av (fun U => F U.heap ∧ va_K D cl tys U)
theorem rd_blind {av : List Value} {F : Heap → Prop} {D : va_G} {cl : List vw_C} {tys : List (ClassId × FieldType)} : FrameBlind (rd_Pc av F D cl tys) := fun a U g mk q => by
  obtain ⟨q0, qP, qK⟩ := q
  exact ⟨q0, qP, va_K.moved (u := U) (U := U.calling g mk a) (Vm.Alike.refl U.vm) qK⟩
theorem rd_pre {av : List Value} {F : Heap → Prop} {D : va_G} {cl : List vw_C} {tys : List (ClassId × FieldType)} {s : State} {H : Heap} (hF : F H) (hK : va_K D cl tys s) : ∀ U : State, U.heap = H → s.WarmedH U.vm → rd_Pc av F D cl tys av.toArray U := fun U hU hW => ⟨rfl, by rw [hU]; exact hF, va_K.moved hW.alike hK⟩
theorem good_all {w : Cond} (h : w ∈ wG) : w ∈ wG ∧ ((w.onTables && w.keeps) = true ∨ ∃ ty, w = .arrayClass ty) := ⟨h, good_of_word (List.mem_filter.mp h).2⟩
theorem gV {own C : String} {i : Nat} {y : MethodName} {b : ByteArray} {n : Nat} {r : Option FieldType} (h1 : Cond.methodLink own i y ∈ wG) (h2 : Cond.instanceMethod y ∈ wG) (h3 : Cond.selects C y y ∈ wG) (h4 : Cond.initialized C ∈ wG) (h5 : Cond.code y b n r ∈ wG) : GoodIn wG (wsV own i C y (.code y b n r :: wG)) := by
  intro w hw
  unfold wsV at hw
  simp only [List.cons_append, List.nil_append, List.mem_cons] at hw
  rcases hw with e | e | e | e | e | h
  · rw [e]; exact good_all h1
  · rw [e]; exact good_all h2
  · rw [e]; exact good_all h3
  · rw [e]; exact good_all h4
  · rw [e]; exact good_all h5
  · exact good_all h
theorem gS {own : String} {i : Nat} {y : MethodName} {b : ByteArray} {n : Nat} {r : Option FieldType} (h1 : Cond.methodLink own i y ∈ wG) (h2 : Cond.static y ∈ wG) (h4 : Cond.initialized y.cls ∈ wG) (h5 : Cond.code y b n r ∈ wG) : GoodIn wG (va_wsS own i y (.code y b n r :: wG)) := by
  intro w hw
  unfold va_wsS at hw
  simp only [List.cons_append, List.nil_append, List.mem_cons] at hw
  rcases hw with e | e | e | e | h
  · rw [e]; exact good_all h1
  · rw [e]; exact good_all h2
  · rw [e]; exact good_all h4
  · rw [e]; exact good_all h5
  · exact good_all h
/-! A shape of the class, as a value: form, filled, radius, xs, ys, ends, count, open; and its four cells -/
abbrev SV : Type := Int32 × Int32 × Int64 × (Nat → Int64) × (Nat → Int64) × (Nat → Int32) × Int32 × Int32
def sF (v : SV) : Int32 := v.1
def sB (v : SV) : Int32 := v.2.1
def sR (v : SV) : Int64 := v.2.2.1
def sX (v : SV) : Nat → Int64 := v.2.2.2.1
def sY (v : SV) : Nat → Int64 := v.2.2.2.2.1
def sE (v : SV) : Nat → Int32 := v.2.2.2.2.2.1
def sN (v : SV) : Int32 := v.2.2.2.2.2.2.1
def sO (v : SV) : Int32 := v.2.2.2.2.2.2.2
def shW (cL cI : ClassId) (a ax ay ae : Nat) (v : SV) : va_W := [(a, .inr (0, [.int (sF v), .int (sB v), .long (sR v), .ref ax, .ref ay, .ref ae, .int (sN v), .int (sO v)])), (ax, .inl (cL, 48, .inr (.inl (sX v)))), (ay, .inl (cL, 48, .inr (.inl (sY v)))), (ae, .inl (cI, 48, .inl (sE v)))]
end
section
/-! Long.compare, Math, the class Wide: reading methods, laid by program -/
theorem wm_min_I : Cond.code Lib.Math.min.name Lib.Math.min.code 2 (some .int) ∈ wG := w_348
theorem wm_min_J : Cond.code Lib.MathLoose.min_long.x Lib.MathLoose.min_long.code 4 (some .long) ∈ wG := w_280
theorem wm_max_J : Cond.code Lib.MathLoose.max_long.x Lib.MathLoose.max_long.code 4 (some .long) ∈ wG := w_283
theorem wm_abs_J : Cond.code Lib.MathLoose.abs_long.x Lib.MathLoose.abs_long.code 2 (some .long) ∈ wG := w_336
theorem dJL_compare_JJ_0 : decode cJL_compare_JJ 0 = .ok (.lload_n 0, 1) := by decide +kernel
theorem dJL_compare_JJ_1 : decode cJL_compare_JJ 1 = .ok (.lload_n 2, 1) := by decide +kernel
theorem dJL_compare_JJ_2 : decode cJL_compare_JJ 2 = .ok (.lcmp, 1) := by decide +kernel
theorem dJL_compare_JJ_3 : decode cJL_compare_JJ 3 = .ok (.ifCond .ge 7, 3) := by decide +kernel
theorem dJL_compare_JJ_6 : decode cJL_compare_JJ 6 = .ok (.iconst (-1), 1) := by decide +kernel
theorem dJL_compare_JJ_7 : decode cJL_compare_JJ 7 = .ok (.goto 14, 3) := by decide +kernel
theorem dJL_compare_JJ_10 : decode cJL_compare_JJ 10 = .ok (.lload_n 0, 1) := by decide +kernel
theorem dJL_compare_JJ_11 : decode cJL_compare_JJ 11 = .ok (.lload_n 2, 1) := by decide +kernel
theorem dJL_compare_JJ_12 : decode cJL_compare_JJ 12 = .ok (.lcmp, 1) := by decide +kernel
theorem dJL_compare_JJ_13 : decode cJL_compare_JJ 13 = .ok (.ifCond .ne 7, 3) := by decide +kernel
theorem dJL_compare_JJ_16 : decode cJL_compare_JJ 16 = .ok (.iconst 0, 1) := by decide +kernel
theorem dJL_compare_JJ_17 : decode cJL_compare_JJ 17 = .ok (.goto 4, 3) := by decide +kernel
theorem dJL_compare_JJ_20 : decode cJL_compare_JJ 20 = .ok (.iconst 1, 1) := by decide +kernel
theorem dJL_compare_JJ_21 : decode cJL_compare_JJ 21 = .ok (.ireturn, 1) := by decide +kernel
def f_JL_compare_JJ_j21 (s0 : Int32) : Option Int32 := some s0
def f_JL_compare_JJ (x0 : Int64) (x2 : Int64) : Option Int32 := (if 0 ≤ (lg_cmp x0 x2) then (if (lg_cmp x0 x2) = 0 then (f_JL_compare_JJ_j21 (0 : Int32)) else (f_JL_compare_JJ_j21 (1 : Int32))) else (f_JL_compare_JJ_j21 (-1 : Int32)))
set_option maxHeartbeats 4000000 in
set_option maxRecDepth 100000 in
theorem k_JL_compare_JJ (l : Launch) (dC : Nat → ClassId) (dI : Nat → Nat → Nat) (cL cI : ClassId) (x0 : Int64) (x2 : Int64) (r : Int32) (h : f_JL_compare_JJ x0 x2 = some r) : Met l yJL_compare_JJ wsJL_compare_JJ ({ frames := 0, cells := 0, slots := 0, locals := 0 }) (rd_Pc [.long x0, .long x2] (fun _ => True) (dC, dI) cls3 [(cL, .long), (cI, .int)]) (vp_Si (fun z => z = r)) 0 0 (fun _ => False) := by
  refine Met.ofW (cc := cJL_compare_JJ) (maxL := 4) (ret := (some .int)) (by decide) rfl ?_
  intro p e s m args below meth c s₁ B hml hv
  obtain ⟨rfl, hF, hK⟩ := hv
  have hx := B.exec
  have hb := B.bytes
  have hr := B.returns
  have hw : ∀ w ∈ wG, w.before ([.long x0, .long x2] : List Value).toArray s = true := fun w hq => atoms_spec (ws := wsJL_compare_JJ) B.pre w (List.mem_cons_of_mem _ hq)
  have hown : s.vm.findClass R_JL = some m.cls := findClass_of_methodNamed B.named
  have hlocks := B.notSynchronized
  have hl := lv_entry ([.long x0, .long x2] : List Value) (n := 4) (Nat.le_of_ble_eq_true rfl)
  rw [lg_entry_eq]
  generalize (lg_sl ([.long x0, .long x2] : List Value) ++ List.replicate (4 - (lg_sl ([.long x0, .long x2] : List Value)).length) Slot.unset).toArray = ls at hl ⊢
  have hl : lv_has ls 4 [(0, .long x0), (2, .long x2)] := hl
  have k21 : ∀ (s0 : Int32), f_JL_compare_JJ_j21 s0 = some r →  ∀ (ls : Array Slot), lv_has ls 4 [] → W p l e (headSpec wsJL_compare_JJ ({ frames := 0, cells := 0, slots := 0, locals := 0 })).room s m ([.long x0, .long x2] : List Value).toArray below meth c s.heap [] 0 0 (MQ below (vp_Si (fun z => z = r)) ([.long x0, .long x2] : List Value).toArray s 0 0 (fun _ => False)) (F0 m 21 ls [.int s0]) := by
    intro s0 h  ls hl
    unfold f_JL_compare_JJ_j21 at h
    exact W.iret hx hb hr (fun t ht hW => ⟨_, rfl, Option.some.inj h, ht⟩) nil_locs dJL_compare_JJ_21
  unfold f_JL_compare_JJ at h
  refine lv_lload_n hx hb dJL_compare_JJ_0 rfl (lv_at hl 0 rfl) ?_
  refine lv_lload_n hx hb dJL_compare_JJ_1 rfl (lv_at hl 1 rfl) ?_
  refine W.lcmp hx hb dJL_compare_JJ_2 ?_
  refine lv_if_ge (tgt := 10) hx hb dJL_compare_JJ_3 (by decide) (fun c1 => ?_) (fun c1 => ?_)
  · have h := it_t c1 h
    refine lv_lload_n hx hb dJL_compare_JJ_10 rfl (lv_at hl 0 rfl) ?_
    refine lv_lload_n hx hb dJL_compare_JJ_11 rfl (lv_at hl 1 rfl) ?_
    refine W.lcmp hx hb dJL_compare_JJ_12 ?_
    refine lv_if_ne (tgt := 20) hx hb dJL_compare_JJ_13 (by decide) (fun c2 => ?_) (fun c2 => ?_)
    · have h := it_f c2 h
      refine lv_iconst (v := 1) hx hb dJL_compare_JJ_20 (by decide) ?_
      exact k21 (1 : Int32) h ls (lv_sub hl [] rfl)
    · have h := it_t c2 h
      refine lv_iconst (v := 0) hx hb dJL_compare_JJ_16 (by decide) ?_
      refine lv_goto (tgt := 21) hx hb dJL_compare_JJ_17 (by decide) ?_
      exact k21 (0 : Int32) h ls (lv_sub hl [] rfl)
  · have h := it_f c1 h
    refine lv_iconst (v := -1) hx hb dJL_compare_JJ_6 (by decide) ?_
    refine lv_goto (tgt := 21) hx hb dJL_compare_JJ_7 (by decide) ?_
    exact k21 (-1 : Int32) h ls (lv_sub hl [] rfl)
theorem dW_highPart_0 : decode cW_highPart 0 = .ok (.lload_n 0, 1) := by decide +kernel
theorem dW_highPart_1 : decode cW_highPart 1 = .ok (.ldc2_w 21, 3) := by decide +kernel
theorem dW_highPart_4 : decode cW_highPart 4 = .ok (.land, 1) := by decide +kernel
theorem dW_highPart_5 : decode cW_highPart 5 = .ok (.lstore 4, 2) := by decide +kernel
theorem dW_highPart_7 : decode cW_highPart 7 = .ok (.lload_n 0, 1) := by decide +kernel
theorem dW_highPart_8 : decode cW_highPart 8 = .ok (.bipush 32, 2) := by decide +kernel
theorem dW_highPart_10 : decode cW_highPart 10 = .ok (.lushr, 1) := by decide +kernel
theorem dW_highPart_11 : decode cW_highPart 11 = .ok (.lstore 6, 2) := by decide +kernel
theorem dW_highPart_13 : decode cW_highPart 13 = .ok (.lload_n 2, 1) := by decide +kernel
theorem dW_highPart_14 : decode cW_highPart 14 = .ok (.ldc2_w 21, 3) := by decide +kernel
theorem dW_highPart_17 : decode cW_highPart 17 = .ok (.land, 1) := by decide +kernel
theorem dW_highPart_18 : decode cW_highPart 18 = .ok (.lstore 8, 2) := by decide +kernel
theorem dW_highPart_20 : decode cW_highPart 20 = .ok (.lload_n 2, 1) := by decide +kernel
theorem dW_highPart_21 : decode cW_highPart 21 = .ok (.bipush 32, 2) := by decide +kernel
theorem dW_highPart_23 : decode cW_highPart 23 = .ok (.lushr, 1) := by decide +kernel
theorem dW_highPart_24 : decode cW_highPart 24 = .ok (.lstore 10, 2) := by decide +kernel
theorem dW_highPart_26 : decode cW_highPart 26 = .ok (.lload 6, 2) := by decide +kernel
theorem dW_highPart_28 : decode cW_highPart 28 = .ok (.lload 8, 2) := by decide +kernel
theorem dW_highPart_30 : decode cW_highPart 30 = .ok (.lmul, 1) := by decide +kernel
theorem dW_highPart_31 : decode cW_highPart 31 = .ok (.lload 4, 2) := by decide +kernel
theorem dW_highPart_33 : decode cW_highPart 33 = .ok (.lload 8, 2) := by decide +kernel
theorem dW_highPart_35 : decode cW_highPart 35 = .ok (.lmul, 1) := by decide +kernel
theorem dW_highPart_36 : decode cW_highPart 36 = .ok (.bipush 32, 2) := by decide +kernel
theorem dW_highPart_38 : decode cW_highPart 38 = .ok (.lushr, 1) := by decide +kernel
theorem dW_highPart_39 : decode cW_highPart 39 = .ok (.ladd, 1) := by decide +kernel
theorem dW_highPart_40 : decode cW_highPart 40 = .ok (.lstore 12, 2) := by decide +kernel
theorem dW_highPart_42 : decode cW_highPart 42 = .ok (.lload 4, 2) := by decide +kernel
theorem dW_highPart_44 : decode cW_highPart 44 = .ok (.lload 10, 2) := by decide +kernel
theorem dW_highPart_46 : decode cW_highPart 46 = .ok (.lmul, 1) := by decide +kernel
theorem dW_highPart_47 : decode cW_highPart 47 = .ok (.lload 12, 2) := by decide +kernel
theorem dW_highPart_49 : decode cW_highPart 49 = .ok (.ldc2_w 21, 3) := by decide +kernel
theorem dW_highPart_52 : decode cW_highPart 52 = .ok (.land, 1) := by decide +kernel
theorem dW_highPart_53 : decode cW_highPart 53 = .ok (.ladd, 1) := by decide +kernel
theorem dW_highPart_54 : decode cW_highPart 54 = .ok (.lstore 14, 2) := by decide +kernel
theorem dW_highPart_56 : decode cW_highPart 56 = .ok (.lload 6, 2) := by decide +kernel
theorem dW_highPart_58 : decode cW_highPart 58 = .ok (.lload 10, 2) := by decide +kernel
theorem dW_highPart_60 : decode cW_highPart 60 = .ok (.lmul, 1) := by decide +kernel
theorem dW_highPart_61 : decode cW_highPart 61 = .ok (.lload 12, 2) := by decide +kernel
theorem dW_highPart_63 : decode cW_highPart 63 = .ok (.bipush 32, 2) := by decide +kernel
theorem dW_highPart_65 : decode cW_highPart 65 = .ok (.lushr, 1) := by decide +kernel
theorem dW_highPart_66 : decode cW_highPart 66 = .ok (.ladd, 1) := by decide +kernel
theorem dW_highPart_67 : decode cW_highPart 67 = .ok (.lload 14, 2) := by decide +kernel
theorem dW_highPart_69 : decode cW_highPart 69 = .ok (.bipush 32, 2) := by decide +kernel
theorem dW_highPart_71 : decode cW_highPart 71 = .ok (.lushr, 1) := by decide +kernel
theorem dW_highPart_72 : decode cW_highPart 72 = .ok (.ladd, 1) := by decide +kernel
theorem dW_highPart_73 : decode cW_highPart 73 = .ok (.lreturn, 1) := by decide +kernel
def f_W_highPart (x0 : Int64) (x2 : Int64) : Option Int64 := (some (x0 &&& (4294967295 : Int64))).bind fun u1 => (some ((x0.toUInt64 >>> ((32 : Int32).toInt64.toUInt64 &&& Int64.toUInt64 63)).toInt64)).bind fun u2 => (some (x2 &&& (4294967295 : Int64))).bind fun u3 => (some ((x2.toUInt64 >>> ((32 : Int32).toInt64.toUInt64 &&& Int64.toUInt64 63)).toInt64)).bind fun u4 => (some ((u2 * u3) + (((u1 * u3).toUInt64 >>> ((32 : Int32).toInt64.toUInt64 &&& Int64.toUInt64 63)).toInt64))).bind fun u5 => (some ((u1 * u4) + (u5 &&& (4294967295 : Int64)))).bind fun u6 => some (((u2 * u4) + ((u5.toUInt64 >>> ((32 : Int32).toInt64.toUInt64 &&& Int64.toUInt64 63)).toInt64)) + ((u6.toUInt64 >>> ((32 : Int32).toInt64.toUInt64 &&& Int64.toUInt64 63)).toInt64))
set_option maxHeartbeats 4000000 in
set_option maxRecDepth 100000 in
theorem k_W_highPart (l : Launch) (dC : Nat → ClassId) (dI : Nat → Nat → Nat) (cL cI : ClassId) (x0 : Int64) (x2 : Int64) (r : Int64) (h : f_W_highPart x0 x2 = some r) : Met l yW_highPart wsW_highPart ({ frames := 0, cells := 0, slots := 0, locals := 0 }) (rd_Pc [.long x0, .long x2] (fun _ => True) (dC, dI) cls3 [(cL, .long), (cI, .int)]) (vp_Sl (fun z => z = r)) 0 0 (fun _ => False) := by
  refine Met.ofW (cc := cW_highPart) (maxL := 16) (ret := (some .long)) (by decide) rfl ?_
  intro p e s m args below meth c s₁ B hml hv
  obtain ⟨rfl, hF, hK⟩ := hv
  have hx := B.exec
  have hb := B.bytes
  have hr := B.returns
  have hw : ∀ w ∈ wG, w.before ([.long x0, .long x2] : List Value).toArray s = true := fun w hq => atoms_spec (ws := wsW_highPart) B.pre w (List.mem_cons_of_mem _ hq)
  have hown : s.vm.findClass R_W = some m.cls := findClass_of_methodNamed B.named
  have hlocks := B.notSynchronized
  have hl := lv_entry ([.long x0, .long x2] : List Value) (n := 16) (Nat.le_of_ble_eq_true rfl)
  rw [lg_entry_eq]
  generalize (lg_sl ([.long x0, .long x2] : List Value) ++ List.replicate (16 - (lg_sl ([.long x0, .long x2] : List Value)).length) Slot.unset).toArray = ls at hl ⊢
  have hl : lv_has ls 16 [(0, .long x0), (2, .long x2)] := hl
  unfold f_W_highPart at h
  refine lv_lload_n hx hb dW_highPart_0 rfl (lv_at hl 0 rfl) ?_
  refine lv_ldc2 (v := 4294967295) hx hb hown (hw _ w_343) dW_highPart_1 ?_
  refine lv_land hx hb dW_highPart_4 ?_
  obtain ⟨u1, hu1, h⟩ := ob_some h
  rw [Option.some.inj hu1]
  refine lv_lstore (lv' := [(4, .long u1), (0, .long x0), (2, .long x2)]) hx hb dW_highPart_5 hl (by decide) rfl (fun ls hl => ?_)
  refine lv_lload_n hx hb dW_highPart_7 rfl (lv_at hl 1 rfl) ?_
  refine lv_bipush (v := 32) hx hb dW_highPart_8 (by decide) ?_
  refine lv_lushr hx hb dW_highPart_10 rfl ?_
  obtain ⟨u2, hu2, h⟩ := ob_some h
  rw [Option.some.inj hu2]
  refine lv_lstore (lv' := [(6, .long u2), (4, .long u1), (0, .long x0), (2, .long x2)]) hx hb dW_highPart_11 hl (by decide) rfl (fun ls hl => ?_)
  refine lv_lload_n hx hb dW_highPart_13 rfl (lv_at hl 3 rfl) ?_
  refine lv_ldc2 (v := 4294967295) hx hb hown (hw _ w_343) dW_highPart_14 ?_
  refine lv_land hx hb dW_highPart_17 ?_
  obtain ⟨u3, hu3, h⟩ := ob_some h
  rw [Option.some.inj hu3]
  refine lv_lstore (lv' := [(8, .long u3), (6, .long u2), (4, .long u1), (0, .long x0), (2, .long x2)]) hx hb dW_highPart_18 hl (by decide) rfl (fun ls hl => ?_)
  refine lv_lload_n hx hb dW_highPart_20 rfl (lv_at hl 4 rfl) ?_
  refine lv_bipush (v := 32) hx hb dW_highPart_21 (by decide) ?_
  refine lv_lushr hx hb dW_highPart_23 rfl ?_
  obtain ⟨u4, hu4, h⟩ := ob_some h
  rw [Option.some.inj hu4]
  refine lv_lstore (lv' := [(10, .long u4), (8, .long u3), (6, .long u2), (4, .long u1), (0, .long x0), (2, .long x2)]) hx hb dW_highPart_24 hl (by decide) rfl (fun ls hl => ?_)
  refine lv_lload hx hb dW_highPart_26 (lv_at hl 2 rfl) ?_
  refine lv_lload hx hb dW_highPart_28 (lv_at hl 1 rfl) ?_
  refine lv_lmul hx hb dW_highPart_30 ?_
  refine lv_lload hx hb dW_highPart_31 (lv_at hl 3 rfl) ?_
  refine lv_lload hx hb dW_highPart_33 (lv_at hl 1 rfl) ?_
  refine lv_lmul hx hb dW_highPart_35 ?_
  refine lv_bipush (v := 32) hx hb dW_highPart_36 (by decide) ?_
  refine lv_lushr hx hb dW_highPart_38 rfl ?_
  refine lv_ladd hx hb dW_highPart_39 ?_
  obtain ⟨u5, hu5, h⟩ := ob_some h
  rw [Option.some.inj hu5]
  refine lv_lstore (lv' := [(12, .long u5), (10, .long u4), (8, .long u3), (6, .long u2), (4, .long u1), (0, .long x0), (2, .long x2)]) hx hb dW_highPart_40 hl (by decide) rfl (fun ls hl => ?_)
  refine lv_lload hx hb dW_highPart_42 (lv_at hl 4 rfl) ?_
  refine lv_lload hx hb dW_highPart_44 (lv_at hl 1 rfl) ?_
  refine lv_lmul hx hb dW_highPart_46 ?_
  refine lv_lload hx hb dW_highPart_47 (lv_at hl 0 rfl) ?_
  refine lv_ldc2 (v := 4294967295) hx hb hown (hw _ w_343) dW_highPart_49 ?_
  refine lv_land hx hb dW_highPart_52 ?_
  refine lv_ladd hx hb dW_highPart_53 ?_
  obtain ⟨u6, hu6, h⟩ := ob_some h
  rw [Option.some.inj hu6]
  refine lv_lstore (lv' := [(14, .long u6), (12, .long u5), (10, .long u4), (8, .long u3), (6, .long u2), (4, .long u1), (0, .long x0), (2, .long x2)]) hx hb dW_highPart_54 hl (by decide) rfl (fun ls hl => ?_)
  refine lv_lload hx hb dW_highPart_56 (lv_at hl 4 rfl) ?_
  refine lv_lload hx hb dW_highPart_58 (lv_at hl 2 rfl) ?_
  refine lv_lmul hx hb dW_highPart_60 ?_
  refine lv_lload hx hb dW_highPart_61 (lv_at hl 1 rfl) ?_
  refine lv_bipush (v := 32) hx hb dW_highPart_63 (by decide) ?_
  refine lv_lushr hx hb dW_highPart_65 rfl ?_
  refine lv_ladd hx hb dW_highPart_66 ?_
  refine lv_lload hx hb dW_highPart_67 (lv_at hl 0 rfl) ?_
  refine lv_bipush (v := 32) hx hb dW_highPart_69 (by decide) ?_
  refine lv_lushr hx hb dW_highPart_71 rfl ?_
  refine lv_ladd hx hb dW_highPart_72 ?_
  exact W.lret hx hb hr (fun t ht hW => ⟨_, rfl, Option.some.inj h, ht⟩) nil_locs dW_highPart_73
theorem dW_compareProducts_0 : decode cW_compareProducts 0 = .ok (.lload_n 0, 1) := by decide +kernel
theorem dW_compareProducts_1 : decode cW_compareProducts 1 = .ok (.lload_n 2, 1) := by decide +kernel
theorem dW_compareProducts_2 : decode cW_compareProducts 2 = .ok (.invokestatic 7, 3) := by decide +kernel
theorem dW_compareProducts_5 : decode cW_compareProducts 5 = .ok (.lload 4, 2) := by decide +kernel
theorem dW_compareProducts_7 : decode cW_compareProducts 7 = .ok (.lload 6, 2) := by decide +kernel
theorem dW_compareProducts_9 : decode cW_compareProducts 9 = .ok (.invokestatic 7, 3) := by decide +kernel
theorem dW_compareProducts_12 : decode cW_compareProducts 12 = .ok (.invokestatic 13, 3) := by decide +kernel
theorem dW_compareProducts_15 : decode cW_compareProducts 15 = .ok (.istore 8, 2) := by decide +kernel
theorem dW_compareProducts_17 : decode cW_compareProducts 17 = .ok (.iload 8, 2) := by decide +kernel
theorem dW_compareProducts_19 : decode cW_compareProducts 19 = .ok (.ifCond .eq 6, 3) := by decide +kernel
theorem dW_compareProducts_22 : decode cW_compareProducts 22 = .ok (.iload 8, 2) := by decide +kernel
theorem dW_compareProducts_24 : decode cW_compareProducts 24 = .ok (.ireturn, 1) := by decide +kernel
theorem dW_compareProducts_25 : decode cW_compareProducts 25 = .ok (.lload_n 0, 1) := by decide +kernel
theorem dW_compareProducts_26 : decode cW_compareProducts 26 = .ok (.lload_n 2, 1) := by decide +kernel
theorem dW_compareProducts_27 : decode cW_compareProducts 27 = .ok (.lmul, 1) := by decide +kernel
theorem dW_compareProducts_28 : decode cW_compareProducts 28 = .ok (.ldc2_w 19, 3) := by decide +kernel
theorem dW_compareProducts_31 : decode cW_compareProducts 31 = .ok (.ladd, 1) := by decide +kernel
theorem dW_compareProducts_32 : decode cW_compareProducts 32 = .ok (.lload 4, 2) := by decide +kernel
theorem dW_compareProducts_34 : decode cW_compareProducts 34 = .ok (.lload 6, 2) := by decide +kernel
theorem dW_compareProducts_36 : decode cW_compareProducts 36 = .ok (.lmul, 1) := by decide +kernel
theorem dW_compareProducts_37 : decode cW_compareProducts 37 = .ok (.ldc2_w 19, 3) := by decide +kernel
theorem dW_compareProducts_40 : decode cW_compareProducts 40 = .ok (.ladd, 1) := by decide +kernel
theorem dW_compareProducts_41 : decode cW_compareProducts 41 = .ok (.invokestatic 13, 3) := by decide +kernel
theorem dW_compareProducts_44 : decode cW_compareProducts 44 = .ok (.ireturn, 1) := by decide +kernel
def f_W_compareProducts (x0 : Int64) (x2 : Int64) (x4 : Int64) (x6 : Int64) : Option Int32 := (f_W_highPart x0 x2).bind fun u1 => (f_W_highPart x4 x6).bind fun u2 => (f_JL_compare_JJ u1 u2).bind fun u3 => (if u3 = 0 then (f_JL_compare_JJ ((x0 * x2) + (-9223372036854775808 : Int64)) ((x4 * x6) + (-9223372036854775808 : Int64))).bind fun u5 => some u5 else some u3)
set_option maxHeartbeats 4000000 in
set_option maxRecDepth 100000 in
theorem k_W_compareProducts (l : Launch) (dC : Nat → ClassId) (dI : Nat → Nat → Nat) (cL cI : ClassId) (x0 : Int64) (x2 : Int64) (x4 : Int64) (x6 : Int64) (r : Int32) (h : f_W_compareProducts x0 x2 x4 x6 = some r) : Met l yW_compareProducts wsW_compareProducts ({ frames := 1, cells := 0, slots := 0, locals := 35 }) (rd_Pc [.long x0, .long x2, .long x4, .long x6] (fun _ => True) (dC, dI) cls3 [(cL, .long), (cI, .int)]) (vp_Si (fun z => z = r)) 0 0 (fun _ => False) := by
  refine Met.ofW (cc := cW_compareProducts) (maxL := 9) (ret := (some .int)) (by decide) rfl ?_
  intro p e s m args below meth c s₁ B hml hv
  obtain ⟨rfl, hF, hK⟩ := hv
  have hx := B.exec
  have hb := B.bytes
  have hr := B.returns
  have hw : ∀ w ∈ wG, w.before ([.long x0, .long x2, .long x4, .long x6] : List Value).toArray s = true := fun w hq => atoms_spec (ws := wsW_compareProducts) B.pre w (List.mem_cons_of_mem _ hq)
  have hown : s.vm.findClass R_W = some m.cls := findClass_of_methodNamed B.named
  have hlocks := B.notSynchronized
  have hl := lv_entry ([.long x0, .long x2, .long x4, .long x6] : List Value) (n := 9) (Nat.le_of_ble_eq_true rfl)
  rw [lg_entry_eq]
  generalize (lg_sl ([.long x0, .long x2, .long x4, .long x6] : List Value) ++ List.replicate (9 - (lg_sl ([.long x0, .long x2, .long x4, .long x6] : List Value)).length) Slot.unset).toArray = ls at hl ⊢
  have hl : lv_has ls 9 [(0, .long x0), (2, .long x2), (4, .long x4), (6, .long x6)] := hl
  unfold f_W_compareProducts at h
  refine lv_lload_n hx hb dW_compareProducts_0 rfl (lv_at hl 0 rfl) ?_
  refine lv_lload_n hx hb dW_compareProducts_1 rfl (lv_at hl 1 rfl) ?_
  obtain ⟨u1, hu1, h⟩ := ob_some h
  refine vp_callSl (va_Run.run (va_runS (As := [.long x0, .long x2]) (rest := []) ⟨hx, hb, hml, hown, hw⟩ (k_W_highPart l dC dI cL cI x0 x2 u1 hu1) (va_cwS 2 hw (gS w_340 w_341 w_13 w_342) rfl rfl rfl (by decide +kernel) ⟨Nat.le_of_ble_eq_true rfl, Nat.le_of_ble_eq_true rfl⟩) ⟨rd_blind, rd_pre trivial hK⟩ rfl rfl hl.1 rfl (lv_room (Nat.le_of_ble_eq_true rfl)) dW_compareProducts_2 ⟨Nat.le_of_ble_eq_true rfl, Nat.le_of_ble_eq_true rfl⟩)) (fun z hz => ?_)
  rw [hz]; clear hz
  refine lv_lload hx hb dW_compareProducts_5 (lv_at hl 2 rfl) ?_
  refine lv_lload hx hb dW_compareProducts_7 (lv_at hl 3 rfl) ?_
  obtain ⟨u2, hu2, h⟩ := ob_some h
  refine vp_callSl (va_Run.run (va_runS (As := [.long x4, .long x6]) (rest := [.long u1]) ⟨hx, hb, hml, hown, hw⟩ (k_W_highPart l dC dI cL cI x4 x6 u2 hu2) (va_cwS 2 hw (gS w_340 w_341 w_13 w_342) rfl rfl rfl (by decide +kernel) ⟨Nat.le_of_ble_eq_true rfl, Nat.le_of_ble_eq_true rfl⟩) ⟨rd_blind, rd_pre trivial hK⟩ rfl rfl hl.1 rfl (lv_room (Nat.le_of_ble_eq_true rfl)) dW_compareProducts_9 ⟨Nat.le_of_ble_eq_true rfl, Nat.le_of_ble_eq_true rfl⟩)) (fun z hz => ?_)
  rw [hz]; clear hz
  obtain ⟨u3, hu3, h⟩ := ob_some h
  refine vp_callSi (va_Run.run (va_runS (As := [.long u1, .long u2]) (rest := []) ⟨hx, hb, hml, hown, hw⟩ (k_JL_compare_JJ l dC dI cL cI u1 u2 u3 hu3) (va_cwS 2 hw (gS w_344 w_332 w_12 w_333) rfl rfl rfl (by decide +kernel) ⟨Nat.le_of_ble_eq_true rfl, Nat.le_of_ble_eq_true rfl⟩) ⟨rd_blind, rd_pre trivial hK⟩ rfl rfl hl.1 rfl (lv_room (Nat.le_of_ble_eq_true rfl)) dW_compareProducts_12 ⟨Nat.le_of_ble_eq_true rfl, Nat.le_of_ble_eq_true rfl⟩)) (fun z hz => ?_)
  rw [hz]; clear hz
  refine lv_istore (lv' := [(8, .int u3), (0, .long x0), (2, .long x2), (4, .long x4), (6, .long x6)]) hx hb dW_compareProducts_15 hl (by decide) rfl (fun ls hl => ?_)
  refine lv_iload hx hb dW_compareProducts_17 (lv_at hl 0 rfl) ?_
  refine lv_if_eq (tgt := 25) hx hb dW_compareProducts_19 (by decide) (fun c4 => ?_) (fun c4 => ?_)
  · have h := it_t c4 h
    refine lv_lload_n hx hb dW_compareProducts_25 rfl (lv_at hl 1 rfl) ?_
    refine lv_lload_n hx hb dW_compareProducts_26 rfl (lv_at hl 2 rfl) ?_
    refine lv_lmul hx hb dW_compareProducts_27 ?_
    refine lv_ldc2 (v := (-9223372036854775808)) hx hb hown (hw _ w_345) dW_compareProducts_28 ?_
    refine lv_ladd hx hb dW_compareProducts_31 ?_
    refine lv_lload hx hb dW_compareProducts_32 (lv_at hl 3 rfl) ?_
    refine lv_lload hx hb dW_compareProducts_34 (lv_at hl 4 rfl) ?_
    refine lv_lmul hx hb dW_compareProducts_36 ?_
    refine lv_ldc2 (v := (-9223372036854775808)) hx hb hown (hw _ w_345) dW_compareProducts_37 ?_
    refine lv_ladd hx hb dW_compareProducts_40 ?_
    obtain ⟨u5, hu5, h⟩ := ob_some h
    refine vp_callSi (va_Run.run (va_runS (As := [.long ((x0 * x2) + (-9223372036854775808 : Int64)), .long ((x4 * x6) + (-9223372036854775808 : Int64))]) (rest := []) ⟨hx, hb, hml, hown, hw⟩ (k_JL_compare_JJ l dC dI cL cI ((x0 * x2) + (-9223372036854775808 : Int64)) ((x4 * x6) + (-9223372036854775808 : Int64)) u5 hu5) (va_cwS 2 hw (gS w_344 w_332 w_12 w_333) rfl rfl rfl (by decide +kernel) ⟨Nat.le_of_ble_eq_true rfl, Nat.le_of_ble_eq_true rfl⟩) ⟨rd_blind, rd_pre trivial hK⟩ rfl rfl hl.1 rfl (lv_room (Nat.le_of_ble_eq_true rfl)) dW_compareProducts_41 ⟨Nat.le_of_ble_eq_true rfl, Nat.le_of_ble_eq_true rfl⟩)) (fun z hz => ?_)
    rw [hz]; clear hz
    exact W.iret hx hb hr (fun t ht hW => ⟨_, rfl, Option.some.inj h, ht⟩) nil_locs dW_compareProducts_44
  · have h := it_f c4 h
    refine lv_iload hx hb dW_compareProducts_22 (lv_at hl 0 rfl) ?_
    exact W.iret hx hb hr (fun t ht hW => ⟨_, rfl, Option.some.inj h, ht⟩) nil_locs dW_compareProducts_24
end
