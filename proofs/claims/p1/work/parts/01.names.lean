-- ===== PART A: goes FIRST, ahead of the names: the tables' words, and 'selects' of the private methods out of them =====
/-- a private method of a class that the tables say can be made, by its rows of tables_1 -/
def lw_okq (q : MethodName × Nat) : Prop := (q.1.cls ≠ "java/lang/invoke/MethodHandle" ∧ q.1.cls ≠ "java/lang/invoke/VarHandle") ∧ Cond.instantiable q.1.cls q.2 ∈ tables_1 ∧ Cond.privateMethod q.1 ∈ tables_1 ∧ Cond.instanceMethod q.1 ∈ tables_1
theorem lw_p0 : lw_okq (⟨"java/lang/Throwable", "fillInStackTrace", "(I)Ljava/lang/Throwable;"⟩, 6) := ⟨⟨by decide +kernel, by decide +kernel⟩, List.mem_of_getElem? (i := 291) (by decide +kernel), List.mem_of_getElem? (i := 289) (by decide +kernel), List.mem_of_getElem? (i := 290) (by decide +kernel)⟩
theorem lw_p1 : lw_okq (⟨"LossFreeTools", "allAskedFit", "()Z"⟩, 8) := ⟨⟨by decide +kernel, by decide +kernel⟩, List.mem_of_getElem? (i := 16) (by decide +kernel), List.mem_of_getElem? (i := 435) (by decide +kernel), List.mem_of_getElem? (i := 436) (by decide +kernel)⟩
theorem lw_p2 : lw_okq (⟨"LossFreeTools", "makePlaceAt", "(I)V"⟩, 8) := ⟨⟨by decide +kernel, by decide +kernel⟩, List.mem_of_getElem? (i := 16) (by decide +kernel), List.mem_of_getElem? (i := 565) (by decide +kernel), List.mem_of_getElem? (i := 566) (by decide +kernel)⟩
theorem lw_p3 : lw_okq (⟨"LossFreeToolsModel", "lies", "(IIII)Z"⟩, 23) := ⟨⟨by decide +kernel, by decide +kernel⟩, List.mem_of_getElem? (i := 647) (by decide +kernel), List.mem_of_getElem? (i := 739) (by decide +kernel), List.mem_of_getElem? (i := 740) (by decide +kernel)⟩
theorem lw_p4 : lw_okq (⟨"LossFreeToolsModel", "tileAt", "(I)I"⟩, 23) := ⟨⟨by decide +kernel, by decide +kernel⟩, List.mem_of_getElem? (i := 647) (by decide +kernel), List.mem_of_getElem? (i := 743) (by decide +kernel), List.mem_of_getElem? (i := 744) (by decide +kernel)⟩
theorem lw_p5 : lw_okq (⟨"LossFreeToolsModel", "isTile", "(I)Z"⟩, 23) := ⟨⟨by decide +kernel, by decide +kernel⟩, List.mem_of_getElem? (i := 647) (by decide +kernel), List.mem_of_getElem? (i := 751) (by decide +kernel), List.mem_of_getElem? (i := 752) (by decide +kernel)⟩
theorem lw_p6 : lw_okq (⟨"LossFreeToolsModel", "isSample", "(II)Z"⟩, 23) := ⟨⟨by decide +kernel, by decide +kernel⟩, List.mem_of_getElem? (i := 647) (by decide +kernel), List.mem_of_getElem? (i := 759) (by decide +kernel), List.mem_of_getElem? (i := 760) (by decide +kernel)⟩
theorem lw_p7 : lw_okq (⟨"LossFreeToolsModel", "fits", "(ZI)Z"⟩, 23) := ⟨⟨by decide +kernel, by decide +kernel⟩, List.mem_of_getElem? (i := 647) (by decide +kernel), List.mem_of_getElem? (i := 767) (by decide +kernel), List.mem_of_getElem? (i := 768) (by decide +kernel)⟩
theorem lw_p8 : lw_okq (⟨"LossFreeToolsModel", "nearest", "(ZI)I"⟩, 23) := ⟨⟨by decide +kernel, by decide +kernel⟩, List.mem_of_getElem? (i := 647) (by decide +kernel), List.mem_of_getElem? (i := 771) (by decide +kernel), List.mem_of_getElem? (i := 772) (by decide +kernel)⟩
theorem lw_p9 : lw_okq (⟨"LossFreeToolsModel", "move", "(II)V"⟩, 23) := ⟨⟨by decide +kernel, by decide +kernel⟩, List.mem_of_getElem? (i := 647) (by decide +kernel), List.mem_of_getElem? (i := 775) (by decide +kernel), List.mem_of_getElem? (i := 776) (by decide +kernel)⟩
theorem lw_p10 : lw_okq (⟨"LossFreeToolsModel", "moveNote", "(II)V"⟩, 23) := ⟨⟨by decide +kernel, by decide +kernel⟩, List.mem_of_getElem? (i := 647) (by decide +kernel), List.mem_of_getElem? (i := 779) (by decide +kernel), List.mem_of_getElem? (i := 780) (by decide +kernel)⟩
theorem lw_p11 : lw_okq (⟨"LossFreeToolsModel", "pointerOf", "(I)I"⟩, 23) := ⟨⟨by decide +kernel, by decide +kernel⟩, List.mem_of_getElem? (i := 647) (by decide +kernel), List.mem_of_getElem? (i := 831) (by decide +kernel), List.mem_of_getElem? (i := 832) (by decide +kernel)⟩
theorem lw_p12 : lw_okq (⟨"LossFreeToolsModel", "isBefore", "(II)Z"⟩, 23) := ⟨⟨by decide +kernel, by decide +kernel⟩, List.mem_of_getElem? (i := 647) (by decide +kernel), List.mem_of_getElem? (i := 835) (by decide +kernel), List.mem_of_getElem? (i := 836) (by decide +kernel)⟩
theorem lw_p13 : lw_okq (⟨"LossFreeToolsModel", "tell", "(I)V"⟩, 23) := ⟨⟨by decide +kernel, by decide +kernel⟩, List.mem_of_getElem? (i := 647) (by decide +kernel), List.mem_of_getElem? (i := 846) (by decide +kernel), List.mem_of_getElem? (i := 847) (by decide +kernel)⟩
theorem lw_p14 : lw_okq (⟨"LossFreeToolsModel", "tellTwo", "(I)V"⟩, 23) := ⟨⟨by decide +kernel, by decide +kernel⟩, List.mem_of_getElem? (i := 647) (by decide +kernel), List.mem_of_getElem? (i := 850) (by decide +kernel), List.mem_of_getElem? (i := 851) (by decide +kernel)⟩
theorem lw_p15 : lw_okq (⟨"LossFreeToolsModel", "tellPart", "(I)V"⟩, 23) := ⟨⟨by decide +kernel, by decide +kernel⟩, List.mem_of_getElem? (i := 647) (by decide +kernel), List.mem_of_getElem? (i := 854) (by decide +kernel), List.mem_of_getElem? (i := 855) (by decide +kernel)⟩
def lw_privs_1 : List (MethodName × Nat) := [(⟨"java/lang/Throwable", "fillInStackTrace", "(I)Ljava/lang/Throwable;"⟩, 6), (⟨"LossFreeTools", "allAskedFit", "()Z"⟩, 8), (⟨"LossFreeTools", "makePlaceAt", "(I)V"⟩, 8), (⟨"LossFreeToolsModel", "lies", "(IIII)Z"⟩, 23), (⟨"LossFreeToolsModel", "tileAt", "(I)I"⟩, 23), (⟨"LossFreeToolsModel", "isTile", "(I)Z"⟩, 23), (⟨"LossFreeToolsModel", "isSample", "(II)Z"⟩, 23), (⟨"LossFreeToolsModel", "fits", "(ZI)Z"⟩, 23), (⟨"LossFreeToolsModel", "nearest", "(ZI)I"⟩, 23), (⟨"LossFreeToolsModel", "move", "(II)V"⟩, 23), (⟨"LossFreeToolsModel", "moveNote", "(II)V"⟩, 23), (⟨"LossFreeToolsModel", "pointerOf", "(I)I"⟩, 23), (⟨"LossFreeToolsModel", "isBefore", "(II)Z"⟩, 23), (⟨"LossFreeToolsModel", "tell", "(I)V"⟩, 23), (⟨"LossFreeToolsModel", "tellTwo", "(I)V"⟩, 23), (⟨"LossFreeToolsModel", "tellPart", "(I)V"⟩, 23)]
theorem lw_r1 : ∀ q ∈ lw_privs_1, lw_okq q := List.forall_mem_cons.mpr ⟨lw_p0, List.forall_mem_cons.mpr ⟨lw_p1, List.forall_mem_cons.mpr ⟨lw_p2, List.forall_mem_cons.mpr ⟨lw_p3, List.forall_mem_cons.mpr ⟨lw_p4, List.forall_mem_cons.mpr ⟨lw_p5, List.forall_mem_cons.mpr ⟨lw_p6, List.forall_mem_cons.mpr ⟨lw_p7, List.forall_mem_cons.mpr ⟨lw_p8, List.forall_mem_cons.mpr ⟨lw_p9, List.forall_mem_cons.mpr ⟨lw_p10, List.forall_mem_cons.mpr ⟨lw_p11, List.forall_mem_cons.mpr ⟨lw_p12, List.forall_mem_cons.mpr ⟨lw_p13, List.forall_mem_cons.mpr ⟨lw_p14, List.forall_mem_cons.mpr ⟨lw_p15, fun _ h => absurd h List.not_mem_nil⟩⟩⟩⟩⟩⟩⟩⟩⟩⟩⟩⟩⟩⟩⟩⟩
def lw_privs : List (MethodName × Nat) := lw_privs_1
def lw_tbl : List Cond := k2_sels lw_privs ++ tables_1
theorem lw_privs_ok : ∀ q ∈ lw_privs, lw_okq q := lw_r1
/-! names: classes, fields, methods -/
abbrev R_N : String := "LossFreeTools$Note"
def F_N : u_T := fun k => match k with
  | 0 => ("LossFreeTools$Note", "x", "I", false)
  | 1 => ("LossFreeTools$Note", "y", "I", false)
  | _ => ("LossFreeTools$Note", "value", "I", false)
abbrev R_P : String := "LossFreeTools$Picture"
def F_P : u_T := fun k => match k with
  | 0 => ("LossFreeTools$Picture", "tiles", "[LLossFreeTools$Tile;", true)
  | 1 => ("LossFreeTools$Picture", "notes", "[LLossFreeTools$Note;", true)
  | 2 => ("LossFreeTools$Picture", "tileCount", "I", false)
  | 3 => ("LossFreeTools$Picture", "noteCount", "I", false)
  | 4 => ("LossFreeTools$Picture", "width", "I", false)
  | _ => ("LossFreeTools$Picture", "height", "I", false)
abbrev R_S : String := "LossFreeTools$Stream"
def F_S : u_T := fun k => match k with
  | 0 => ("LossFreeTools$Stream", "bytes", "[I", true)
  | 1 => ("LossFreeTools$Stream", "length", "I", false)
  | _ => ("LossFreeTools$Stream", "place", "I", false)
abbrev R_T : String := "LossFreeTools$Tile"
def F_T : u_T := fun k => match k with
  | 0 => ("LossFreeTools$Tile", "bytes", "[I", true)
  | 1 => ("LossFreeTools$Tile", "byteCount", "I", false)
  | 2 => ("LossFreeTools$Tile", "x", "I", false)
  | 3 => ("LossFreeTools$Tile", "y", "I", false)
  | 4 => ("LossFreeTools$Tile", "w", "I", false)
  | 5 => ("LossFreeTools$Tile", "h", "I", false)
  | _ => ("LossFreeTools$Tile", "way", "I", false)
abbrev R_K : String := "LossFreeTools"
def F_K : u_T := fun k => match k with
  | 0 => ("LossFreeTools", "firstWidth", "I", true)
  | 1 => ("LossFreeTools", "firstHeight", "I", true)
  | 2 => ("LossFreeTools", "stream", "LLossFreeTools$Stream;", true)
  | 3 => ("LossFreeTools", "askedBorders", "[I", true)
  | 4 => ("LossFreeTools", "here", "LLossFreeTools$Picture;", false)
  | 5 => ("LossFreeTools", "other", "LLossFreeTools$Picture;", false)
  | 6 => ("LossFreeTools", "wayDone", "I", false)
  | _ => ("LossFreeTools", "refused", "Z", false)
abbrev R_M : String := "LossFreeToolsModel"
def F_M : u_T := fun k => match k with
  | 0 => ("LossFreeToolsModel", "code", "I", false)
  | 1 => ("LossFreeToolsModel", "firstWide", "I", true)
  | 2 => ("LossFreeToolsModel", "firstHigh", "I", true)
  | 3 => ("LossFreeToolsModel", "now", "I", false)
  | 4 => ("LossFreeToolsModel", "wide", "[I", true)
  | 5 => ("LossFreeToolsModel", "high", "[I", true)
  | 6 => ("LossFreeToolsModel", "tiles", "[I", true)
  | 7 => ("LossFreeToolsModel", "notes", "[I", true)
  | 8 => ("LossFreeToolsModel", "xs", "[I", true)
  | 9 => ("LossFreeToolsModel", "ys", "[I", true)
  | 10 => ("LossFreeToolsModel", "ws", "[I", true)
  | 11 => ("LossFreeToolsModel", "hs", "[I", true)
  | 12 => ("LossFreeToolsModel", "ways", "[I", true)
  | 13 => ("LossFreeToolsModel", "sizes", "[I", true)
  | 14 => ("LossFreeToolsModel", "bytes", "[I", true)
  | 15 => ("LossFreeToolsModel", "noteXs", "[I", true)
  | 16 => ("LossFreeToolsModel", "noteYs", "[I", true)
  | 17 => ("LossFreeToolsModel", "noteBytes", "[I", true)
  | 18 => ("LossFreeToolsModel", "since", "I", false)
  | 19 => ("LossFreeToolsModel", "refused", "Z", false)
  | 20 => ("LossFreeToolsModel", "nears", "[I", true)
  | 21 => ("LossFreeToolsModel", "stream", "[I", true)
  | _ => ("LossFreeToolsModel", "streamMany", "I", false)
abbrev R_L : String := "LossFreeToolsLaw"
abbrev b_N_init : ByteArray := prog_2_method_1_code
abbrev y_N_init : MethodName := ⟨"LossFreeTools$Note", "<init>", "()V"⟩
abbrev b_N_startAnew : ByteArray := prog_2_method_2_code
abbrev y_N_startAnew : MethodName := ⟨"LossFreeTools$Note", "startAnew", "(III)V"⟩
abbrev b_N_isWithin : ByteArray := prog_2_method_3_code
abbrev y_N_isWithin : MethodName := ⟨"LossFreeTools$Note", "isWithin", "(IIII)Z"⟩
abbrev b_N_moveBy : ByteArray := prog_2_method_4_code
abbrev y_N_moveBy : MethodName := ⟨"LossFreeTools$Note", "moveBy", "(II)V"⟩
abbrev b_N_mirrorIn : ByteArray := prog_2_method_5_code
abbrev y_N_mirrorIn : MethodName := ⟨"LossFreeTools$Note", "mirrorIn", "(I)V"⟩
abbrev b_N_quarterIn : ByteArray := prog_2_method_6_code
abbrev y_N_quarterIn : MethodName := ⟨"LossFreeTools$Note", "quarterIn", "(I)V"⟩
abbrev b_P_init : ByteArray := prog_3_method_1_code
abbrev y_P_init : MethodName := ⟨"LossFreeTools$Picture", "<init>", "(II)V"⟩
abbrev b_P_startAnew : ByteArray := prog_3_method_2_code
abbrev y_P_startAnew : MethodName := ⟨"LossFreeTools$Picture", "startAnew", "(II)V"⟩
abbrev b_P_hasTile : ByteArray := prog_3_method_3_code
abbrev y_P_hasTile : MethodName := ⟨"LossFreeTools$Picture", "hasTile", "(I)Z"⟩
abbrev b_P_hasSample : ByteArray := prog_3_method_4_code
abbrev y_P_hasSample : MethodName := ⟨"LossFreeTools$Picture", "hasSample", "(II)Z"⟩
abbrev b_P_holdsRectangle : ByteArray := prog_3_method_5_code
abbrev y_P_holdsRectangle : MethodName := ⟨"LossFreeTools$Picture", "holdsRectangle", "(IIII)Z"⟩
abbrev b_P_sizeAlong : ByteArray := prog_3_method_6_code
abbrev y_P_sizeAlong : MethodName := ⟨"LossFreeTools$Picture", "sizeAlong", "(Z)I"⟩
abbrev b_P_overlapsTile : ByteArray := prog_3_method_7_code
abbrev y_P_overlapsTile : MethodName := ⟨"LossFreeTools$Picture", "overlapsTile", "(IIII)Z"⟩
abbrev b_P_tileOver : ByteArray := prog_3_method_8_code
abbrev y_P_tileOver : MethodName := ⟨"LossFreeTools$Picture", "tileOver", "(II)I"⟩
abbrev b_P_addTile : ByteArray := prog_3_method_9_code
abbrev y_P_addTile : MethodName := ⟨"LossFreeTools$Picture", "addTile", "(IIII)I"⟩
abbrev b_P_addNote : ByteArray := prog_3_method_10_code
abbrev y_P_addNote : MethodName := ⟨"LossFreeTools$Picture", "addNote", "(III)I"⟩
abbrev b_P_borderFits : ByteArray := prog_3_method_11_code
abbrev y_P_borderFits : MethodName := ⟨"LossFreeTools$Picture", "borderFits", "(ZI)Z"⟩
abbrev b_P_nearestFit : ByteArray := prog_3_method_12_code
abbrev y_P_nearestFit : MethodName := ⟨"LossFreeTools$Picture", "nearestFit", "(ZI)I"⟩
abbrev b_P_cutTo : ByteArray := prog_3_method_13_code
abbrev y_P_cutTo : MethodName := ⟨"LossFreeTools$Picture", "cutTo", "(IIII)I"⟩
abbrev b_P_keepTilesWithin : ByteArray := prog_3_method_14_code
abbrev y_P_keepTilesWithin : MethodName := ⟨"LossFreeTools$Picture", "keepTilesWithin", "(IIII)V"⟩
abbrev b_P_keepNotesWithin : ByteArray := prog_3_method_15_code
abbrev y_P_keepNotesWithin : MethodName := ⟨"LossFreeTools$Picture", "keepNotesWithin", "(IIII)V"⟩
abbrev b_P_moveBy : ByteArray := prog_3_method_16_code
abbrev y_P_moveBy : MethodName := ⟨"LossFreeTools$Picture", "moveBy", "(II)V"⟩
abbrev b_P_moveAlong : ByteArray := prog_3_method_17_code
abbrev y_P_moveAlong : MethodName := ⟨"LossFreeTools$Picture", "moveAlong", "(ZI)V"⟩
abbrev b_P_growAlong : ByteArray := prog_3_method_18_code
abbrev y_P_growAlong : MethodName := ⟨"LossFreeTools$Picture", "growAlong", "(ZI)V"⟩
abbrev b_P_showBy : ByteArray := prog_3_method_19_code
abbrev y_P_showBy : MethodName := ⟨"LossFreeTools$Picture", "showBy", "(I)V"⟩
abbrev b_P_mirror : ByteArray := prog_3_method_20_code
abbrev y_P_mirror : MethodName := ⟨"LossFreeTools$Picture", "mirror", "()V"⟩
abbrev b_P_turnQuarter : ByteArray := prog_3_method_21_code
abbrev y_P_turnQuarter : MethodName := ⟨"LossFreeTools$Picture", "turnQuarter", "()V"⟩
abbrev b_P_hasRoomFor : ByteArray := prog_3_method_22_code
abbrev y_P_hasRoomFor : MethodName := ⟨"LossFreeTools$Picture", "hasRoomFor", "(LLossFreeTools$Picture;Z)Z"⟩
abbrev b_P_takeOver : ByteArray := prog_3_method_23_code
abbrev y_P_takeOver : MethodName := ⟨"LossFreeTools$Picture", "takeOver", "(LLossFreeTools$Picture;)V"⟩
abbrev b_P_placeOfPart : ByteArray := prog_3_method_24_code
abbrev y_P_placeOfPart : MethodName := ⟨"LossFreeTools$Picture", "placeOfPart", "(LLossFreeTools$Tile;)I"⟩
abbrev b_P_putHead : ByteArray := prog_3_method_25_code
abbrev y_P_putHead : MethodName := ⟨"LossFreeTools$Picture", "putHead", "(LLossFreeTools$Stream;)V"⟩
abbrev b_S_init : ByteArray := prog_4_method_1_code
abbrev y_S_init : MethodName := ⟨"LossFreeTools$Stream", "<init>", "()V"⟩
abbrev b_S_empty : ByteArray := prog_4_method_2_code
abbrev y_S_empty : MethodName := ⟨"LossFreeTools$Stream", "empty", "()V"⟩
abbrev b_S_goTo : ByteArray := prog_4_method_3_code
abbrev y_S_goTo : MethodName := ⟨"LossFreeTools$Stream", "goTo", "(I)V"⟩
abbrev b_S_putByte : ByteArray := prog_4_method_4_code
abbrev y_S_putByte : MethodName := ⟨"LossFreeTools$Stream", "putByte", "(I)V"⟩
abbrev b_S_putNumber : ByteArray := prog_4_method_5_code
abbrev y_S_putNumber : MethodName := ⟨"LossFreeTools$Stream", "putNumber", "(I)V"⟩
abbrev b_S_sumFrom : ByteArray := prog_4_method_6_code
abbrev y_S_sumFrom : MethodName := ⟨"LossFreeTools$Stream", "sumFrom", "(I)I"⟩
abbrev b_T_init : ByteArray := prog_5_method_1_code
abbrev y_T_init : MethodName := ⟨"LossFreeTools$Tile", "<init>", "()V"⟩
abbrev b_T_startAnew : ByteArray := prog_5_method_2_code
abbrev y_T_startAnew : MethodName := ⟨"LossFreeTools$Tile", "startAnew", "(IIII)V"⟩
abbrev b_T_addByte : ByteArray := prog_5_method_3_code
abbrev y_T_addByte : MethodName := ⟨"LossFreeTools$Tile", "addByte", "(I)I"⟩
abbrev b_T_liesOnItsSide : ByteArray := prog_5_method_4_code
abbrev y_T_liesOnItsSide : MethodName := ⟨"LossFreeTools$Tile", "liesOnItsSide", "()Z"⟩
abbrev b_T_ownWidth : ByteArray := prog_5_method_5_code
abbrev y_T_ownWidth : MethodName := ⟨"LossFreeTools$Tile", "ownWidth", "()I"⟩
abbrev b_T_ownHeight : ByteArray := prog_5_method_6_code
abbrev y_T_ownHeight : MethodName := ⟨"LossFreeTools$Tile", "ownHeight", "()I"⟩
abbrev b_T_overlaps : ByteArray := prog_5_method_7_code
abbrev y_T_overlaps : MethodName := ⟨"LossFreeTools$Tile", "overlaps", "(IIII)Z"⟩
abbrev b_T_crosses : ByteArray := prog_5_method_8_code
abbrev y_T_crosses : MethodName := ⟨"LossFreeTools$Tile", "crosses", "(ZI)Z"⟩
abbrev b_T_isWithin : ByteArray := prog_5_method_9_code
abbrev y_T_isWithin : MethodName := ⟨"LossFreeTools$Tile", "isWithin", "(IIII)Z"⟩
abbrev b_T_partComesBefore : ByteArray := prog_5_method_10_code
abbrev y_T_partComesBefore : MethodName := ⟨"LossFreeTools$Tile", "partComesBefore", "(LLossFreeTools$Tile;)Z"⟩
abbrev b_T_moveBy : ByteArray := prog_5_method_11_code
abbrev y_T_moveBy : MethodName := ⟨"LossFreeTools$Tile", "moveBy", "(II)V"⟩
abbrev b_T_mirrorIn : ByteArray := prog_5_method_12_code
abbrev y_T_mirrorIn : MethodName := ⟨"LossFreeTools$Tile", "mirrorIn", "(I)V"⟩
abbrev b_T_quarterIn : ByteArray := prog_5_method_13_code
abbrev y_T_quarterIn : MethodName := ⟨"LossFreeTools$Tile", "quarterIn", "(I)V"⟩
abbrev b_T_ownSample : ByteArray := prog_5_method_14_code
abbrev y_T_ownSample : MethodName := ⟨"LossFreeTools$Tile", "ownSample", "(II)I"⟩
abbrev b_T_partLength : ByteArray := prog_5_method_15_code
abbrev y_T_partLength : MethodName := ⟨"LossFreeTools$Tile", "partLength", "()I"⟩
abbrev b_T_putPart : ByteArray := prog_5_method_16_code
abbrev y_T_putPart : MethodName := ⟨"LossFreeTools$Tile", "putPart", "(LLossFreeTools$Stream;)V"⟩
abbrev b_K_init : ByteArray := prog_1_method_1_code
abbrev y_K_init : MethodName := ⟨"LossFreeTools", "<init>", "(II)V"⟩
abbrev b_K_tile : ByteArray := prog_1_method_2_code
abbrev y_K_tile : MethodName := ⟨"LossFreeTools", "tile", "(IIII)I"⟩
abbrev b_K_byteOf : ByteArray := prog_1_method_3_code
abbrev y_K_byteOf : MethodName := ⟨"LossFreeTools", "byteOf", "(II)I"⟩
abbrev b_K_note : ByteArray := prog_1_method_4_code
abbrev y_K_note : MethodName := ⟨"LossFreeTools", "note", "(III)I"⟩
abbrev b_K_crop : ByteArray := prog_1_method_5_code
abbrev y_K_crop : MethodName := ⟨"LossFreeTools", "crop", "(IIII)I"⟩
abbrev b_K_near : ByteArray := prog_1_method_6_code
abbrev y_K_near : MethodName := ⟨"LossFreeTools", "near", "(I)I"⟩
abbrev b_K_turn : ByteArray := prog_1_method_7_code
abbrev y_K_turn : MethodName := ⟨"LossFreeTools", "turn", "(I)I"⟩
abbrev b_K_swap : ByteArray := prog_1_method_8_code
abbrev y_K_swap : MethodName := ⟨"LossFreeTools", "swap", "()I"⟩
abbrev b_K_join : ByteArray := prog_1_method_9_code
abbrev y_K_join : MethodName := ⟨"LossFreeTools", "join", "(I)I"⟩
abbrev b_K_at : ByteArray := prog_1_method_10_code
abbrev y_K_at : MethodName := ⟨"LossFreeTools", "at", "(II)I"⟩
abbrev b_K_byteAt : ByteArray := prog_1_method_11_code
abbrev y_K_byteAt : MethodName := ⟨"LossFreeTools", "byteAt", "(II)I"⟩
abbrev b_K_shown : ByteArray := prog_1_method_12_code
abbrev y_K_shown : MethodName := ⟨"LossFreeTools", "shown", "(II)I"⟩
abbrev b_K_noteAt : ByteArray := prog_1_method_13_code
abbrev y_K_noteAt : MethodName := ⟨"LossFreeTools", "noteAt", "(II)I"⟩
abbrev b_K_write : ByteArray := prog_1_method_14_code
abbrev y_K_write : MethodName := ⟨"LossFreeTools", "write", "()I"⟩
abbrev b_K_streamAt : ByteArray := prog_1_method_15_code
abbrev y_K_streamAt : MethodName := ⟨"LossFreeTools", "streamAt", "(I)I"⟩
abbrev b_K_pointer : ByteArray := prog_1_method_16_code
abbrev y_K_pointer : MethodName := ⟨"LossFreeTools", "pointer", "(I)I"⟩
abbrev b_K_told : ByteArray := prog_1_method_17_code
abbrev y_K_told : MethodName := ⟨"LossFreeTools", "told", "(I)I"⟩
abbrev b_K_clear : ByteArray := prog_1_method_18_code
abbrev y_K_clear : MethodName := ⟨"LossFreeTools", "clear", "()V"⟩
abbrev b_K_allAskedFit : ByteArray := prog_1_method_19_code
abbrev y_K_allAskedFit : MethodName := ⟨"LossFreeTools", "allAskedFit", "()Z"⟩
abbrev b_K_makePlaceAt : ByteArray := prog_1_method_20_code
abbrev y_K_makePlaceAt : MethodName := ⟨"LossFreeTools", "makePlaceAt", "(I)V"⟩
abbrev b_K_nearestFirstSize : ByteArray := prog_1_method_21_code
abbrev y_K_nearestFirstSize : MethodName := ⟨"LossFreeTools", "nearestFirstSize", "(I)I"⟩
abbrev b_K_isByte : ByteArray := prog_1_method_22_code
abbrev y_K_isByte : MethodName := ⟨"LossFreeTools", "isByte", "(I)Z"⟩
abbrev b_K_isSide : ByteArray := prog_1_method_23_code
abbrev y_K_isSide : MethodName := ⟨"LossFreeTools", "isSide", "(I)Z"⟩
abbrev b_K_isUpright : ByteArray := prog_1_method_24_code
abbrev y_K_isUpright : MethodName := ⟨"LossFreeTools", "isUpright", "(I)Z"⟩
abbrev b_K_mirrors : ByteArray := prog_1_method_25_code
abbrev y_K_mirrors : MethodName := ⟨"LossFreeTools", "mirrors", "(I)Z"⟩
abbrev b_K_quarters : ByteArray := prog_1_method_26_code
abbrev y_K_quarters : MethodName := ⟨"LossFreeTools", "quarters", "(I)I"⟩
abbrev b_K_together : ByteArray := prog_1_method_27_code
abbrev y_K_together : MethodName := ⟨"LossFreeTools", "together", "(II)I"⟩
abbrev b_M_init : ByteArray := prog_7_method_1_code
abbrev y_M_init : MethodName := ⟨"LossFreeToolsModel", "<init>", "(II)V"⟩
abbrev b_M_thrown : ByteArray := prog_7_method_2_code
abbrev y_M_thrown : MethodName := ⟨"LossFreeToolsModel", "thrown", "()I"⟩
abbrev b_M_clear : ByteArray := prog_7_method_3_code
abbrev y_M_clear : MethodName := ⟨"LossFreeToolsModel", "clear", "()V"⟩
abbrev b_M_in : ByteArray := prog_7_method_4_code
abbrev y_M_in : MethodName := ⟨"LossFreeToolsModel", "in", "(III)Z"⟩
abbrev b_M_tileAt : ByteArray := prog_7_method_5_code
abbrev y_M_tileAt : MethodName := ⟨"LossFreeToolsModel", "tileAt", "(I)I"⟩
abbrev b_M_isTile : ByteArray := prog_7_method_6_code
abbrev y_M_isTile : MethodName := ⟨"LossFreeToolsModel", "isTile", "(I)Z"⟩
abbrev b_M_isSample : ByteArray := prog_7_method_7_code
abbrev y_M_isSample : MethodName := ⟨"LossFreeToolsModel", "isSample", "(II)Z"⟩
abbrev b_M_lies : ByteArray := prog_7_method_8_code
abbrev y_M_lies : MethodName := ⟨"LossFreeToolsModel", "lies", "(IIII)Z"⟩
abbrev b_M_tile : ByteArray := prog_7_method_9_code
abbrev y_M_tile : MethodName := ⟨"LossFreeToolsModel", "tile", "(IIII)I"⟩
abbrev b_M_byteOf : ByteArray := prog_7_method_10_code
abbrev y_M_byteOf : MethodName := ⟨"LossFreeToolsModel", "byteOf", "(II)I"⟩
abbrev b_M_note : ByteArray := prog_7_method_11_code
abbrev y_M_note : MethodName := ⟨"LossFreeToolsModel", "note", "(III)I"⟩
abbrev b_M_fits : ByteArray := prog_7_method_12_code
abbrev y_M_fits : MethodName := ⟨"LossFreeToolsModel", "fits", "(ZI)Z"⟩
abbrev b_M_nearest : ByteArray := prog_7_method_13_code
abbrev y_M_nearest : MethodName := ⟨"LossFreeToolsModel", "nearest", "(ZI)I"⟩
abbrev b_M_move : ByteArray := prog_7_method_14_code
abbrev y_M_move : MethodName := ⟨"LossFreeToolsModel", "move", "(II)V"⟩
abbrev b_M_moveNote : ByteArray := prog_7_method_15_code
abbrev y_M_moveNote : MethodName := ⟨"LossFreeToolsModel", "moveNote", "(II)V"⟩
abbrev b_M_crop : ByteArray := prog_7_method_16_code
abbrev y_M_crop : MethodName := ⟨"LossFreeToolsModel", "crop", "(IIII)I"⟩
abbrev b_M_near : ByteArray := prog_7_method_17_code
abbrev y_M_near : MethodName := ⟨"LossFreeToolsModel", "near", "(I)I"⟩
abbrev b_M_comes : ByteArray := prog_7_method_18_code
abbrev y_M_comes : MethodName := ⟨"LossFreeToolsModel", "comes", "(IIIII)I"⟩
abbrev b_M_isTurned : ByteArray := prog_7_method_19_code
abbrev y_M_isTurned : MethodName := ⟨"LossFreeToolsModel", "isTurned", "(I)Z"⟩
abbrev b_M_both : ByteArray := prog_7_method_20_code
abbrev y_M_both : MethodName := ⟨"LossFreeToolsModel", "both", "(II)I"⟩
abbrev b_M_turn : ByteArray := prog_7_method_21_code
abbrev y_M_turn : MethodName := ⟨"LossFreeToolsModel", "turn", "(I)I"⟩
abbrev b_M_swap : ByteArray := prog_7_method_22_code
abbrev y_M_swap : MethodName := ⟨"LossFreeToolsModel", "swap", "()I"⟩
abbrev b_M_join : ByteArray := prog_7_method_23_code
abbrev y_M_join : MethodName := ⟨"LossFreeToolsModel", "join", "(I)I"⟩
abbrev b_M_at : ByteArray := prog_7_method_24_code
abbrev y_M_at : MethodName := ⟨"LossFreeToolsModel", "at", "(II)I"⟩
abbrev b_M_byteAt : ByteArray := prog_7_method_25_code
abbrev y_M_byteAt : MethodName := ⟨"LossFreeToolsModel", "byteAt", "(II)I"⟩
abbrev b_M_shown : ByteArray := prog_7_method_26_code
abbrev y_M_shown : MethodName := ⟨"LossFreeToolsModel", "shown", "(II)I"⟩
abbrev b_M_ownOf : ByteArray := prog_7_method_27_code
abbrev y_M_ownOf : MethodName := ⟨"LossFreeToolsModel", "ownOf", "(IIIII)I"⟩
abbrev b_M_noteAt : ByteArray := prog_7_method_28_code
abbrev y_M_noteAt : MethodName := ⟨"LossFreeToolsModel", "noteAt", "(II)I"⟩
abbrev b_M_tell : ByteArray := prog_7_method_29_code
abbrev y_M_tell : MethodName := ⟨"LossFreeToolsModel", "tell", "(I)V"⟩
abbrev b_M_tellTwo : ByteArray := prog_7_method_30_code
abbrev y_M_tellTwo : MethodName := ⟨"LossFreeToolsModel", "tellTwo", "(I)V"⟩
abbrev b_M_partSize : ByteArray := prog_7_method_31_code
abbrev y_M_partSize : MethodName := ⟨"LossFreeToolsModel", "partSize", "(I)I"⟩
abbrev b_M_isBefore : ByteArray := prog_7_method_32_code
abbrev y_M_isBefore : MethodName := ⟨"LossFreeToolsModel", "isBefore", "(II)Z"⟩
abbrev b_M_pointerOf : ByteArray := prog_7_method_33_code
abbrev y_M_pointerOf : MethodName := ⟨"LossFreeToolsModel", "pointerOf", "(I)I"⟩
abbrev b_M_pointer : ByteArray := prog_7_method_34_code
abbrev y_M_pointer : MethodName := ⟨"LossFreeToolsModel", "pointer", "(I)I"⟩
abbrev b_M_tellPart : ByteArray := prog_7_method_35_code
abbrev y_M_tellPart : MethodName := ⟨"LossFreeToolsModel", "tellPart", "(I)V"⟩
abbrev b_M_write : ByteArray := prog_7_method_36_code
abbrev y_M_write : MethodName := ⟨"LossFreeToolsModel", "write", "()I"⟩
abbrev b_M_streamAt : ByteArray := prog_7_method_37_code
abbrev y_M_streamAt : MethodName := ⟨"LossFreeToolsModel", "streamAt", "(I)I"⟩
abbrev b_M_told : ByteArray := prog_7_method_38_code
abbrev y_M_told : MethodName := ⟨"LossFreeToolsModel", "told", "(I)I"⟩
abbrev b_L_cell : ByteArray := method_2_code
abbrev y_L_cell : MethodName := ⟨"LossFreeToolsLaw", "cell", "([II)I"⟩
abbrev b_L_tile : ByteArray := method_3_code
abbrev y_L_tile : MethodName := ⟨"LossFreeToolsLaw", "tile", "(LLossFreeTools;IIII[J)I"⟩
abbrev b_L_byteOf : ByteArray := method_4_code
abbrev y_L_byteOf : MethodName := ⟨"LossFreeToolsLaw", "byteOf", "(LLossFreeTools;II[J)I"⟩
abbrev b_L_note : ByteArray := method_5_code
abbrev y_L_note : MethodName := ⟨"LossFreeToolsLaw", "note", "(LLossFreeTools;III[J)I"⟩
abbrev b_L_crop : ByteArray := method_6_code
abbrev y_L_crop : MethodName := ⟨"LossFreeToolsLaw", "crop", "(LLossFreeTools;IIII[J)I"⟩
abbrev b_L_near : ByteArray := method_7_code
abbrev y_L_near : MethodName := ⟨"LossFreeToolsLaw", "near", "(LLossFreeTools;I[J)I"⟩
abbrev b_L_turn : ByteArray := method_8_code
abbrev y_L_turn : MethodName := ⟨"LossFreeToolsLaw", "turn", "(LLossFreeTools;I[J)I"⟩
abbrev b_L_join : ByteArray := method_9_code
abbrev y_L_join : MethodName := ⟨"LossFreeToolsLaw", "join", "(LLossFreeTools;I[J)I"⟩
abbrev b_L_at : ByteArray := method_10_code
abbrev y_L_at : MethodName := ⟨"LossFreeToolsLaw", "at", "(LLossFreeTools;II[J)I"⟩
abbrev b_L_byteAt : ByteArray := method_11_code
abbrev y_L_byteAt : MethodName := ⟨"LossFreeToolsLaw", "byteAt", "(LLossFreeTools;II[J)I"⟩
abbrev b_L_shown : ByteArray := method_12_code
abbrev y_L_shown : MethodName := ⟨"LossFreeToolsLaw", "shown", "(LLossFreeTools;II[J)I"⟩
abbrev b_L_noteAt : ByteArray := method_13_code
abbrev y_L_noteAt : MethodName := ⟨"LossFreeToolsLaw", "noteAt", "(LLossFreeTools;II[J)I"⟩
abbrev b_L_streamAt : ByteArray := method_14_code
abbrev y_L_streamAt : MethodName := ⟨"LossFreeToolsLaw", "streamAt", "(LLossFreeTools;I[J)I"⟩
abbrev b_L_pointer : ByteArray := method_15_code
abbrev y_L_pointer : MethodName := ⟨"LossFreeToolsLaw", "pointer", "(LLossFreeTools;I[J)I"⟩
abbrev ax_cl : List vw_C := [(R_N, F_N, 3), (R_P, F_P, 6), (R_S, F_S, 3), (R_T, F_T, 7), (R_K, F_K, 8), (R_M, F_M, 23)]
abbrev ax_ar : List FieldType := [.int, .long, .object "LossFreeTools$Tile", .object "LossFreeTools$Note"]
def ax_tb : List Cond := lw_tbl.filter goodWord
def ax_nw : List Cond := [
  .methodLinkNest "LossFreeTools$Picture" (24 : Nat) ({ cls := "LossFreeTools$Note", name := "<init>", desc := "()V" } : MethodName) "LossFreeTools",
  .castable "java/lang/IllegalArgumentException" "java/lang/IllegalArgumentException",
  .declares ({ cls := "java/lang/RuntimeException", name := "<init>", desc := "()V" } : MethodName),
  .declares ({ cls := "java/lang/RuntimeException", name := "<init>", desc := "(Ljava/lang/String;)V" } : MethodName),
  .declares ({ cls := "java/lang/Exception", name := "<init>", desc := "()V" } : MethodName),
  .declares ({ cls := "java/lang/Exception", name := "<init>", desc := "(Ljava/lang/String;)V" } : MethodName),
  .declares ({ cls := "java/lang/Throwable", name := "<init>", desc := "()V" } : MethodName),
  .declares ({ cls := "java/lang/Throwable", name := "<init>", desc := "(Ljava/lang/String;)V" } : MethodName),
  .castable "java/lang/IllegalStateException" "java/lang/IllegalStateException",
  .castable "java/lang/UnsupportedOperationException" "java/lang/UnsupportedOperationException",
  .castable "java/lang/IndexOutOfBoundsException" "java/lang/IndexOutOfBoundsException",
  .methodLinkNest "LossFreeTools$Picture" (76 : Nat) ({ cls := "LossFreeTools", name := "mirrors", desc := "(I)Z" } : MethodName) "LossFreeTools",
  .methodLinkNest "LossFreeTools$Picture" (83 : Nat) ({ cls := "LossFreeTools", name := "quarters", desc := "(I)I" } : MethodName) "LossFreeTools",
  .methodLinkNest "LossFreeTools$Picture" (93 : Nat) ({ cls := "LossFreeTools", name := "together", desc := "(II)I" } : MethodName) "LossFreeTools",
  .methodLinkNest "LossFreeTools$Tile" (34 : Nat) ({ cls := "LossFreeTools", name := "quarters", desc := "(I)I" } : MethodName) "LossFreeTools",
  .methodLinkNest "LossFreeTools$Tile" (42 : Nat) ({ cls := "LossFreeTools", name := "mirrors", desc := "(I)Z" } : MethodName) "LossFreeTools"]
def ax_ao : List String := ["LossFreeTools$Tile", "LossFreeTools$Note"]
def ax_t4 : List Cond := [.isRef (.static "java/lang/Throwable" "UNASSIGNED_STACK" "[Ljava/lang/StackTraceElement;"), .isRef (.static "java/lang/Throwable" "SUPPRESSED_SENTINEL" "Ljava/util/List;"), .laysStatic "java/lang/Throwable" "UNASSIGNED_STACK" "[Ljava/lang/StackTraceElement;", .laysStatic "java/lang/Throwable" "SUPPRESSED_SENTINEL" "Ljava/util/List;"]
def ax_sr : List (String × Nat × String) := [("LossFreeTools", 56, "not a tile of the picture"), ("LossFreeTools", 66, "another tile has a sample in common"), ("LossFreeTools", 74, "no room for a tile more"), ("LossFreeTools", 87, "no such tile"), ("LossFreeTools", 93, "not a byte"), ("LossFreeTools", 104, "no room for a byte more"), ("LossFreeTools", 113, "no such sample"), ("LossFreeTools", 118, "no room for a note more"), ("LossFreeTools", 124, "not a rectangle of the picture"), ("LossFreeTools", 136, "no such side"), ("LossFreeTools", 138, "no refused crop of the picture as it is"), ("LossFreeTools", 147, "no such way"), ("LossFreeTools", 161, "the sides that meet are not alike"), ("LossFreeTools", 167, "no room for both pictures in one"), ("LossFreeTools", 198, "no such byte"), ("LossFreeTools", 209, "no such note")]
def ax_nc : List (String × String) := [("java/lang/IllegalArgumentException", "java/lang/IllegalStateException"), ("java/lang/IllegalArgumentException", "java/lang/UnsupportedOperationException"), ("java/lang/IllegalArgumentException", "java/lang/IndexOutOfBoundsException"), ("java/lang/IllegalStateException", "java/lang/IllegalArgumentException"), ("java/lang/IllegalStateException", "java/lang/UnsupportedOperationException"), ("java/lang/IllegalStateException", "java/lang/IndexOutOfBoundsException"), ("java/lang/UnsupportedOperationException", "java/lang/IllegalArgumentException"), ("java/lang/UnsupportedOperationException", "java/lang/IllegalStateException"), ("java/lang/UnsupportedOperationException", "java/lang/IndexOutOfBoundsException"), ("java/lang/IndexOutOfBoundsException", "java/lang/IllegalArgumentException"), ("java/lang/IndexOutOfBoundsException", "java/lang/IllegalStateException"), ("java/lang/IndexOutOfBoundsException", "java/lang/UnsupportedOperationException")]
theorem ax_tb_good : ∀ w ∈ ax_tb, (w.onTables && w.keeps) = true ∨ ∃ ty, w = .arrayClass ty := fun w h => good_of_word (List.mem_filter.mp h).2
theorem ax_tb_in {w : Cond} {i : Nat} (h : lw_tbl[i]? = some w) (g : goodWord w = true) : w ∈ ax_tb := List.mem_filter.mpr ⟨List.mem_of_getElem? h, g⟩
theorem ax_ar_0 : ax_ar[0]? = some .int := rfl
theorem ax_ar_1 : ax_ar[1]? = some .long := rfl
def ax_wk (w : Cond) : Bool := match w with
  | .methodLinkNest .. => true
  | .castable .. => true
  | .declares _ => true
  | _ => false
theorem ax_nw_wk : ∀ w ∈ ax_nw, ax_wk w = true := by decide +kernel
theorem ax_nw_ot : ∀ w ∈ ax_nw, w.onTables = true := by decide +kernel
theorem ax_nw_warm (w : Cond) (hw : w ∈ ax_nw) {s U : State} (hW : s.WarmedH U.vm) (h : va_Nw w s) : va_Nw w U := by
  have hk := ax_nw_wk w hw
  have tr : ∀ {c : Cond}, c.onTables = true → c.before #[] (s.setVm U.vm) = true → c.before #[] U = true := by
    intro c hc h
    have e := Cond.onTables_vm (A := #[]) (A' := #[]) (U := s) (U' := U) U.vm c hc
    have hU : U.setVm U.vm = U := rfl
    rw [hU] at e
    rw [← e]
    exact h
  cases w <;> first | (simp [ax_wk] at hk; done) | exact va_Nw.warmM hW h | exact tr rfl (by rw [Cond.castable_setVm hW.alike]; exact h) | exact tr rfl (by rw [Cond.declares_setVm hW.alike]; exact h)
theorem ax_cl_all {P : vw_C → Prop} (h0 : P (R_N, F_N, 3)) (h1 : P (R_P, F_P, 6)) (h2 : P (R_S, F_S, 3)) (h3 : P (R_T, F_T, 7)) (h4 : P (R_K, F_K, 8)) (h5 : P (R_M, F_M, 23)) : ∀ (ci : Nat) (w : vw_C), ax_cl[ci]? = some w → P w := by
  intro ci w h
  match ci, h with
  | 0, h => cases h; exact h0
  | 1, h => cases h; exact h1
  | 2, h => cases h; exact h2
  | 3, h => cases h; exact h3
  | 4, h => cases h; exact h4
  | 5, h => cases h; exact h5
  | n + 6, h => simp [ax_cl] at h
def ax_clsP (w : vw_C) : Prop := (∀ x ∈ u_ws w.1 w.2.1 w.2.2, x ∈ ax_tb) ∧ (∀ k, k < w.2.2 → ∃ ty, parseFieldDescriptor (w.2.1 k).2.2.1 = some ty) ∧ ∀ a, a < w.2.2 → ∀ b, b < w.2.2 → a ≠ b → (w.2.1 a).2.1 ≠ (w.2.1 b).2.1
theorem ax_cls_N : ax_clsP (R_N, F_N, 3) := ⟨by decide +kernel, fun k hk => Option.isSome_iff_exists.mp ((show ∀ k, k < 3 → (parseFieldDescriptor (F_N k).2.2.1).isSome = true by decide +kernel) k hk), by decide +kernel⟩
theorem ax_cls_P : ax_clsP (R_P, F_P, 6) := ⟨by decide +kernel, fun k hk => Option.isSome_iff_exists.mp ((show ∀ k, k < 6 → (parseFieldDescriptor (F_P k).2.2.1).isSome = true by decide +kernel) k hk), by decide +kernel⟩
theorem ax_cls_S : ax_clsP (R_S, F_S, 3) := ⟨by decide +kernel, fun k hk => Option.isSome_iff_exists.mp ((show ∀ k, k < 3 → (parseFieldDescriptor (F_S k).2.2.1).isSome = true by decide +kernel) k hk), by decide +kernel⟩
theorem ax_cls_T : ax_clsP (R_T, F_T, 7) := ⟨by decide +kernel, fun k hk => Option.isSome_iff_exists.mp ((show ∀ k, k < 7 → (parseFieldDescriptor (F_T k).2.2.1).isSome = true by decide +kernel) k hk), by decide +kernel⟩
theorem ax_cls_K : ax_clsP (R_K, F_K, 8) := ⟨by decide +kernel, fun k hk => Option.isSome_iff_exists.mp ((show ∀ k, k < 8 → (parseFieldDescriptor (F_K k).2.2.1).isSome = true by decide +kernel) k hk), by decide +kernel⟩
theorem ax_cls_M : ax_clsP (R_M, F_M, 23) := ⟨by decide +kernel, fun k hk => Option.isSome_iff_exists.mp ((show ∀ k, k < 23 → (parseFieldDescriptor (F_M k).2.2.1).isSome = true by decide +kernel) k hk), by decide +kernel⟩
theorem ax_cls_ok : ∀ (ci : Nat) (w : vw_C), ax_cl[ci]? = some w → ax_clsP w := ax_cl_all ax_cls_N ax_cls_P ax_cls_S ax_cls_T ax_cls_K ax_cls_M
