-- ===== PART A: goes FIRST, ahead of the names: the tables' words, and 'selects' of the private methods out of them =====
/-- a private method of a class that the tables say can be made, by its rows of tables_1 -/
def lw_okq (q : MethodName × Nat) : Prop := (q.1.cls ≠ "java/lang/invoke/MethodHandle" ∧ q.1.cls ≠ "java/lang/invoke/VarHandle") ∧ Cond.instantiable q.1.cls q.2 ∈ tables_1 ∧ Cond.privateMethod q.1 ∈ tables_1 ∧ Cond.instanceMethod q.1 ∈ tables_1
theorem lw_p0 : lw_okq (⟨"java/lang/Throwable", "fillInStackTrace", "(I)Ljava/lang/Throwable;"⟩, 6) := ⟨⟨by decide +kernel, by decide +kernel⟩, List.mem_of_getElem? (i := 291) (by decide +kernel), List.mem_of_getElem? (i := 289) (by decide +kernel), List.mem_of_getElem? (i := 290) (by decide +kernel)⟩
theorem lw_p1 : lw_okq (⟨"LossFreeTools", "allAskedFit", "()Z"⟩, 8) := ⟨⟨by decide +kernel, by decide +kernel⟩, List.mem_of_getElem? (i := 16) (by decide +kernel), List.mem_of_getElem? (i := 435) (by decide +kernel), List.mem_of_getElem? (i := 436) (by decide +kernel)⟩
theorem lw_p2 : lw_okq (⟨"LossFreeTools", "makePlaceAt", "(I)V"⟩, 8) := ⟨⟨by decide +kernel, by decide +kernel⟩, List.mem_of_getElem? (i := 16) (by decide +kernel), List.mem_of_getElem? (i := 565) (by decide +kernel), List.mem_of_getElem? (i := 566) (by decide +kernel)⟩
theorem lw_p3 : lw_okq (⟨"LossFreeToolsModel", "lies", "(IIII)Z"⟩, 23) := ⟨⟨by decide +kernel, by decide +kernel⟩, List.mem_of_getElem? (i := 647) (by decide +kernel), List.mem_of_getElem? (i := 739) (by decide +kernel), List.mem_of_getElem? (i := 740) (by decide +kernel)⟩
theorem lw_p4 : lw_okq (⟨"LossFreeToolsModel", "tileAt", "(I)I"⟩, 23) := ⟨⟨by decide +kernel, by decide +kernel⟩, List.mem_of_getElem? (i := 647) (by decide +kernel), List.mem_of_getElem? (i := 743) (by decide +kernel), List.mem_of_getElem? (i := 744) (by decide +kernel)⟩
theorem lw_p5 : lw_okq (⟨"LossFreeToolsModel", "isTile", "(I)Z"⟩, 23) := ⟨⟨by decide +kernel, by decide +kernel⟩, List.mem_of_getElem? (i := 647) (by decide +kernel), List.mem_of_getElem? (i := 751) (by decide +kernel), List.mem_of_getElem? (i := 752) (by decide +kernel)⟩
theorem lw_p6 : lw_okq (⟨"LossFreeToolsModel", "isSample", "(II)Z"⟩, 23) := ⟨⟨by decide +kernel, by decide +kernel⟩, List.mem_of_getElem? (i := 647) (by decide +kernel), List.mem_of_getElem? (i := 759) (by decide +kernel), List.mem_of_getElem? (i := 760) (by decide +kernel)⟩
theorem lw_p7 : lw_okq (⟨"LossFreeToolsModel", "fits", "(ZI)Z"⟩, 23) := ⟨⟨by decide +kernel, by decide +kernel⟩, List.mem_of_getElem? (i := 647) (by decide +kernel), List.mem_of_getElem? (i := 767) (by decide +kernel), List.mem_of_getElem? (i := 768) (by decide +kernel)⟩
theorem lw_p8 : lw_okq (⟨"LossFreeToolsModel", "nearest", "(ZI)I"⟩, 23) := ⟨⟨by decide +kernel, by decide +kernel⟩, List.mem_of_getElem? (i := 647) (by decide +kernel), List.mem_of_getElem? (i := 771) (by decide +kernel), List.mem_of_getElem? (i := 772) (by decide +kernel)⟩
theorem lw_p9 : lw_okq (⟨"LossFreeToolsModel", "move", "(II)V"⟩, 23) := ⟨⟨by decide +kernel, by decide +kernel⟩, List.mem_of_getElem? (i := 647) (by decide +kernel), List.mem_of_getElem? (i := 775) (by decide +kernel), List.mem_of_getElem? (i := 776) (by decide +kernel)⟩
theorem lw_p10 : lw_okq (⟨"LossFreeToolsModel", "moveNote", "(II)V"⟩, 23) := ⟨⟨by decide +kernel, by decide +kernel⟩, List.mem_of_getElem? (i := 647) (by decide +kernel), List.mem_of_getElem? (i := 779) (by decide +kernel), List.mem_of_getElem? (i := 780) (by decide +kernel)⟩
theorem lw_p11 : lw_okq (⟨"LossFreeToolsModel", "pointerOf", "(I)I"⟩, 23) := ⟨⟨by decide +kernel, by decide +kernel⟩, List.mem_of_getElem? (i := 647) (by decide +kernel), List.mem_of_getElem? (i := 831) (by decide +kernel), List.mem_of_getElem? (i := 832) (by decide +kernel)⟩
theorem lw_p12 : lw_okq (⟨"LossFreeToolsModel", "isBefore", "(II)Z"⟩, 23) := ⟨⟨by decide +kernel, by decide +kernel⟩, List.mem_of_getElem? (i := 647) (by decide +kernel), List.mem_of_getElem? (i := 835) (by decide +kernel), List.mem_of_getElem? (i := 836) (by decide +kernel)⟩
theorem lw_p13 : lw_okq (⟨"LossFreeToolsModel", "tell", "(I)V"⟩, 23) := ⟨⟨by decide +kernel, by decide +kernel⟩, List.mem_of_getElem? (i := 647) (by decide +kernel), List.mem_of_getElem? (i := 846) (by decide +kernel), List.mem_of_getElem? (i := 847) (by decide +kernel)⟩
theorem lw_p14 : lw_okq (⟨"LossFreeToolsModel", "tellTwo", "(I)V"⟩, 23) := ⟨⟨by decide +kernel, by decide +kernel⟩, List.mem_of_getElem? (i := 647) (by decide +kernel), List.mem_of_getElem? (i := 850) (by decide +kernel), List.mem_of_getElem? (i := 851) (by decide +kernel)⟩
theorem lw_p15 : lw_okq (⟨"LossFreeToolsModel", "tellPart", "(I)V"⟩, 23) := ⟨⟨by decide +kernel, by decide +kernel⟩, List.mem_of_getElem? (i := 647) (by decide +kernel), List.mem_of_getElem? (i := 854) (by decide +kernel), List.mem_of_getElem? (i := 855) (by decide +kernel)⟩
def lw_privs_1 : List (MethodName × Nat) := [(⟨"java/lang/Throwable", "fillInStackTrace", "(I)Ljava/lang/Throwable;"⟩, 6), (⟨"LossFreeTools", "allAskedFit", "()Z"⟩, 8), (⟨"LossFreeTools", "makePlaceAt", "(I)V"⟩, 8), (⟨"LossFreeToolsModel", "lies", "(IIII)Z"⟩, 23), (⟨"LossFreeToolsModel", "tileAt", "(I)I"⟩, 23), (⟨"LossFreeToolsModel", "isTile", "(I)Z"⟩, 23), (⟨"LossFreeToolsModel", "isSample", "(II)Z"⟩, 23), (⟨"LossFreeToolsModel", "fits", "(ZI)Z"⟩, 23), (⟨"LossFreeToolsModel", "nearest", "(ZI)I"⟩, 23), (⟨"LossFreeToolsModel", "move", "(II)V"⟩, 23), (⟨"LossFreeToolsModel", "moveNote", "(II)V"⟩, 23), (⟨"LossFreeToolsModel", "pointerOf", "(I)I"⟩, 23), (⟨"LossFreeToolsModel", "isBefore", "(II)Z"⟩, 23), (⟨"LossFreeToolsModel", "tell", "(I)V"⟩, 23), (⟨"LossFreeToolsModel", "tellTwo", "(I)V"⟩, 23), (⟨"LossFreeToolsModel", "tellPart", "(I)V"⟩, 23)]
theorem lw_r1 : ∀ q ∈ lw_privs_1, lw_okq q := List.forall_mem_cons.mpr ⟨lw_p0, List.forall_mem_cons.mpr ⟨lw_p1, List.forall_mem_cons.mpr ⟨lw_p2, List.forall_mem_cons.mpr ⟨lw_p3, List.forall_mem_cons.mpr ⟨lw_p4, List.forall_mem_cons.mpr ⟨lw_p5, List.forall_mem_cons.mpr ⟨lw_p6, List.forall_mem_cons.mpr ⟨lw_p7, List.forall_mem_cons.mpr ⟨lw_p8, List.forall_mem_cons.mpr ⟨lw_p9, List.forall_mem_cons.mpr ⟨lw_p10, List.forall_mem_cons.mpr ⟨lw_p11, List.forall_mem_cons.mpr ⟨lw_p12, List.forall_mem_cons.mpr ⟨lw_p13, List.forall_mem_cons.mpr ⟨lw_p14, List.forall_mem_cons.mpr ⟨lw_p15, fun _ h => absurd h List.not_mem_nil⟩⟩⟩⟩⟩⟩⟩⟩⟩⟩⟩⟩⟩⟩⟩⟩
def lw_privs : List (MethodName × Nat) := lw_privs_1
def lw_tbl : List Cond := k2_sels lw_privs ++ tables_1
theorem lw_privs_ok : ∀ q ∈ lw_privs, lw_okq q := lw_r1
/-! names: classes, fields, methods -/
abbrev R_N : String := "LossFreeTools$Note"
def F_N : u_T := fun k => match k with
  | 0 => ("LossFreeTools$Note", "x", "I", false)
  | 1 => ("LossFreeTools$Note", "y", "I", false)
  | _ => ("LossFreeTools$Note", "value", "I", false)
abbrev R_P : String := "LossFreeTools$Picture"
def F_P : u_T := fun k => match k with
  | 0 => ("LossFreeTools$Picture", "tiles", "[LLossFreeTools$Tile;", true)
  | 1 => ("LossFreeTools$Picture", "notes", "[LLossFreeTools$Note;", true)
  | 2 => ("LossFreeTools$Picture", "tileCount", "I", false)
  | 3 => ("LossFreeTools$Picture", "noteCount", "I", false)
  | 4 => ("LossFreeTools$Picture", "width", "I", false)
  | _ => ("LossFreeTools$Picture", "height", "I", false)
abbrev R_S : String := "LossFreeTools$Stream"
def F_S : u_T := fun k => match k with
  | 0 => ("LossFreeTools$Stream", "bytes", "[I", true)
  | 1 => ("LossFreeTools$Stream", "length", "I", false)
  | _ => ("LossFreeTools$Stream", "place", "I", false)
abbrev R_T : String := "LossFreeTools$Tile"
def F_T : u_T := fun k => match k with
  | 0 => ("LossFreeTools$Tile", "bytes", "[I", true)
  | 1 => ("LossFreeTools$Tile", "byteCount", "I", false)
  | 2 => ("LossFreeTools$Tile", "x", "I", false)
  | 3 => ("LossFreeTools$Tile", "y", "I", false)
  | 4 => ("LossFreeTools$Tile", "w", "I", false)
  | 5 => ("LossFreeTools$Tile", "h", "I", false)
  | _ => ("LossFreeTools$Tile", "way", "I", false)
abbrev R_K : String := "LossFreeTools"
def F_K : u_T := fun k => match k with
  | 0 => ("LossFreeTools", "firstWidth", "I", true)
  | 1 => ("LossFreeTools", "firstHeight", "I", true)
  | 2 => ("LossFreeTools", "stream", "LLossFreeTools$Stream;", true)
  | 3 => ("LossFreeTools", "askedBorders", "[I", true)
  | 4 => ("LossFreeTools", "here", "LLossFreeTools$Picture;", false)
  | 5 => ("LossFreeTools", "other", "LLossFreeTools$Picture;", false)
  | 6 => ("LossFreeTools", "wayDone", "I", false)
  | _ => ("LossFreeTools", "refused", "Z", false)
abbrev R_M : String := "LossFreeToolsModel"
def F_M : u_T := fun k => match k with
  | 0 => ("LossFreeToolsModel", "code", "I", false)
  | 1 => ("LossFreeToolsModel", "firstWide", "I", true)
  | 2 => ("LossFreeToolsModel", "firstHigh", "I", true)
  | 3 => ("LossFreeToolsModel", "now", "I", false)
  | 4 => ("LossFreeToolsModel", "wide", "[I", true)
  | 5 => ("LossFreeToolsModel", "high", "[I", true)
  | 6 => ("LossFreeToolsModel", "tiles", "[I", true)
  | 7 => ("LossFreeToolsModel", "notes", "[I", true)
  | 8 => ("LossFreeToolsModel", "xs", "[I", true)
  | 9 => ("LossFreeToolsModel", "ys", "[I", true)
  | 10 => ("LossFreeToolsModel", "ws", "[I", true)
  | 11 => ("LossFreeToolsModel", "hs", "[I", true)
  | 12 => ("LossFreeToolsModel", "ways", "[I", true)
  | 13 => ("LossFreeToolsModel", "sizes", "[I", true)
  | 14 => ("LossFreeToolsModel", "bytes", "[I", true)
  | 15 => ("LossFreeToolsModel", "noteXs", "[I", true)
  | 16 => ("LossFreeToolsModel", "noteYs", "[I", true)
  | 17 => ("LossFreeToolsModel", "noteBytes", "[I", true)
  | 18 => ("LossFreeToolsModel", "since", "I", false)
  | 19 => ("LossFreeToolsModel", "refused", "Z", false)
  | 20 => ("LossFreeToolsModel", "nears", "[I", true)
  | 21 => ("LossFreeToolsModel", "stream", "[I", true)
  | _ => ("LossFreeToolsModel", "streamMany", "I", false)
abbrev R_L : String := "LossFreeToolsLaw"
abbrev b_N_init : ByteArray := prog_2_method_1_code
abbrev y_N_init : MethodName := ⟨"LossFreeTools$Note", "<init>", "()V"⟩
abbrev b_N_startAnew : ByteArray := prog_2_method_2_code
abbrev y_N_startAnew : MethodName := ⟨"LossFreeTools$Note", "startAnew", "(III)V"⟩
abbrev b_N_isWithin : ByteArray := prog_2_method_3_code
abbrev y_N_isWithin : MethodName := ⟨"LossFreeTools$Note", "isWithin", "(IIII)Z"⟩
abbrev b_N_moveBy : ByteArray := prog_2_method_4_code
abbrev y_N_moveBy : MethodName := ⟨"LossFreeTools$Note", "moveBy", "(II)V"⟩
abbrev b_N_mirrorIn : ByteArray := prog_2_method_5_code
abbrev y_N_mirrorIn : MethodName := ⟨"LossFreeTools$Note", "mirrorIn", "(I)V"⟩
abbrev b_N_quarterIn : ByteArray := prog_2_method_6_code
abbrev y_N_quarterIn : MethodName := ⟨"LossFreeTools$Note", "quarterIn", "(I)V"⟩
abbrev b_P_init : ByteArray := prog_3_method_1_code
abbrev y_P_init : MethodName := ⟨"LossFreeTools$Picture", "<init>", "(II)V"⟩
abbrev b_P_startAnew : ByteArray := prog_3_method_2_code
abbrev y_P_startAnew : MethodName := ⟨"LossFreeTools$Picture", "startAnew", "(II)V"⟩
abbrev b_P_hasTile : ByteArray := prog_3_method_3_code
abbrev y_P_hasTile : MethodName := ⟨"LossFreeTools$Picture", "hasTile", "(I)Z"⟩
abbrev b_P_hasSample : ByteArray := prog_3_method_4_code
abbrev y_P_hasSample : MethodName := ⟨"LossFreeTools$Picture", "hasSample", "(II)Z"⟩
abbrev b_P_holdsRectangle : ByteArray := prog_3_method_5_code
abbrev y_P_holdsRectangle : MethodName := ⟨"LossFreeTools$Picture", "holdsRectangle", "(IIII)Z"⟩
abbrev b_P_sizeAlong : ByteArray := prog_3_method_6_code
abbrev y_P_sizeAlong : MethodName := ⟨"LossFreeTools$Picture", "sizeAlong", "(Z)I"⟩
abbrev b_P_overlapsTile : ByteArray := prog_3_method_7_code
abbrev y_P_overlapsTile : MethodName := ⟨"LossFreeTools$Picture", "overlapsTile", "(IIII)Z"⟩
abbrev b_P_tileOver : ByteArray := prog_3_method_8_code
abbrev y_P_tileOver : MethodName := ⟨"LossFreeTools$Picture", "tileOver", "(II)I"⟩
abbrev b_P_addTile : ByteArray := prog_3_method_9_code
abbrev y_P_addTile : MethodName := ⟨"LossFreeTools$Picture", "addTile", "(IIII)I"⟩
abbrev b_P_addNote : ByteArray := prog_3_method_10_code
abbrev y_P_addNote : MethodName := ⟨"LossFreeTools$Picture", "addNote", "(III)I"⟩
abbrev b_P_borderFits : ByteArray := prog_3_method_11_code
abbrev y_P_borderFits : MethodName := ⟨"LossFreeTools$Picture", "borderFits", "(ZI)Z"⟩
abbrev b_P_nearestFit : ByteArray := prog_3_method_12_code
abbrev y_P_nearestFit : MethodName := ⟨"LossFreeTools$Picture", "nearestFit", "(ZI)I"⟩
abbrev b_P_cutTo : ByteArray := prog_3_method_13_code
abbrev y_P_cutTo : MethodName := ⟨"LossFreeTools$Picture", "cutTo", "(IIII)I"⟩
abbrev b_P_keepTilesWithin : ByteArray := prog_3_method_14_code
abbrev y_P_keepTilesWithin : MethodName := ⟨"LossFreeTools$Picture", "keepTilesWithin", "(IIII)V"⟩
abbrev b_P_keepNotesWithin : ByteArray := prog_3_method_15_code
abbrev y_P_keepNotesWithin : MethodName := ⟨"LossFreeTools$Picture", "keepNotesWithin", "(IIII)V"⟩
abbrev b_P_moveBy : ByteArray := prog_3_method_16_code
abbrev y_P_moveBy : MethodName := ⟨"LossFreeTools$Picture", "moveBy", "(II)V"⟩
abbrev b_P_moveAlong : ByteArray := prog_3_method_17_code
abbrev y_P_moveAlong : MethodName := ⟨"LossFreeTools$Picture", "moveAlong", "(ZI)V"⟩
abbrev b_P_growAlong : ByteArray := prog_3_method_18_code
abbrev y_P_growAlong : MethodName := ⟨"LossFreeTools$Picture", "growAlong", "(ZI)V"⟩
abbrev b_P_showBy : ByteArray := prog_3_method_19_code
abbrev y_P_showBy : MethodName := ⟨"LossFreeTools$Picture", "showBy", "(I)V"⟩
abbrev b_P_mirror : ByteArray := prog_3_method_20_code
abbrev y_P_mirror : MethodName := ⟨"LossFreeTools$Picture", "mirror", "()V"⟩
abbrev b_P_turnQuarter : ByteArray := prog_3_method_21_code
abbrev y_P_turnQuarter : MethodName := ⟨"LossFreeTools$Picture", "turnQuarter", "()V"⟩
abbrev b_P_hasRoomFor : ByteArray := prog_3_method_22_code
abbrev y_P_hasRoomFor : MethodName := ⟨"LossFreeTools$Picture", "hasRoomFor", "(LLossFreeTools$Picture;Z)Z"⟩
abbrev b_P_takeOver : ByteArray := prog_3_method_23_code
abbrev y_P_takeOver : MethodName := ⟨"LossFreeTools$Picture", "takeOver", "(LLossFreeTools$Picture;)V"⟩
abbrev b_P_placeOfPart : ByteArray := prog_3_method_24_code
abbrev y_P_placeOfPart : MethodName := ⟨"LossFreeTools$Picture", "placeOfPart", "(LLossFreeTools$Tile;)I"⟩
abbrev b_P_putHead : ByteArray := prog_3_method_25_code
abbrev y_P_putHead : MethodName := ⟨"LossFreeTools$Picture", "putHead", "(LLossFreeTools$Stream;)V"⟩
abbrev b_S_init : ByteArray := prog_4_method_1_code
abbrev y_S_init : MethodName := ⟨"LossFreeTools$Stream", "<init>", "()V"⟩
abbrev b_S_empty : ByteArray := prog_4_method_2_code
abbrev y_S_empty : MethodName := ⟨"LossFreeTools$Stream", "empty", "()V"⟩
abbrev b_S_goTo : ByteArray := prog_4_method_3_code
abbrev y_S_goTo : MethodName := ⟨"LossFreeTools$Stream", "goTo", "(I)V"⟩
abbrev b_S_putByte : ByteArray := prog_4_method_4_code
abbrev y_S_putByte : MethodName := ⟨"LossFreeTools$Stream", "putByte", "(I)V"⟩
abbrev b_S_putNumber : ByteArray := prog_4_method_5_code
abbrev y_S_putNumber : MethodName := ⟨"LossFreeTools$Stream", "putNumber", "(I)V"⟩
abbrev b_S_sumFrom : ByteArray := prog_4_method_6_code
abbrev y_S_sumFrom : MethodName := ⟨"LossFreeTools$Stream", "sumFrom", "(I)I"⟩
abbrev b_T_init : ByteArray := prog_5_method_1_code
abbrev y_T_init : MethodName := ⟨"LossFreeTools$Tile", "<init>", "()V"⟩
abbrev b_T_startAnew : ByteArray := prog_5_method_2_code
abbrev y_T_startAnew : MethodName := ⟨"LossFreeTools$Tile", "startAnew", "(IIII)V"⟩
abbrev b_T_addByte : ByteArray := prog_5_method_3_code
abbrev y_T_addByte : MethodName := ⟨"LossFreeTools$Tile", "addByte", "(I)I"⟩
abbrev b_T_liesOnItsSide : ByteArray := prog_5_method_4_code
abbrev y_T_liesOnItsSide : MethodName := ⟨"LossFreeTools$Tile", "liesOnItsSide", "()Z"⟩
abbrev b_T_ownWidth : ByteArray := prog_5_method_5_code
abbrev y_T_ownWidth : MethodName := ⟨"LossFreeTools$Tile", "ownWidth", "()I"⟩
abbrev b_T_ownHeight : ByteArray := prog_5_method_6_code
abbrev y_T_ownHeight : MethodName := ⟨"LossFreeTools$Tile", "ownHeight", "()I"⟩
abbrev b_T_overlaps : ByteArray := prog_5_method_7_code
abbrev y_T_overlaps : MethodName := ⟨"LossFreeTools$Tile", "overlaps", "(IIII)Z"⟩
abbrev b_T_crosses : ByteArray := prog_5_method_8_code
abbrev y_T_crosses : MethodName := ⟨"LossFreeTools$Tile", "crosses", "(ZI)Z"⟩
abbrev b_T_isWithin : ByteArray := prog_5_method_9_code
abbrev y_T_isWithin : MethodName := ⟨"LossFreeTools$Tile", "isWithin", "(IIII)Z"⟩
abbrev b_T_partComesBefore : ByteArray := prog_5_method_10_code
abbrev y_T_partComesBefore : MethodName := ⟨"LossFreeTools$Tile", "partComesBefore", "(LLossFreeTools$Tile;)Z"⟩
abbrev b_T_moveBy : ByteArray := prog_5_method_11_code
abbrev y_T_moveBy : MethodName := ⟨"LossFreeTools$Tile", "moveBy", "(II)V"⟩
abbrev b_T_mirrorIn : ByteArray := prog_5_method_12_code
abbrev y_T_mirrorIn : MethodName := ⟨"LossFreeTools$Tile", "mirrorIn", "(I)V"⟩
abbrev b_T_quarterIn : ByteArray := prog_5_method_13_code
abbrev y_T_quarterIn : MethodName := ⟨"LossFreeTools$Tile", "quarterIn", "(I)V"⟩
abbrev b_T_ownSample : ByteArray := prog_5_method_14_code
abbrev y_T_ownSample : MethodName := ⟨"LossFreeTools$Tile", "ownSample", "(II)I"⟩
abbrev b_T_partLength : ByteArray := prog_5_method_15_code
abbrev y_T_partLength : MethodName := ⟨"LossFreeTools$Tile", "partLength", "()I"⟩
abbrev b_T_putPart : ByteArray := prog_5_method_16_code
abbrev y_T_putPart : MethodName := ⟨"LossFreeTools$Tile", "putPart", "(LLossFreeTools$Stream;)V"⟩
abbrev b_K_init : ByteArray := prog_1_method_1_code
abbrev y_K_init : MethodName := ⟨"LossFreeTools", "<init>", "(II)V"⟩
abbrev b_K_tile : ByteArray := prog_1_method_2_code
abbrev y_K_tile : MethodName := ⟨"LossFreeTools", "tile", "(IIII)I"⟩
abbrev b_K_byteOf : ByteArray := prog_1_method_3_code
abbrev y_K_byteOf : MethodName := ⟨"LossFreeTools", "byteOf", "(II)I"⟩
abbrev b_K_note : ByteArray := prog_1_method_4_code
abbrev y_K_note : MethodName := ⟨"LossFreeTools", "note", "(III)I"⟩
abbrev b_K_crop : ByteArray := prog_1_method_5_code
abbrev y_K_crop : MethodName := ⟨"LossFreeTools", "crop", "(IIII)I"⟩
abbrev b_K_near : ByteArray := prog_1_method_6_code
abbrev y_K_near : MethodName := ⟨"LossFreeTools", "near", "(I)I"⟩
abbrev b_K_turn : ByteArray := prog_1_method_7_code
abbrev y_K_turn : MethodName := ⟨"LossFreeTools", "turn", "(I)I"⟩
abbrev b_K_swap : ByteArray := prog_1_method_8_code
abbrev y_K_swap : MethodName := ⟨"LossFreeTools", "swap", "()I"⟩
abbrev b_K_join : ByteArray := prog_1_method_9_code
abbrev y_K_join : MethodName := ⟨"LossFreeTools", "join", "(I)I"⟩
abbrev b_K_at : ByteArray := prog_1_method_10_code
abbrev y_K_at : MethodName := ⟨"LossFreeTools", "at", "(II)I"⟩
abbrev b_K_byteAt : ByteArray := prog_1_method_11_code
abbrev y_K_byteAt : MethodName := ⟨"LossFreeTools", "byteAt", "(II)I"⟩
abbrev b_K_shown : ByteArray := prog_1_method_12_code
abbrev y_K_shown : MethodName := ⟨"LossFreeTools", "shown", "(II)I"⟩
abbrev b_K_noteAt : ByteArray := prog_1_method_13_code
abbrev y_K_noteAt : MethodName := ⟨"LossFreeTools", "noteAt", "(II)I"⟩
abbrev b_K_write : ByteArray := prog_1_method_14_code
abbrev y_K_write : MethodName := ⟨"LossFreeTools", "write", "()I"⟩
abbrev b_K_streamAt : ByteArray := prog_1_method_15_code
abbrev y_K_streamAt : MethodName := ⟨"LossFreeTools", "streamAt", "(I)I"⟩
abbrev b_K_pointer : ByteArray := prog_1_method_16_code
abbrev y_K_pointer : MethodName := ⟨"LossFreeTools", "pointer", "(I)I"⟩
abbrev b_K_told : ByteArray := prog_1_method_17_code
abbrev y_K_told : MethodName := ⟨"LossFreeTools", "told", "(I)I"⟩
abbrev b_K_clear : ByteArray := prog_1_method_18_code
abbrev y_K_clear : MethodName := ⟨"LossFreeTools", "clear", "()V"⟩
abbrev b_K_allAskedFit : ByteArray := prog_1_method_19_code
abbrev y_K_allAskedFit : MethodName := ⟨"LossFreeTools", "allAskedFit", "()Z"⟩
abbrev b_K_makePlaceAt : ByteArray := prog_1_method_20_code
abbrev y_K_makePlaceAt : MethodName := ⟨"LossFreeTools", "makePlaceAt", "(I)V"⟩
abbrev b_K_nearestFirstSize : ByteArray := prog_1_method_21_code
abbrev y_K_nearestFirstSize : MethodName := ⟨"LossFreeTools", "nearestFirstSize", "(I)I"⟩
abbrev b_K_isByte : ByteArray := prog_1_method_22_code
abbrev y_K_isByte : MethodName := ⟨"LossFreeTools", "isByte", "(I)Z"⟩
abbrev b_K_isSide : ByteArray := prog_1_method_23_code
abbrev y_K_isSide : MethodName := ⟨"LossFreeTools", "isSide", "(I)Z"⟩
abbrev b_K_isUpright : ByteArray := prog_1_method_24_code
abbrev y_K_isUpright : MethodName := ⟨"LossFreeTools", "isUpright", "(I)Z"⟩
abbrev b_K_mirrors : ByteArray := prog_1_method_25_code
abbrev y_K_mirrors : MethodName := ⟨"LossFreeTools", "mirrors", "(I)Z"⟩
abbrev b_K_quarters : ByteArray := prog_1_method_26_code
abbrev y_K_quarters : MethodName := ⟨"LossFreeTools", "quarters", "(I)I"⟩
abbrev b_K_together : ByteArray := prog_1_method_27_code
abbrev y_K_together : MethodName := ⟨"LossFreeTools", "together", "(II)I"⟩
abbrev b_M_init : ByteArray := prog_7_method_1_code
abbrev y_M_init : MethodName := ⟨"LossFreeToolsModel", "<init>", "(II)V"⟩
abbrev b_M_thrown : ByteArray := prog_7_method_2_code
abbrev y_M_thrown : MethodName := ⟨"LossFreeToolsModel", "thrown", "()I"⟩
abbrev b_M_clear : ByteArray := prog_7_method_3_code
abbrev y_M_clear : MethodName := ⟨"LossFreeToolsModel", "clear", "()V"⟩
abbrev b_M_in : ByteArray := prog_7_method_4_code
abbrev y_M_in : MethodName := ⟨"LossFreeToolsModel", "in", "(III)Z"⟩
abbrev b_M_tileAt : ByteArray := prog_7_method_5_code
abbrev y_M_tileAt : MethodName := ⟨"LossFreeToolsModel", "tileAt", "(I)I"⟩
abbrev b_M_isTile : ByteArray := prog_7_method_6_code
abbrev y_M_isTile : MethodName := ⟨"LossFreeToolsModel", "isTile", "(I)Z"⟩
abbrev b_M_isSample : ByteArray := prog_7_method_7_code
abbrev y_M_isSample : MethodName := ⟨"LossFreeToolsModel", "isSample", "(II)Z"⟩
abbrev b_M_lies : ByteArray := prog_7_method_8_code
abbrev y_M_lies : MethodName := ⟨"LossFreeToolsModel", "lies", "(IIII)Z"⟩
abbrev b_M_tile : ByteArray := prog_7_method_9_code
abbrev y_M_tile : MethodName := ⟨"LossFreeToolsModel", "tile", "(IIII)I"⟩
abbrev b_M_byteOf : ByteArray := prog_7_method_10_code
abbrev y_M_byteOf : MethodName := ⟨"LossFreeToolsModel", "byteOf", "(II)I"⟩
abbrev b_M_note : ByteArray := prog_7_method_11_code
abbrev y_M_note : MethodName := ⟨"LossFreeToolsModel", "note", "(III)I"⟩
abbrev b_M_fits : ByteArray := prog_7_method_12_code
abbrev y_M_fits : MethodName := ⟨"LossFreeToolsModel", "fits", "(ZI)Z"⟩
abbrev b_M_nearest : ByteArray := prog_7_method_13_code
abbrev y_M_nearest : MethodName := ⟨"LossFreeToolsModel", "nearest", "(ZI)I"⟩
abbrev b_M_move : ByteArray := prog_7_method_14_code
abbrev y_M_move : MethodName := ⟨"LossFreeToolsModel", "move", "(II)V"⟩
abbrev b_M_moveNote : ByteArray := prog_7_method_15_code
abbrev y_M_moveNote : MethodName := ⟨"LossFreeToolsModel", "moveNote", "(II)V"⟩
abbrev b_M_crop : ByteArray := prog_7_method_16_code
abbrev y_M_crop : MethodName := ⟨"LossFreeToolsModel", "crop", "(IIII)I"⟩
abbrev b_M_near : ByteArray := prog_7_method_17_code
abbrev y_M_near : MethodName := ⟨"LossFreeToolsModel", "near", "(I)I"⟩
abbrev b_M_comes : ByteArray := prog_7_method_18_code
abbrev y_M_comes : MethodName := ⟨"LossFreeToolsModel", "comes", "(IIIII)I"⟩
abbrev b_M_isTurned : ByteArray := prog_7_method_19_code
abbrev y_M_isTurned : MethodName := ⟨"LossFreeToolsModel", "isTurned", "(I)Z"⟩
abbrev b_M_both : ByteArray := prog_7_method_20_code
abbrev y_M_both : MethodName := ⟨"LossFreeToolsModel", "both", "(II)I"⟩
abbrev b_M_turn : ByteArray := prog_7_method_21_code
abbrev y_M_turn : MethodName := ⟨"LossFreeToolsModel", "turn", "(I)I"⟩
abbrev b_M_swap : ByteArray := prog_7_method_22_code
abbrev y_M_swap : MethodName := ⟨"LossFreeToolsModel", "swap", "()I"⟩
abbrev b_M_join : ByteArray := prog_7_method_23_code
abbrev y_M_join : MethodName := ⟨"LossFreeToolsModel", "join", "(I)I"⟩
abbrev b_M_at : ByteArray := prog_7_method_24_code
abbrev y_M_at : MethodName := ⟨"LossFreeToolsModel", "at", "(II)I"⟩
abbrev b_M_byteAt : ByteArray := prog_7_method_25_code
abbrev y_M_byteAt : MethodName := ⟨"LossFreeToolsModel", "byteAt", "(II)I"⟩
abbrev b_M_shown : ByteArray := prog_7_method_26_code
abbrev y_M_shown : MethodName := ⟨"LossFreeToolsModel", "shown", "(II)I"⟩
abbrev b_M_ownOf : ByteArray := prog_7_method_27_code
abbrev y_M_ownOf : MethodName := ⟨"LossFreeToolsModel", "ownOf", "(IIIII)I"⟩
abbrev b_M_noteAt : ByteArray := prog_7_method_28_code
abbrev y_M_noteAt : MethodName := ⟨"LossFreeToolsModel", "noteAt", "(II)I"⟩
abbrev b_M_tell : ByteArray := prog_7_method_29_code
abbrev y_M_tell : MethodName := ⟨"LossFreeToolsModel", "tell", "(I)V"⟩
abbrev b_M_tellTwo : ByteArray := prog_7_method_30_code
abbrev y_M_tellTwo : MethodName := ⟨"LossFreeToolsModel", "tellTwo", "(I)V"⟩
abbrev b_M_partSize : ByteArray := prog_7_method_31_code
abbrev y_M_partSize : MethodName := ⟨"LossFreeToolsModel", "partSize", "(I)I"⟩
abbrev b_M_isBefore : ByteArray := prog_7_method_32_code
abbrev y_M_isBefore : MethodName := ⟨"LossFreeToolsModel", "isBefore", "(II)Z"⟩
abbrev b_M_pointerOf : ByteArray := prog_7_method_33_code
abbrev y_M_pointerOf : MethodName := ⟨"LossFreeToolsModel", "pointerOf", "(I)I"⟩
abbrev b_M_pointer : ByteArray := prog_7_method_34_code
abbrev y_M_pointer : MethodName := ⟨"LossFreeToolsModel", "pointer", "(I)I"⟩
abbrev b_M_tellPart : ByteArray := prog_7_method_35_code
abbrev y_M_tellPart : MethodName := ⟨"LossFreeToolsModel", "tellPart", "(I)V"⟩
abbrev b_M_write : ByteArray := prog_7_method_36_code
abbrev y_M_write : MethodName := ⟨"LossFreeToolsModel", "write", "()I"⟩
abbrev b_M_streamAt : ByteArray := prog_7_method_37_code
abbrev y_M_streamAt : MethodName := ⟨"LossFreeToolsModel", "streamAt", "(I)I"⟩
abbrev b_M_told : ByteArray := prog_7_method_38_code
abbrev y_M_told : MethodName := ⟨"LossFreeToolsModel", "told", "(I)I"⟩
abbrev b_L_cell : ByteArray := method_2_code
abbrev y_L_cell : MethodName := ⟨"LossFreeToolsLaw", "cell", "([II)I"⟩
abbrev b_L_tile : ByteArray := method_3_code
abbrev y_L_tile : MethodName := ⟨"LossFreeToolsLaw", "tile", "(LLossFreeTools;IIII[J)I"⟩
abbrev b_L_byteOf : ByteArray := method_4_code
abbrev y_L_byteOf : MethodName := ⟨"LossFreeToolsLaw", "byteOf", "(LLossFreeTools;II[J)I"⟩
abbrev b_L_note : ByteArray := method_5_code
abbrev y_L_note : MethodName := ⟨"LossFreeToolsLaw", "note", "(LLossFreeTools;III[J)I"⟩
abbrev b_L_crop : ByteArray := method_6_code
abbrev y_L_crop : MethodName := ⟨"LossFreeToolsLaw", "crop", "(LLossFreeTools;IIII[J)I"⟩
abbrev b_L_near : ByteArray := method_7_code
abbrev y_L_near : MethodName := ⟨"LossFreeToolsLaw", "near", "(LLossFreeTools;I[J)I"⟩
abbrev b_L_turn : ByteArray := method_8_code
abbrev y_L_turn : MethodName := ⟨"LossFreeToolsLaw", "turn", "(LLossFreeTools;I[J)I"⟩
abbrev b_L_join : ByteArray := method_9_code
abbrev y_L_join : MethodName := ⟨"LossFreeToolsLaw", "join", "(LLossFreeTools;I[J)I"⟩
abbrev b_L_at : ByteArray := method_10_code
abbrev y_L_at : MethodName := ⟨"LossFreeToolsLaw", "at", "(LLossFreeTools;II[J)I"⟩
abbrev b_L_byteAt : ByteArray := method_11_code
abbrev y_L_byteAt : MethodName := ⟨"LossFreeToolsLaw", "byteAt", "(LLossFreeTools;II[J)I"⟩
abbrev b_L_shown : ByteArray := method_12_code
abbrev y_L_shown : MethodName := ⟨"LossFreeToolsLaw", "shown", "(LLossFreeTools;II[J)I"⟩
abbrev b_L_noteAt : ByteArray := method_13_code
abbrev y_L_noteAt : MethodName := ⟨"LossFreeToolsLaw", "noteAt", "(LLossFreeTools;II[J)I"⟩
abbrev b_L_streamAt : ByteArray := method_14_code
abbrev y_L_streamAt : MethodName := ⟨"LossFreeToolsLaw", "streamAt", "(LLossFreeTools;I[J)I"⟩
abbrev b_L_pointer : ByteArray := method_15_code
abbrev y_L_pointer : MethodName := ⟨"LossFreeToolsLaw", "pointer", "(LLossFreeTools;I[J)I"⟩
abbrev ax_cl : List vw_C := [(R_N, F_N, 3), (R_P, F_P, 6), (R_S, F_S, 3), (R_T, F_T, 7), (R_K, F_K, 8), (R_M, F_M, 23)]
abbrev ax_ar : List FieldType := [.int, .long, .object "LossFreeTools$Tile", .object "LossFreeTools$Note"]
def ax_tb : List Cond := lw_tbl.filter goodWord
def ax_nw : List Cond := [
  .methodLinkNest "LossFreeTools$Picture" (24 : Nat) ({ cls := "LossFreeTools$Note", name := "<init>", desc := "()V" } : MethodName) "LossFreeTools",
  .castable "java/lang/IllegalArgumentException" "java/lang/IllegalArgumentException",
  .declares ({ cls := "java/lang/RuntimeException", name := "<init>", desc := "()V" } : MethodName),
  .declares ({ cls := "java/lang/RuntimeException", name := "<init>", desc := "(Ljava/lang/String;)V" } : MethodName),
  .declares ({ cls := "java/lang/Exception", name := "<init>", desc := "()V" } : MethodName),
  .declares ({ cls := "java/lang/Exception", name := "<init>", desc := "(Ljava/lang/String;)V" } : MethodName),
  .declares ({ cls := "java/lang/Throwable", name := "<init>", desc := "()V" } : MethodName),
  .declares ({ cls := "java/lang/Throwable", name := "<init>", desc := "(Ljava/lang/String;)V" } : MethodName),
  .castable "java/lang/IllegalStateException" "java/lang/IllegalStateException",
  .castable "java/lang/UnsupportedOperationException" "java/lang/UnsupportedOperationException",
  .castable "java/lang/IndexOutOfBoundsException" "java/lang/IndexOutOfBoundsException",
  .methodLinkNest "LossFreeTools$Picture" (76 : Nat) ({ cls := "LossFreeTools", name := "mirrors", desc := "(I)Z" } : MethodName) "LossFreeTools",
  .methodLinkNest "LossFreeTools$Picture" (83 : Nat) ({ cls := "LossFreeTools", name := "quarters", desc := "(I)I" } : MethodName) "LossFreeTools",
  .methodLinkNest "LossFreeTools$Picture" (93 : Nat) ({ cls := "LossFreeTools", name := "together", desc := "(II)I" } : MethodName) "LossFreeTools",
  .methodLinkNest "LossFreeTools$Tile" (34 : Nat) ({ cls := "LossFreeTools", name := "quarters", desc := "(I)I" } : MethodName) "LossFreeTools",
  .methodLinkNest "LossFreeTools$Tile" (42 : Nat) ({ cls := "LossFreeTools", name := "mirrors", desc := "(I)Z" } : MethodName) "LossFreeTools"]
def ax_ao : List String := ["LossFreeTools$Tile", "LossFreeTools$Note"]
def ax_t4 : List Cond := [.isRef (.static "java/lang/Throwable" "UNASSIGNED_STACK" "[Ljava/lang/StackTraceElement;"), .isRef (.static "java/lang/Throwable" "SUPPRESSED_SENTINEL" "Ljava/util/List;"), .laysStatic "java/lang/Throwable" "UNASSIGNED_STACK" "[Ljava/lang/StackTraceElement;", .laysStatic "java/lang/Throwable" "SUPPRESSED_SENTINEL" "Ljava/util/List;"]
def ax_sr : List (String × Nat × String) := [("LossFreeTools", 56, "not a tile of the picture"), ("LossFreeTools", 66, "another tile has a sample in common"), ("LossFreeTools", 74, "no room for a tile more"), ("LossFreeTools", 87, "no such tile"), ("LossFreeTools", 93, "not a byte"), ("LossFreeTools", 104, "no room for a byte more"), ("LossFreeTools", 113, "no such sample"), ("LossFreeTools", 118, "no room for a note more"), ("LossFreeTools", 124, "not a rectangle of the picture"), ("LossFreeTools", 136, "no such side"), ("LossFreeTools", 138, "no refused crop of the picture as it is"), ("LossFreeTools", 147, "no such way"), ("LossFreeTools", 161, "the sides that meet are not alike"), ("LossFreeTools", 167, "no room for both pictures in one"), ("LossFreeTools", 198, "no such byte"), ("LossFreeTools", 209, "no such note")]
def ax_nc : List (String × String) := [("java/lang/IllegalArgumentException", "java/lang/IllegalStateException"), ("java/lang/IllegalArgumentException", "java/lang/UnsupportedOperationException"), ("java/lang/IllegalArgumentException", "java/lang/IndexOutOfBoundsException"), ("java/lang/IllegalStateException", "java/lang/IllegalArgumentException"), ("java/lang/IllegalStateException", "java/lang/UnsupportedOperationException"), ("java/lang/IllegalStateException", "java/lang/IndexOutOfBoundsException"), ("java/lang/UnsupportedOperationException", "java/lang/IllegalArgumentException"), ("java/lang/UnsupportedOperationException", "java/lang/IllegalStateException"), ("java/lang/UnsupportedOperationException", "java/lang/IndexOutOfBoundsException"), ("java/lang/IndexOutOfBoundsException", "java/lang/IllegalArgumentException"), ("java/lang/IndexOutOfBoundsException", "java/lang/IllegalStateException"), ("java/lang/IndexOutOfBoundsException", "java/lang/UnsupportedOperationException")]
theorem ax_tb_good : ∀ w ∈ ax_tb, (w.onTables && w.keeps) = true ∨ ∃ ty, w = .arrayClass ty := fun w h => good_of_word (List.mem_filter.mp h).2
theorem ax_tb_in {w : Cond} {i : Nat} (h : lw_tbl[i]? = some w) (g : goodWord w = true) : w ∈ ax_tb := List.mem_filter.mpr ⟨List.mem_of_getElem? h, g⟩
theorem ax_ar_0 : ax_ar[0]? = some .int := rfl
theorem ax_ar_1 : ax_ar[1]? = some .long := rfl
def ax_wk (w : Cond) : Bool := match w with
  | .methodLinkNest .. => true
  | .castable .. => true
  | .declares _ => true
  | _ => false
theorem ax_nw_wk : ∀ w ∈ ax_nw, ax_wk w = true := by decide +kernel
theorem ax_nw_ot : ∀ w ∈ ax_nw, w.onTables = true := by decide +kernel
theorem ax_nw_warm (w : Cond) (hw : w ∈ ax_nw) {s U : State} (hW : s.WarmedH U.vm) (h : va_Nw w s) : va_Nw w U := by
  have hk := ax_nw_wk w hw
  have tr : ∀ {c : Cond}, c.onTables = true → c.before #[] (s.setVm U.vm) = true → c.before #[] U = true := by
    intro c hc h
    have e := Cond.onTables_vm (A := #[]) (A' := #[]) (U := s) (U' := U) U.vm c hc
    have hU : U.setVm U.vm = U := rfl
    rw [hU] at e
    rw [← e]
    exact h
  cases w <;> first | (simp [ax_wk] at hk; done) | exact va_Nw.warmM hW h | exact tr rfl (by rw [Cond.castable_setVm hW.alike]; exact h) | exact tr rfl (by rw [Cond.declares_setVm hW.alike]; exact h)
theorem ax_cl_all {P : vw_C → Prop} (h0 : P (R_N, F_N, 3)) (h1 : P (R_P, F_P, 6)) (h2 : P (R_S, F_S, 3)) (h3 : P (R_T, F_T, 7)) (h4 : P (R_K, F_K, 8)) (h5 : P (R_M, F_M, 23)) : ∀ (ci : Nat) (w : vw_C), ax_cl[ci]? = some w → P w := by
  intro ci w h
  match ci, h with
  | 0, h => cases h; exact h0
  | 1, h => cases h; exact h1
  | 2, h => cases h; exact h2
  | 3, h => cases h; exact h3
  | 4, h => cases h; exact h4
  | 5, h => cases h; exact h5
  | n + 6, h => simp [ax_cl] at h
def ax_clsP (w : vw_C) : Prop := (∀ x ∈ u_ws w.1 w.2.1 w.2.2, x ∈ ax_tb) ∧ (∀ k, k < w.2.2 → ∃ ty, parseFieldDescriptor (w.2.1 k).2.2.1 = some ty) ∧ ∀ a, a < w.2.2 → ∀ b, b < w.2.2 → a ≠ b → (w.2.1 a).2.1 ≠ (w.2.1 b).2.1
theorem ax_cls_N : ax_clsP (R_N, F_N, 3) := ⟨by decide +kernel, fun k hk => Option.isSome_iff_exists.mp ((show ∀ k, k < 3 → (parseFieldDescriptor (F_N k).2.2.1).isSome = true by decide +kernel) k hk), by decide +kernel⟩
theorem ax_cls_P : ax_clsP (R_P, F_P, 6) := ⟨by decide +kernel, fun k hk => Option.isSome_iff_exists.mp ((show ∀ k, k < 6 → (parseFieldDescriptor (F_P k).2.2.1).isSome = true by decide +kernel) k hk), by decide +kernel⟩
theorem ax_cls_S : ax_clsP (R_S, F_S, 3) := ⟨by decide +kernel, fun k hk => Option.isSome_iff_exists.mp ((show ∀ k, k < 3 → (parseFieldDescriptor (F_S k).2.2.1).isSome = true by decide +kernel) k hk), by decide +kernel⟩
theorem ax_cls_T : ax_clsP (R_T, F_T, 7) := ⟨by decide +kernel, fun k hk => Option.isSome_iff_exists.mp ((show ∀ k, k < 7 → (parseFieldDescriptor (F_T k).2.2.1).isSome = true by decide +kernel) k hk), by decide +kernel⟩
theorem ax_cls_K : ax_clsP (R_K, F_K, 8) := ⟨by decide +kernel, fun k hk => Option.isSome_iff_exists.mp ((show ∀ k, k < 8 → (parseFieldDescriptor (F_K k).2.2.1).isSome = true by decide +kernel) k hk), by decide +kernel⟩
theorem ax_cls_M : ax_clsP (R_M, F_M, 23) := ⟨by decide +kernel, fun k hk => Option.isSome_iff_exists.mp ((show ∀ k, k < 23 → (parseFieldDescriptor (F_M k).2.2.1).isSome = true by decide +kernel) k hk), by decide +kernel⟩
theorem ax_cls_ok : ∀ (ci : Nat) (w : vw_C), ax_cl[ci]? = some w → ax_clsP w := ax_cl_all ax_cls_N ax_cls_P ax_cls_S ax_cls_T ax_cls_K ax_cls_M
theorem tx_1 {w : Cond} {i : Nat} (h : tables_1_1[i]? = some w) (g : goodWord w = true) : w ∈ ax_tb := List.mem_filter.mpr ⟨List.mem_append_right _ (List.mem_append_left _ (List.mem_of_getElem? h)), g⟩
theorem tx_2 {w : Cond} {i : Nat} (h : tables_1_2[i]? = some w) (g : goodWord w = true) : w ∈ ax_tb := List.mem_filter.mpr ⟨List.mem_append_right _ (List.mem_append_right _ (List.mem_append_left _ (List.mem_of_getElem? h))), g⟩
theorem tx_3 {w : Cond} {i : Nat} (h : tables_1_3[i]? = some w) (g : goodWord w = true) : w ∈ ax_tb := List.mem_filter.mpr ⟨List.mem_append_right _ (List.mem_append_right _ (List.mem_append_right _ (List.mem_append_left _ (List.mem_of_getElem? h)))), g⟩
theorem tx_4 {w : Cond} {i : Nat} (h : tables_1_4[i]? = some w) (g : goodWord w = true) : w ∈ ax_tb := List.mem_filter.mpr ⟨List.mem_append_right _ (List.mem_append_right _ (List.mem_append_right _ (List.mem_append_right _ (List.mem_of_getElem? h)))), g⟩
def dkS (c d : ByteArray) (s : Nat) {α : Type} (r r' : Decoder α) : Prop := ∀ q a q', r.runAt d q = .ok (a, q') → r'.runAt c (s + q) = .ok (a, s + q')
def dkA (c d : ByteArray) (s : Nat) : Prop := (c.data.toList.drop s).take d.data.toList.length = d.data.toList
theorem dk_pure {c d : ByteArray} {s : Nat} {α : Type} (a : α) : dkS c d s (Pure.pure a) (Pure.pure a) := by
  intro q b q' h
  have : (Except.ok (a, q) : Except DecodeError (α × Nat)) = .ok (b, q') := h
  cases this
  rfl
theorem dk_throw {c d : ByteArray} {s : Nat} {α : Type} (e : DecodeError) (r' : Decoder α) : dkS c d s (MonadExcept.throw e) r' := by
  intro q b q' h
  have : (Except.error e : Except DecodeError (α × Nat)) = .ok (b, q') := h
  cases this
theorem dk_bind {c d : ByteArray} {s : Nat} {α β : Type} {r r' : Decoder α} {f f' : α → Decoder β} (h : dkS c d s r r') (hf : ∀ a, dkS c d s (f a) (f' a)) : dkS c d s (r >>= f) (r' >>= f') := by
  intro q b q' e
  have e1 : (match r.runAt d q with | .error x => .error x | .ok v => (f v.1).runAt d v.2) = (.ok (b, q') : Except DecodeError (β × Nat)) := by
    rw [← e]
    show _ = Except.bind (r.runAt d q) (fun v => (f v.1).runAt d v.2)
    cases r.runAt d q <;> rfl
  cases hr : r.runAt d q with
  | error x => rw [hr] at e1; cases e1
  | ok v =>
    rw [hr] at e1
    have g := h q v.1 v.2 hr
    have g2 := hf v.1 v.2 b q' e1
    show Except.bind (r'.runAt c (s + q)) (fun v => (f' v.1).runAt c v.2) = _
    rw [g]
    exact g2
theorem dk_u1 {c d : ByteArray} {s : Nat} (h : dkA c d s) : dkS c d s (Reader.u1) (Reader.u1) := by
  intro q b q' e
  have e1 : (if hh : q < d.size then (.ok (d[q].toNat, q + 1) : Except DecodeError (Nat × Nat)) else .error (.truncated q)) = .ok (b, q') := by
    rw [← e]
    unfold Reader.u1 Reader.runAt
    by_cases hq : q < d.size
    · simp [hq, ReaderT.run, StateT.run, Bind.bind, ReaderT.bind, StateT.bind, MonadReader.read, readThe, MonadReaderOf.read, ReaderT.read, MonadState.get, getThe, MonadStateOf.get, StateT.get, liftM, monadLift, MonadLift.monadLift, MonadStateOf.set, StateT.set, Pure.pure, ReaderT.pure, StateT.pure, Except.bind, Except.pure]
    · simp [hq, ReaderT.run, StateT.run, Bind.bind, ReaderT.bind, StateT.bind, MonadReader.read, readThe, MonadReaderOf.read, ReaderT.read, MonadState.get, getThe, MonadStateOf.get, StateT.get, liftM, monadLift, MonadLift.monadLift, MonadExcept.throw, throwThe, MonadExceptOf.throw, StateT.lift, Pure.pure, ReaderT.pure, StateT.pure, Except.bind, Except.pure, HasTruncated.truncated]
  by_cases hq : q < d.size
  · rw [dif_pos hq] at e1
    have e2 : d[q].toNat = b ∧ q + 1 = q' := by
      have := Except.ok.inj e1
      exact ⟨congrArg Prod.fst this, congrArg Prod.snd this⟩
    have hl : d.data.toList.length = d.size := rfl
    have hget : c.data.toList[s + q]? = d.data.toList[q]? := by
      conv => rhs; rw [← h]
      rw [List.getElem?_take_of_lt (by rw [hl]; exact hq), List.getElem?_drop]
    have hdq : d.data.toList[q]? = some d[q] := by
      rw [List.getElem?_eq_getElem (by rw [hl]; exact hq)]
      rfl
    rw [hdq] at hget
    have hc : s + q < c.size := (List.getElem?_eq_some_iff.mp hget).1
    have hcv : c[s + q] = d[q] := (List.getElem?_eq_some_iff.mp hget).2
    unfold Reader.u1 Reader.runAt
    simp [hc, ReaderT.run, StateT.run, Bind.bind, ReaderT.bind, StateT.bind, MonadReader.read, readThe, MonadReaderOf.read, ReaderT.read, MonadState.get, getThe, MonadStateOf.get, StateT.get, liftM, monadLift, MonadLift.monadLift, MonadStateOf.set, StateT.set, Pure.pure, ReaderT.pure, StateT.pure, Except.bind, Except.pure]
    exact ⟨by rw [hcv]; exact e2.1, by omega⟩
  · rw [dif_neg hq] at e1
    cases e1
theorem dk_map {c d : ByteArray} {s : Nat} {α β : Type} {r r' : Decoder α} (g : α → β) (h : dkS c d s r r') : dkS c d s (g <$> r) (g <$> r') := by
  have e : ∀ x : Decoder α, (g <$> x) = (x >>= fun a => Pure.pure (g a)) := by
    intro x
    funext b q
    show (g <$> x) b q = Except.bind (x b q) (fun v => Except.ok (g v.1, v.2))
    show (Except.bind (x b q) fun v => Except.ok (g v.1, v.2)) = _
    rfl
  rw [e, e]
  exact dk_bind h (fun a => dk_pure _)
theorem dk_u2 {c d : ByteArray} {s : Nat} (h : dkA c d s) : dkS c d s (Reader.u2) (Reader.u2) := dk_bind (dk_u1 h) (fun a => dk_bind (dk_u1 h) (fun b => dk_pure _))
theorem dk_u4 {c d : ByteArray} {s : Nat} (h : dkA c d s) : dkS c d s (Reader.u4) (Reader.u4) := dk_bind (dk_u2 h) (fun a => dk_bind (dk_u2 h) (fun b => dk_pure _))
theorem dk_s1 {c d : ByteArray} {s : Nat} (h : dkA c d s) : dkS c d s (Reader.s1) (Reader.s1) := dk_map _ (dk_u1 h)
theorem dk_s2 {c d : ByteArray} {s : Nat} (h : dkA c d s) : dkS c d s (Reader.s2) (Reader.s2) := dk_map _ (dk_u2 h)
theorem dk_s4 {c d : ByteArray} {s : Nat} (h : dkA c d s) : dkS c d s (Reader.s4) (Reader.s4) := dk_map _ (dk_u4 h)
def dkG : List Nat := [2, 3, 4, 5, 6, 7, 8, 16, 17, 18, 21, 25, 26, 27, 28, 29, 42, 43, 44, 45, 46, 47, 50, 54, 58, 59, 60, 61, 62, 75, 76, 77, 78, 79, 80, 83, 89, 92, 96, 100, 104, 108, 112, 116, 122, 126, 132, 133, 148, 153, 154, 155, 156, 157, 158, 159, 160, 161, 162, 163, 164, 167, 172, 177, 180, 181, 182, 183, 184, 187, 190, 191]
theorem dk_instr {c d : ByteArray} {s : Nat} (h : dkA c d s) (p1 p2 : Nat) {q : Nat} {x : Instr} {q' : Nat} (hg : ∀ n q1, (Reader.u1 : Decoder Nat).runAt d q = .ok (n, q1) → n ∈ dkG) (e : (Decoder.instr p1).runAt d q = .ok (x, q')) : (Decoder.instr p2).runAt c (s + q) = .ok (x, s + q') := by
  unfold Decoder.instr at e ⊢
  cases hr : (Reader.u1 : Decoder Nat).runAt d q with
  | error z =>
    exfalso
    have e1 : Except.bind ((Reader.u1 : Decoder Nat).runAt d q) _ = .ok (x, q') := e
    rw [hr] at e1
    cases e1
  | ok v =>
    have e1 : Except.bind ((Reader.u1 : Decoder Nat).runAt d q) _ = .ok (x, q') := e
    rw [hr] at e1
    have g := dk_u1 h q v.1 v.2 hr
    show Except.bind ((Reader.u1 : Decoder Nat).runAt c (s + q)) _ = _
    rw [g]
    have hm := hg v.1 v.2 hr
    obtain ⟨n, q1⟩ := v
    clear hr g hg
    dsimp only at hm
    simp only [dkG, List.mem_cons, List.not_mem_nil, or_false] at hm
    rcases hm with rfl | rfl | rfl | rfl | rfl | rfl | rfl | rfl | rfl | rfl | rfl | rfl | rfl | rfl | rfl | rfl | rfl | rfl | rfl | rfl | rfl | rfl | rfl | rfl | rfl | rfl | rfl | rfl | rfl | rfl | rfl | rfl | rfl | rfl | rfl | rfl | rfl | rfl | rfl | rfl | rfl | rfl | rfl | rfl | rfl | rfl | rfl | rfl | rfl | rfl | rfl | rfl | rfl | rfl | rfl | rfl | rfl | rfl | rfl | rfl | rfl | rfl | rfl | rfl | rfl | rfl | rfl | rfl | rfl | rfl | rfl | rfl
    · exact (dk_pure _ : dkS c d s _ _) q1 x q' e1
    · exact (dk_pure _ : dkS c d s _ _) q1 x q' e1
    · exact (dk_pure _ : dkS c d s _ _) q1 x q' e1
    · exact (dk_pure _ : dkS c d s _ _) q1 x q' e1
    · exact (dk_pure _ : dkS c d s _ _) q1 x q' e1
    · exact (dk_pure _ : dkS c d s _ _) q1 x q' e1
    · exact (dk_pure _ : dkS c d s _ _) q1 x q' e1
    · exact (dk_bind (dk_s1 h) (fun _ => dk_pure _) : dkS c d s _ _) q1 x q' e1
    · exact (dk_bind (dk_s2 h) (fun _ => dk_pure _) : dkS c d s _ _) q1 x q' e1
    · exact (dk_bind (dk_u1 h) (fun _ => dk_pure _) : dkS c d s _ _) q1 x q' e1
    · exact (dk_bind (dk_u1 h) (fun _ => dk_pure _) : dkS c d s _ _) q1 x q' e1
    · exact (dk_bind (dk_u1 h) (fun _ => dk_pure _) : dkS c d s _ _) q1 x q' e1
    · exact (dk_pure _ : dkS c d s _ _) q1 x q' e1
    · exact (dk_pure _ : dkS c d s _ _) q1 x q' e1
    · exact (dk_pure _ : dkS c d s _ _) q1 x q' e1
    · exact (dk_pure _ : dkS c d s _ _) q1 x q' e1
    · exact (dk_pure _ : dkS c d s _ _) q1 x q' e1
    · exact (dk_pure _ : dkS c d s _ _) q1 x q' e1
    · exact (dk_pure _ : dkS c d s _ _) q1 x q' e1
    · exact (dk_pure _ : dkS c d s _ _) q1 x q' e1
    · exact (dk_pure _ : dkS c d s _ _) q1 x q' e1
    · exact (dk_pure _ : dkS c d s _ _) q1 x q' e1
    · exact (dk_pure _ : dkS c d s _ _) q1 x q' e1
    · exact (dk_bind (dk_u1 h) (fun _ => dk_pure _) : dkS c d s _ _) q1 x q' e1
    · exact (dk_bind (dk_u1 h) (fun _ => dk_pure _) : dkS c d s _ _) q1 x q' e1
    · exact (dk_pure _ : dkS c d s _ _) q1 x q' e1
    · exact (dk_pure _ : dkS c d s _ _) q1 x q' e1
    · exact (dk_pure _ : dkS c d s _ _) q1 x q' e1
    · exact (dk_pure _ : dkS c d s _ _) q1 x q' e1
    · exact (dk_pure _ : dkS c d s _ _) q1 x q' e1
    · exact (dk_pure _ : dkS c d s _ _) q1 x q' e1
    · exact (dk_pure _ : dkS c d s _ _) q1 x q' e1
    · exact (dk_pure _ : dkS c d s _ _) q1 x q' e1
    · exact (dk_pure _ : dkS c d s _ _) q1 x q' e1
    · exact (dk_pure _ : dkS c d s _ _) q1 x q' e1
    · exact (dk_pure _ : dkS c d s _ _) q1 x q' e1
    · exact (dk_pure _ : dkS c d s _ _) q1 x q' e1
    · exact (dk_pure _ : dkS c d s _ _) q1 x q' e1
    · exact (dk_pure _ : dkS c d s _ _) q1 x q' e1
    · exact (dk_pure _ : dkS c d s _ _) q1 x q' e1
    · exact (dk_pure _ : dkS c d s _ _) q1 x q' e1
    · exact (dk_pure _ : dkS c d s _ _) q1 x q' e1
    · exact (dk_pure _ : dkS c d s _ _) q1 x q' e1
    · exact (dk_pure _ : dkS c d s _ _) q1 x q' e1
    · exact (dk_pure _ : dkS c d s _ _) q1 x q' e1
    · exact (dk_pure _ : dkS c d s _ _) q1 x q' e1
    · exact (dk_bind (dk_u1 h) (fun _ => dk_bind (dk_s1 h) (fun _ => dk_pure _)) : dkS c d s _ _) q1 x q' e1
    · exact (dk_pure _ : dkS c d s _ _) q1 x q' e1
    · exact (dk_pure _ : dkS c d s _ _) q1 x q' e1
    · exact (dk_bind (dk_s2 h) (fun _ => dk_pure _) : dkS c d s _ _) q1 x q' e1
    · exact (dk_bind (dk_s2 h) (fun _ => dk_pure _) : dkS c d s _ _) q1 x q' e1
    · exact (dk_bind (dk_s2 h) (fun _ => dk_pure _) : dkS c d s _ _) q1 x q' e1
    · exact (dk_bind (dk_s2 h) (fun _ => dk_pure _) : dkS c d s _ _) q1 x q' e1
    · exact (dk_bind (dk_s2 h) (fun _ => dk_pure _) : dkS c d s _ _) q1 x q' e1
    · exact (dk_bind (dk_s2 h) (fun _ => dk_pure _) : dkS c d s _ _) q1 x q' e1
    · exact (dk_bind (dk_s2 h) (fun _ => dk_pure _) : dkS c d s _ _) q1 x q' e1
    · exact (dk_bind (dk_s2 h) (fun _ => dk_pure _) : dkS c d s _ _) q1 x q' e1
    · exact (dk_bind (dk_s2 h) (fun _ => dk_pure _) : dkS c d s _ _) q1 x q' e1
    · exact (dk_bind (dk_s2 h) (fun _ => dk_pure _) : dkS c d s _ _) q1 x q' e1
    · exact (dk_bind (dk_s2 h) (fun _ => dk_pure _) : dkS c d s _ _) q1 x q' e1
    · exact (dk_bind (dk_s2 h) (fun _ => dk_pure _) : dkS c d s _ _) q1 x q' e1
    · exact (dk_bind (dk_s2 h) (fun _ => dk_pure _) : dkS c d s _ _) q1 x q' e1
    · exact (dk_pure _ : dkS c d s _ _) q1 x q' e1
    · exact (dk_pure _ : dkS c d s _ _) q1 x q' e1
    · exact (dk_bind (dk_u2 h) (fun _ => dk_pure _) : dkS c d s _ _) q1 x q' e1
    · exact (dk_bind (dk_u2 h) (fun _ => dk_pure _) : dkS c d s _ _) q1 x q' e1
    · exact (dk_bind (dk_u2 h) (fun _ => dk_pure _) : dkS c d s _ _) q1 x q' e1
    · exact (dk_bind (dk_u2 h) (fun _ => dk_pure _) : dkS c d s _ _) q1 x q' e1
    · exact (dk_bind (dk_u2 h) (fun _ => dk_pure _) : dkS c d s _ _) q1 x q' e1
    · exact (dk_bind (dk_u2 h) (fun _ => dk_pure _) : dkS c d s _ _) q1 x q' e1
    · exact (dk_pure _ : dkS c d s _ _) q1 x q' e1
    · exact (dk_pure _ : dkS c d s _ _) q1 x q' e1
def dkC (d : ByteArray) (q : Nat) (i : Instr) (n : Nat) : Bool := decide (decode d q = .ok (i, n)) && (match (Reader.u1 : Decoder Nat).runAt d q with | .ok v => dkG.contains v.1 | .error _ => false)
theorem dk_row {c d : ByteArray} {s : Nat} (h : dkA c d s) (q : Nat) {i : Instr} {n : Nat} (hc : dkC d q i n = true) : decode c (s + q) = .ok (i, n) := by
  unfold dkC at hc
  rw [Bool.and_eq_true] at hc
  obtain ⟨h1, h2⟩ := hc
  have h1 := of_decide_eq_true h1
  have e : decode d q = Except.bind ((Decoder.instr q).runAt d q) (fun v => .ok (v.1, v.2 - q)) := rfl
  have e' : decode c (s + q) = Except.bind ((Decoder.instr (s + q)).runAt c (s + q)) (fun v => .ok (v.1, v.2 - (s + q))) := rfl
  rw [e] at h1
  rw [e']
  cases hr : (Decoder.instr q).runAt d q with
  | error z => rw [hr] at h1; cases h1
  | ok v =>
    rw [hr] at h1
    have h3 := Except.ok.inj h1
    have g := dk_instr h q (s + q) (x := v.1) (q' := v.2) (fun m q1 hm => by
      rw [hm] at h2
      exact List.contains_iff_mem.mp h2) hr
    rw [g]
    show Except.ok (v.1, s + v.2 - (s + q)) = _
    rw [Nat.add_sub_add_left]
    exact h1
/-! AX, the core. A typed memory over the machine: ids; shapes S (class or array), ints I, references R, longs L; 'ad' says where an id lies. The judgement ax_W: from this pc, these locals, this stack, this memory the machine comes to its end. -/
abbrev ax_Sh : Type := Nat ⊕ (Nat × Nat)
abbrev ax_S : Type := Nat → Option ax_Sh
abbrev ax_I : Type := Nat → Nat → Int32
abbrev ax_R : Type := Nat → Nat → Option Nat
abbrev ax_L : Type := Nat → Nat → Int64
def ax_up {α : Type} (f : Nat → Nat → α) (i k : Nat) (v : α) : Nat → Nat → α := fun a b => if a = i ∧ b = k then v else f a b
theorem ax_up_self {α : Type} (f : Nat → Nat → α) (i k : Nat) (v : α) : ax_up f i k v i k = v := by simp [ax_up]
theorem ax_up_ne {α : Type} {f : Nat → Nat → α} {i k a b : Nat} {v : α} (h : ¬ (a = i ∧ b = k)) : ax_up f i k v a b = f a b := by simp [ax_up, h]
/-- '.ref i' is the id i, where it lies; '.retAddr b' stands for the reference to b itself (the law's script), which is no id -/
def ax_tv (ad : Nat → Nat) (v : Value) : Value := match v with
  | .ref i => .ref (ad i)
  | .retAddr b => .ref b
  | w => w
theorem ax_tv_cat (ad : Nat → Nat) (v : Value) : (ax_tv ad v).category = v.category := by cases v <;> rfl
/-- the tables, the array classes, cells that nobody writes -/
abbrev ax_G : Type := va_G × List (ClassId × FieldType) × List (Nat × Cell)
def ax_ty (q : vw_C) (k : Nat) : FieldType := (parseFieldDescriptor (q.2.1 k).2.2.1).getD .int
def ax_v (ad : Nat → Nat) (ty : FieldType) (x : Int32) (r : Option Nat) (y : Int64) : Value := match ty with
  | .object _ => va_rf (r.map ad)
  | .array _ => va_rf (r.map ad)
  | .long => .long y
  | _ => .int x
def ax_at (G : ax_G) (ad : Nat → Nat) (I : ax_I) (R : ax_R) (L : ax_L) (i : Nat) (sh : ax_Sh) (H : Heap) : Prop := match sh with
  | .inl ci => ∃ q : vw_C, ax_cl[ci]? = some q ∧ t_OB (ad i) (G.1.1 ci) q.2.2 (G.1.2 ci) H (fun k => ax_v ad (ax_ty q k) (I i k) (R i k) (L i k))
  | .inr a => ∃ q : ClassId × FieldType, G.2.1[a.1]? = some q ∧ H[ad i]? = some (arrV q.1 a.2 (fun k => ax_v ad q.2 (I i k) (R i k) (L i k)))
theorem ax_at.kept {G : ax_G} {ad ad' : Nat → Nat} {I I' : ax_I} {R R' : ax_R} {L L' : ax_L} {i : Nat} {sh : ax_Sh} {H H' : Heap} (h : ax_at G ad I R L i sh H) (e0 : ad' i = ad i) (eI : ∀ k, I' i k = I i k) (eR : ∀ k, (R' i k).map ad' = (R i k).map ad) (eL : ∀ k, L' i k = L i k) (eH : H'[ad i]? = H[ad i]?) : ax_at G ad' I' R' L' i sh H' := by
  have ev : ∀ (ty : FieldType) (k : Nat), ax_v ad' ty (I' i k) (R' i k) (L' i k) = ax_v ad ty (I i k) (R i k) (L i k) := by
    intro ty k
    unfold ax_v
    rw [eI k, eL k, eR k]
  cases sh with
  | inl ci =>
    obtain ⟨q, h1, h2⟩ := h
    refine ⟨q, h1, ?_⟩
    rw [e0]
    exact (h2.kept eH).to (fun k _ => (ev _ k).symm)
  | inr a =>
    obtain ⟨q, h1, h2⟩ := h
    refine ⟨q, h1, ?_⟩
    rw [e0, eH, h2]
    congr 2
    funext k
    exact (ev _ k).symm
theorem ax_at.lt {G : ax_G} {ad : Nat → Nat} {I : ax_I} {R : ax_R} {L : ax_L} {i : Nat} {sh : ax_Sh} {H : Heap} (h : ax_at G ad I R L i sh H) : ad i < H.size := by
  cases sh with
  | inl ci =>
    obtain ⟨q, -, cell, h2, -⟩ := h
    exact (Array.getElem?_eq_some_iff.mp h2).1
  | inr a =>
    obtain ⟨q, -, h2⟩ := h
    exact (Array.getElem?_eq_some_iff.mp h2).1
def ax_Rep (G : ax_G) (ad : Nat → Nat) (S : ax_S) (I : ax_I) (R : ax_R) (L : ax_L) (H : Heap) : Prop :=
  (∀ i sh, S i = some sh → ax_at G ad I R L i sh H) ∧ (∀ i j, S i ≠ none → S j ≠ none → ad i = ad j → i = j) ∧ (∀ i k u, S i ≠ none → R i k = some u → S u ≠ none) ∧ ∀ z ∈ G.2.2, H[z.1]? = some z.2 ∧ ∀ i, S i ≠ none → ad i ≠ z.1
theorem ax_Rep.lt {G : ax_G} {ad : Nat → Nat} {S : ax_S} {I : ax_I} {R : ax_R} {L : ax_L} {H : Heap} (h : ax_Rep G ad S I R L H) {i : Nat} (hi : S i ≠ none) : ad i < H.size := by
  cases hs : S i with
  | none => exact absurd hs hi
  | some sh => exact (h.1 i sh hs).lt
/-- one cell is written: the others stay -/
theorem ax_Rep.set {G : ax_G} {ad : Nat → Nat} {S : ax_S} {I I' : ax_I} {R R' : ax_R} {L L' : ax_L} {H H' : Heap} (h : ax_Rep G ad S I R L H) {i : Nat} {sh : ax_Sh} (hi : S i = some sh) (h' : ax_at G ad I' R' L' i sh H')
    (eI : ∀ a, a ≠ i → ∀ k, I' a k = I a k) (eR : ∀ a, a ≠ i → ∀ k, R' a k = R a k) (eL : ∀ a, a ≠ i → ∀ k, L' a k = L a k) (hR : ∀ k u, R' i k = some u → S u ≠ none) (eH : ∀ q, q ≠ ad i → H'[q]? = H[q]?) : ax_Rep G ad S I' R' L' H' := by
  have hin : S i ≠ none := by rw [hi]; exact fun z => by cases z
  refine ⟨fun a s2 ha => ?_, h.2.1, fun a k u ha hu => ?_, fun z hz => ?_⟩
  · by_cases hai : a = i
    · subst hai
      cases hi.symm.trans ha
      exact h'
    · have han : S a ≠ none := by rw [ha]; exact fun z => by cases z
      exact (h.1 a s2 ha).kept rfl (eI a hai) (fun k => by rw [eR a hai k]) (eL a hai) (eH _ (fun z => hai (h.2.1 a i han hin z)))
  · by_cases hai : a = i
    · subst hai
      exact hR k u hu
    · exact h.2.2.1 a k u ha (by rw [← eR a hai k]; exact hu)
  · obtain ⟨h1, h2⟩ := h.2.2.2 z hz
    exact ⟨by rw [eH _ (fun e => h2 i hin e.symm)]; exact h1, h2⟩
/-- a cell more -/
theorem ax_Rep.new {G : ax_G} {ad : Nat → Nat} {S : ax_S} {I I' : ax_I} {R R' : ax_R} {L L' : ax_L} {H H' : Heap} (h : ax_Rep G ad S I R L H) {i : Nat} {sh : ax_Sh} (hi : S i = none) (a0 : Nat) (ha0 : a0 = H.size)
    (h' : ax_at G (fun j => if j = i then a0 else ad j) I' R' L' i sh H')
    (eI : ∀ a, a ≠ i → ∀ k, I' a k = I a k) (eR : ∀ a, a ≠ i → ∀ k, R' a k = R a k) (eL : ∀ a, a ≠ i → ∀ k, L' a k = L a k) (hR : ∀ k, R' i k = none) (eH : ∀ q, q < H.size → H'[q]? = H[q]?) :
    ax_Rep G (fun j => if j = i then a0 else ad j) (fun j => if j = i then some sh else S j) I' R' L' H' := by
  have old : ∀ a, a ≠ i → (fun j => if j = i then some sh else S j) a = S a := fun a hn => by simp [hn]
  have oldA : ∀ a, a ≠ i → (fun j => if j = i then a0 else ad j) a = ad a := fun a hn => by simp [hn]
  have oldN : ∀ a, a ≠ i → (fun j => if j = i then some sh else S j) a ≠ none → S a ≠ none := fun a hn hz => by rw [← old a hn]; exact hz
  refine ⟨fun a s2 ha => ?_, fun a b ha hb e => ?_, fun a k u ha hu => ?_, fun z hz => ?_⟩
  · by_cases hai : a = i
    · subst hai
      simp at ha
      subst ha
      exact h'
    · rw [old a hai] at ha
      have han : S a ≠ none := by rw [ha]; exact fun z => by cases z
      refine (h.1 a s2 ha).kept (oldA a hai) (eI a hai) (fun k => ?_) (eL a hai) (eH _ (h.lt han))
      rw [eR a hai k]
      cases hr : R a k with
      | none => rfl
      | some u =>
        have hu := h.2.2.1 a k u han hr
        have hui : u ≠ i := fun z => hu (by rw [z]; exact hi)
        simp [hui]
  · by_cases hai : a = i <;> by_cases hbi : b = i
    · rw [hai, hbi]
    · exfalso
      rw [oldA b hbi, hai] at e
      have := h.lt (oldN b hbi hb)
      simp at e
      omega
    · exfalso
      rw [oldA a hai, hbi] at e
      have := h.lt (oldN a hai ha)
      simp at e
      omega
    · rw [oldA a hai, oldA b hbi] at e
      exact h.2.1 a b (oldN a hai ha) (oldN b hbi hb) e
  · by_cases hai : a = i
    · subst hai
      rw [hR k] at hu
      cases hu
    · rw [eR a hai k] at hu
      have hu2 := h.2.2.1 a k u (oldN a hai ha) hu
      have hui : u ≠ i := fun z => hu2 (by rw [z]; exact hi)
      rw [old u hui]
      exact hu2
  · obtain ⟨h1, h2⟩ := h.2.2.2 z hz
    have hl : z.1 < H.size := (Array.getElem?_eq_some_iff.mp h1).1
    refine ⟨by rw [eH _ hl]; exact h1, fun a ha e => ?_⟩
    by_cases hai : a = i
    · rw [hai] at e
      simp at e
      omega
    · rw [oldA a hai] at e
      exact h2 a (oldN a hai ha) e
/-- what is given of Throwable's statics, wherever the cells that nobody writes stand -/
def ax_T4 (G : ax_G) (U : State) : Prop := ∀ (b : State) (args : Array Value), U.vm.Alike b.vm → (∀ z ∈ G.2.2, b.heap[z.1]? = some z.2) → ∀ w ∈ ax_t4, w.before args b = true
/-- what the tables say, at a state -/
def ax_K (G : ax_G) (U : State) : Prop := va_K G.1 ax_cl G.2.1 U ∧ G.2.1.map (fun q => q.2) = ax_ar ∧ (∀ w ∈ ax_nw, va_Nw w U) ∧ (∀ C ∈ ax_ao, va_AO C U) ∧ ax_T4 G U ∧ (∀ q ∈ ax_sr, ∃ a : Nat, vk_R q.1 q.2.1 q.2.2 a U) ∧ (∀ q ∈ ax_nc, va_Nc q.1 q.2 U) ∧ ∀ z, G.2.2[0]? = some z → U.isArrayOf z.2 .int
theorem ax_K.moved {G : ax_G} {s U : State} (hW : s.WarmedH U.vm) (h : ax_K G s) : ax_K G U :=
  ⟨va_K.moved hW.alike h.1, h.2.1, fun w hw => ax_nw_warm w hw hW (h.2.2.1 w hw), fun C hC => (h.2.2.2.1 C hC).moved hW.alike, fun b args hb hz w hw => h.2.2.2.2.1 b args (hW.alike.trans hb) hz w hw, fun q hq => by
    obtain ⟨a, ha⟩ := h.2.2.2.2.2.1 q hq
    exact ⟨a, vk_R.warm hW ha⟩, fun q hq => (h.2.2.2.2.2.2.1 q hq).moved hW.alike, fun z hz => State.isArrayOf_alike hW.alike (h.2.2.2.2.2.2.2 z hz)⟩
theorem ax_K.same {G : ax_G} {s U : State} (hW : s.vm = U.vm) (h : ax_K G s) : ax_K G U :=
  ⟨va_K.moved (by rw [hW]; exact Vm.Alike.refl _) h.1, h.2.1, fun w hw => va_Nw.same (ax_nw_ot w hw) hW (h.2.2.1 w hw), fun C hC => (h.2.2.2.1 C hC).moved (by rw [hW]; exact Vm.Alike.refl _), fun b args hb hz w hw => h.2.2.2.2.1 b args (by rw [hW]; exact hb) hz w hw, fun q hq => by
    obtain ⟨a, ha⟩ := h.2.2.2.2.2.1 q hq
    exact ⟨a, vk_R.same hW.symm ha⟩, fun q hq => (h.2.2.2.2.2.2.1 q hq).moved (by rw [hW]; exact Vm.Alike.refl _), fun z hz => State.isArrayOf_alike (by rw [hW]; exact Vm.Alike.refl _) (h.2.2.2.2.2.2.2 z hz)⟩
theorem ax_K.arr {G : ax_G} {s : State} (h : ax_K G s) {ai : Nat} {ty : FieldType} (ha : ax_ar[ai]? = some ty) : ∃ cA : ClassId, G.2.1[ai]? = some (cA, ty) ∧ ArrOfT s cA ty ∧ va_RA s cA ty := by
  have h1 := h.2.1
  have h2 : (G.2.1.map (fun q => q.2))[ai]? = some ty := by rw [h1]; exact ha
  rw [List.getElem?_map] at h2
  cases hq : G.2.1[ai]? with
  | none => rw [hq] at h2; cases h2
  | some q =>
    rw [hq] at h2
    obtain ⟨cA, t⟩ := q
    cases h2
    exact ⟨cA, rfl, (h.1.2 ai _ hq).1, (h.1.2 ai _ hq).2⟩
/-- the locals: their values in order, 'none' where nothing is known -/
abbrev ax_Ls : Type := List (Option Value)
def ax_pr (ad : Nat → Nat) (ls : ax_Ls) : List (Nat × Value) := (List.range ls.length).filterMap (fun k => (ls.getD k none).map (fun v => (k, ax_tv ad v)))
theorem ax_pr_mem {ad : Nat → Nat} {ls : ax_Ls} {k : Nat} {v : Value} (h : ls[k]? = some (some v)) : (k, ax_tv ad v) ∈ ax_pr ad ls := by
  have hl : k < ls.length := (List.getElem?_eq_some_iff.mp h).1
  refine List.mem_filterMap.mpr ⟨k, List.mem_range.mpr hl, ?_⟩
  simp [List.getD, h]
theorem ax_pr_of {ad : Nat → Nat} {ls : ax_Ls} {q : Nat × Value} (h : q ∈ ax_pr ad ls) : ∃ v, ls[q.1]? = some (some v) ∧ q.2 = ax_tv ad v := by
  obtain ⟨k, hk, hq⟩ := List.mem_filterMap.mp h
  have hl : k < ls.length := List.mem_range.mp hk
  cases hg : ls[k]? with
  | none => simp [List.getD, hg] at hq
  | some o =>
    cases o with
    | none => simp [List.getD, hg] at hq
    | some v =>
      simp [List.getD, hg] at hq
      subst hq
      exact ⟨v, hg, rfl⟩
def ax_loc (ad : Nat → Nat) (nL : Nat) (ls : ax_Ls) (lsC : Array Slot) : Prop := ls.length = nL ∧ (∀ v, some v ∈ ls → v.category = 1) ∧ lv_has lsC nL (ax_pr ad ls)
theorem ax_loc.get {ad : Nat → Nat} {nL : Nat} {ls : ax_Ls} {lsC : Array Slot} (h : ax_loc ad nL ls lsC) {k : Nat} {v : Value} (hk : ls[k]? = some (some v)) : lsC[k]? = some (.val (ax_tv ad v)) := h.2.2.2.2 _ (ax_pr_mem hk)
theorem ax_loc.set {ad : Nat → Nat} {nL : Nat} {ls : ax_Ls} {lsC lsD : Array Slot} (h : ax_loc ad nL ls lsC) {i : Nat} {v : Value} (hc : v.category = 1) (hl : lv_has lsD nL ((i, ax_tv ad v) :: (ax_pr ad ls).filter (fun q => !(q.1 == i) && !(q.1 + 1 == i && q.2.category == 2)))) : ax_loc ad nL (ls.set i (some v)) lsD := by
  refine ⟨by rw [List.length_set]; exact h.1, fun w hw => ?_, hl.1, hl.2.1, fun q hq => ?_⟩
  · rcases List.mem_or_eq_of_mem_set hw with h1 | h1
    · exact h.2.1 w h1
    · cases h1; exact hc
  · obtain ⟨w, hw, e⟩ := ax_pr_of hq
    rw [List.getElem?_set] at hw
    by_cases hi : i = q.1
    · rw [if_pos hi] at hw
      split at hw
      · cases hw
        refine hl.2.2 q ?_
        have : q = (i, ax_tv ad v) := by rw [hi, ← e]
        rw [this]
        exact List.mem_cons_self
      · cases hw
    · rw [if_neg hi] at hw
      refine hl.2.2 q (List.mem_cons_of_mem _ (List.mem_filter.mpr ⟨?_, ?_⟩))
      · have := ax_pr_mem (ad := ad) hw
        rw [← e] at this
        exact this
      · have hw1 : w.category = 1 := h.2.1 w (List.mem_of_getElem? hw)
        have h2 : q.2.category = 1 := by rw [e, ax_tv_cat]; exact hw1
        simp [h2]
        exact fun z => hi z.symm
theorem ax_loc.moved {ad ad' : Nat → Nat} {nL : Nat} {ls : ax_Ls} {lsC : Array Slot} (h : ax_loc ad nL ls lsC) (e : ∀ v, some v ∈ ls → ax_tv ad' v = ax_tv ad v) : ax_loc ad' nL ls lsC := by
  refine ⟨h.1, h.2.1, h.2.2.1, h.2.2.2.1, fun q hq => ?_⟩
  obtain ⟨v, hv, e2⟩ := ax_pr_of hq
  have h3 := h.2.2.2.2 _ (ax_pr_mem (ad := ad) hv)
  rw [e2, e v (List.mem_of_getElem? hv)]
  exact h3
/-- all references in hand are of ids that live -/
def ax_okv (S : ax_S) (v : Value) : Prop := ∀ u, v = .ref u → S u ≠ none
def ax_live (S : ax_S) (ls : ax_Ls) (st : List Value) : Prop := (∀ v ∈ st, ax_okv S v) ∧ ∀ v, some v ∈ ls → ax_okv S v
theorem ax_okv_i {S : ax_S} {x : Int32} : ax_okv S (.int x) := fun u h => by cases h
theorem ax_okv_l {S : ax_S} {x : Int64} : ax_okv S (.long x) := fun u h => by cases h
theorem ax_okv_n {S : ax_S} : ax_okv S .null := fun u h => by cases h
theorem ax_okv_r {S : ax_S} {a : Nat} (h : S a ≠ none) : ax_okv S (.ref a) := fun u e => by cases e; exact h
theorem ax_live.push {S : ax_S} {ls : ax_Ls} {st : List Value} {v : Value} (h : ax_live S ls st) (hv : ax_okv S v) : ax_live S ls (v :: st) := ⟨fun w hw => by
  rcases List.mem_cons.mp hw with rfl | h1
  · exact hv
  · exact h.1 w h1, h.2⟩
theorem ax_live.pop {S : ax_S} {ls : ax_Ls} {st : List Value} {v : Value} (h : ax_live S ls (v :: st)) : ax_live S ls st := ⟨fun w hw => h.1 w (List.mem_cons_of_mem _ hw), h.2⟩
theorem ax_live.top {S : ax_S} {ls : ax_Ls} {st : List Value} {v : Value} (h : ax_live S ls (v :: st)) : ax_okv S v := h.1 v List.mem_cons_self
theorem ax_live.sto {S : ax_S} {ls : ax_Ls} {st : List Value} {v : Value} (i : Nat) (h : ax_live S ls st) (hv : ax_okv S v) : ax_live S (ls.set i (some v)) st := ⟨h.1, fun w hw => by
  rcases List.mem_or_eq_of_mem_set hw with h1 | h1
  · exact h.2 w h1
  · cases h1; exact hv⟩
theorem ax_live.grow {S S' : ax_S} {ls : ax_Ls} {st : List Value} (h : ax_live S ls st) (e : ∀ i, S i ≠ none → S' i ≠ none) : ax_live S' ls st := ⟨fun v hv u hu => e u (h.1 v hv u hu), fun v hv u hu => e u (h.2 v hv u hu)⟩
/-- the fixed part of a walk: the machine and its launch, the method, the tables, what may change, the first ids and where they lay, the end -/
abbrev ax_X : Type := Program × Launch × Env × Room × State × MethodId × Array Value × List Frame × Method × Code × ax_G × (Nat → Prop) × (Nat → Nat) × ax_S × (State → Prop)
def ax_W (X : ax_X) (nL : Nat) (pc : Nat) (ls : ax_Ls) (st : List Value) (S : ax_S) (I : ax_I) (R : ax_R) (L : ax_L) (cs ss : Nat) : Prop := match X with
  | (p, l, e, Rm, s, m, args, below, meth, c, G, A, ad0, S0, Q) => ∀ (ad : Nat → Nat) (H : Heap) (locs : List Loc) (lsC : Array Slot), (∀ i, S0 i ≠ none → S i ≠ none ∧ ad i = ad0 i) → (∀ i, S i ≠ none → A (ad i)) → ax_Rep G ad S I R L H → va_S A s.heap H locs → ax_loc ad nL ls lsC → ax_live S ls st →
      W p l e Rm s m args below meth c H locs cs ss Q (F0 m pc lsC (st.map (ax_tv ad)))
def ax_ok (X : ax_X) (l0 : Launch) (own : String) (cc : ByteArray) (nL : Nat) (rm : Room) : Prop := match X with
  | (p, l, e, Rm, s, m, args, below, meth, c, G, A, ad0, S0, Q) => l = l0 ∧ Rm = rm ∧ p.tables.exec = Jvm.exec ∧ c.code = cc ∧ c.maxLocals = nL ∧ s.vm.findClass own = some m.cls ∧ (∀ w ∈ ax_tb, w.before args s = true) ∧ ax_K G s ∧ (∀ q, s.heap.size ≤ q → A q) ∧ meth.locks = false
def ax_ini (X : ax_X) : Prop := match X with
  | (_, _, _, _, _, _, _, _, meth, _, _, _, _, _, _) => meth.name = "<init>"
/-! AX, the rules: an instruction each (q: the next pc) -/
section AXR
variable {X : ax_X} {l : Launch} {own : String} {cc : ByteArray} {nL : Nat} {rm : Room} {pc q : Nat} {ls ls' : ax_Ls} {st : List Value} {S : ax_S} {I : ax_I} {R : ax_R} {L : ax_L} {cs ss : Nat}
theorem ax_iconst (h : ax_ok X l own cc nL rm) {n : Int} {v : Int32} (hd : decode cc pc = .ok (.iconst n, 1)) (hq : pc + 1 = q) (hv : Int32.ofInt n = v) (kk : ax_W X nL q ls (.int v :: st) S I R L cs ss) : ax_W X nL pc ls st S I R L cs ss := by
  obtain ⟨p, l1, e, Rm, s, m, args, below, meth, c, G, A, ad0, S0, Q⟩ := X
  obtain ⟨rfl, rfl, hx, hb, hml, hown, hts, hK, hA, hlk⟩ := h
  intro ad H locs lsC h0 hAd hR hS hl hlv
  subst hq
  exact lv_iconst hx hb hd hv (kk ad H locs lsC h0 hAd hR hS hl (hlv.push ax_okv_i))
theorem ax_bipush (h : ax_ok X l own cc nL rm) {n : Int} {v : Int32} (hd : decode cc pc = .ok (.bipush n, 2)) (hq : pc + 2 = q) (hv : (Int8.ofInt n).toInt32 = v) (kk : ax_W X nL q ls (.int v :: st) S I R L cs ss) : ax_W X nL pc ls st S I R L cs ss := by
  obtain ⟨p, l1, e, Rm, s, m, args, below, meth, c, G, A, ad0, S0, Q⟩ := X
  obtain ⟨rfl, rfl, hx, hb, hml, hown, hts, hK, hA, hlk⟩ := h
  intro ad H locs lsC h0 hAd hR hS hl hlv
  subst hq
  exact lv_bipush hx hb hd hv (kk ad H locs lsC h0 hAd hR hS hl (hlv.push ax_okv_i))
theorem ax_sipush (h : ax_ok X l own cc nL rm) {n : Int} {v : Int32} (hd : decode cc pc = .ok (.sipush n, 3)) (hq : pc + 3 = q) (hv : (Int16.ofInt n).toInt32 = v) (kk : ax_W X nL q ls (.int v :: st) S I R L cs ss) : ax_W X nL pc ls st S I R L cs ss := by
  obtain ⟨p, l1, e, Rm, s, m, args, below, meth, c, G, A, ad0, S0, Q⟩ := X
  obtain ⟨rfl, rfl, hx, hb, hml, hown, hts, hK, hA, hlk⟩ := h
  intro ad H locs lsC h0 hAd hR hS hl hlv
  subst hq
  exact lv_sipush hx hb hd hv (kk ad H locs lsC h0 hAd hR hS hl (hlv.push ax_okv_i))
theorem ax_ldc (h : ax_ok X l own cc nL rm) {idx : Nat} {v : Int32} (hd : decode cc pc = .ok (.ldc idx, 2)) (hq : pc + 2 = q) (hw : Cond.constant own idx v ∈ ax_tb) (kk : ax_W X nL q ls (.int v :: st) S I R L cs ss) : ax_W X nL pc ls st S I R L cs ss := by
  obtain ⟨p, l1, e, Rm, s, m, args, below, meth, c, G, A, ad0, S0, Q⟩ := X
  obtain ⟨rfl, rfl, hx, hb, hml, hown, hts, hK, hA, hlk⟩ := h
  intro ad H locs lsC h0 hAd hR hS hl hlv
  subst hq
  exact lv_ldc hx hb hown (hts _ hw) hd (kk ad H locs lsC h0 hAd hR hS hl (hlv.push ax_okv_i))
theorem ax_ldcw (h : ax_ok X l own cc nL rm) {idx : Nat} {v : Int32} (hd : decode cc pc = .ok (.ldc_w idx, 3)) (hq : pc + 3 = q) (hw : Cond.constant own idx v ∈ ax_tb) (kk : ax_W X nL q ls (.int v :: st) S I R L cs ss) : ax_W X nL pc ls st S I R L cs ss := by
  obtain ⟨p, l1, e, Rm, s, m, args, below, meth, c, G, A, ad0, S0, Q⟩ := X
  obtain ⟨rfl, rfl, hx, hb, hml, hown, hts, hK, hA, hlk⟩ := h
  intro ad H locs lsC h0 hAd hR hS hl hlv
  subst hq
  exact lv_ldcw hx hb hown (hts _ hw) hd (kk ad H locs lsC h0 hAd hR hS hl (hlv.push ax_okv_i))
theorem ax_iload_n (h : ax_ok X l own cc nL rm) {k : Fin 4} {i : Nat} {x : Int32} (hd : decode cc pc = .ok (.iload_n k, 1)) (hq : pc + 1 = q) (hi : (k : Nat) = i) (hl0 : ls[i]? = some (some (.int x))) (kk : ax_W X nL q ls (.int x :: st) S I R L cs ss) : ax_W X nL pc ls st S I R L cs ss := by
  obtain ⟨p, l1, e, Rm, s, m, args, below, meth, c, G, A, ad0, S0, Q⟩ := X
  obtain ⟨rfl, rfl, hx, hb, hml, hown, hts, hK, hA, hlk⟩ := h
  intro ad H locs lsC h0 hAd hR hS hl hlv
  subst hq
  exact lv_iload_n hx hb hd hi (hl.get hl0) (kk ad H locs lsC h0 hAd hR hS hl (hlv.push ax_okv_i))
theorem ax_iload (h : ax_ok X l own cc nL rm) {i : Nat} {x : Int32} (hd : decode cc pc = .ok (.iload i, 2)) (hq : pc + 2 = q) (hl0 : ls[i]? = some (some (.int x))) (kk : ax_W X nL q ls (.int x :: st) S I R L cs ss) : ax_W X nL pc ls st S I R L cs ss := by
  obtain ⟨p, l1, e, Rm, s, m, args, below, meth, c, G, A, ad0, S0, Q⟩ := X
  obtain ⟨rfl, rfl, hx, hb, hml, hown, hts, hK, hA, hlk⟩ := h
  intro ad H locs lsC h0 hAd hR hS hl hlv
  subst hq
  exact lv_iload hx hb hd (hl.get hl0) (kk ad H locs lsC h0 hAd hR hS hl (hlv.push ax_okv_i))
theorem ax_istore_n (h : ax_ok X l own cc nL rm) {k : Fin 4} {i : Nat} {x : Int32} (hd : decode cc pc = .ok (.istore_n k, 1)) (hq : pc + 1 = q) (hi : (k : Nat) = i) (hn : i < nL) (hls : ls.set i (some (.int x)) = ls') (kk : ax_W X nL q ls' st S I R L cs ss) : ax_W X nL pc ls (.int x :: st) S I R L cs ss := by
  obtain ⟨p, l1, e, Rm, s, m, args, below, meth, c, G, A, ad0, S0, Q⟩ := X
  obtain ⟨rfl, rfl, hx, hb, hml, hown, hts, hK, hA, hlk⟩ := h
  intro ad H locs lsC h0 hAd hR hS hl hlv
  subst hq; subst hls
  refine lv_istore_n hx hb hd hi hl.2.2 hn rfl (fun lsD hD => ?_)
  exact kk ad H locs lsD h0 hAd hR hS (hl.set rfl hD) (hlv.pop.sto i hlv.top)
theorem ax_istore (h : ax_ok X l own cc nL rm) {i : Nat} {x : Int32} (hd : decode cc pc = .ok (.istore i, 2)) (hq : pc + 2 = q) (hn : i < nL) (hls : ls.set i (some (.int x)) = ls') (kk : ax_W X nL q ls' st S I R L cs ss) : ax_W X nL pc ls (.int x :: st) S I R L cs ss := by
  obtain ⟨p, l1, e, Rm, s, m, args, below, meth, c, G, A, ad0, S0, Q⟩ := X
  obtain ⟨rfl, rfl, hx, hb, hml, hown, hts, hK, hA, hlk⟩ := h
  intro ad H locs lsC h0 hAd hR hS hl hlv
  subst hq; subst hls
  refine lv_istore hx hb hd hl.2.2 hn rfl (fun lsD hD => ?_)
  exact kk ad H locs lsD h0 hAd hR hS (hl.set rfl hD) (hlv.pop.sto i hlv.top)
theorem ax_aload_n (h : ax_ok X l own cc nL rm) {k : Fin 4} {i : Nat} {x : Nat} (hd : decode cc pc = .ok (.aload_n k, 1)) (hq : pc + 1 = q) (hi : (k : Nat) = i) (hl0 : ls[i]? = some (some (.ref x))) (kk : ax_W X nL q ls (.ref x :: st) S I R L cs ss) : ax_W X nL pc ls st S I R L cs ss := by
  obtain ⟨p, l1, e, Rm, s, m, args, below, meth, c, G, A, ad0, S0, Q⟩ := X
  obtain ⟨rfl, rfl, hx, hb, hml, hown, hts, hK, hA, hlk⟩ := h
  intro ad H locs lsC h0 hAd hR hS hl hlv
  subst hq
  exact lv_aload_n hx hb hd hi (hl.get hl0) (kk ad H locs lsC h0 hAd hR hS hl (hlv.push (hlv.2 _ (List.mem_of_getElem? hl0))))
theorem ax_aload (h : ax_ok X l own cc nL rm) {i : Nat} {x : Nat} (hd : decode cc pc = .ok (.aload i, 2)) (hq : pc + 2 = q) (hl0 : ls[i]? = some (some (.ref x))) (kk : ax_W X nL q ls (.ref x :: st) S I R L cs ss) : ax_W X nL pc ls st S I R L cs ss := by
  obtain ⟨p, l1, e, Rm, s, m, args, below, meth, c, G, A, ad0, S0, Q⟩ := X
  obtain ⟨rfl, rfl, hx, hb, hml, hown, hts, hK, hA, hlk⟩ := h
  intro ad H locs lsC h0 hAd hR hS hl hlv
  subst hq
  exact lv_aload hx hb hd (hl.get hl0) (kk ad H locs lsC h0 hAd hR hS hl (hlv.push (hlv.2 _ (List.mem_of_getElem? hl0))))
theorem ax_astore_n (h : ax_ok X l own cc nL rm) {k : Fin 4} {i : Nat} {x : Nat} (hd : decode cc pc = .ok (.astore_n k, 1)) (hq : pc + 1 = q) (hi : (k : Nat) = i) (hn : i < nL) (hls : ls.set i (some (.ref x)) = ls') (kk : ax_W X nL q ls' st S I R L cs ss) : ax_W X nL pc ls (.ref x :: st) S I R L cs ss := by
  obtain ⟨p, l1, e, Rm, s, m, args, below, meth, c, G, A, ad0, S0, Q⟩ := X
  obtain ⟨rfl, rfl, hx, hb, hml, hown, hts, hK, hA, hlk⟩ := h
  intro ad H locs lsC h0 hAd hR hS hl hlv
  subst hq; subst hls
  refine lv_astore_n hx hb hd hi hl.2.2 hn rfl (fun lsD hD => ?_)
  exact kk ad H locs lsD h0 hAd hR hS (hl.set rfl hD) (hlv.pop.sto i hlv.top)
theorem ax_astore (h : ax_ok X l own cc nL rm) {i : Nat} {x : Nat} (hd : decode cc pc = .ok (.astore i, 2)) (hq : pc + 2 = q) (hn : i < nL) (hls : ls.set i (some (.ref x)) = ls') (kk : ax_W X nL q ls' st S I R L cs ss) : ax_W X nL pc ls (.ref x :: st) S I R L cs ss := by
  obtain ⟨p, l1, e, Rm, s, m, args, below, meth, c, G, A, ad0, S0, Q⟩ := X
  obtain ⟨rfl, rfl, hx, hb, hml, hown, hts, hK, hA, hlk⟩ := h
  intro ad H locs lsC h0 hAd hR hS hl hlv
  subst hq; subst hls
  refine lv_astore hx hb hd hl.2.2 hn rfl (fun lsD hD => ?_)
  exact kk ad H locs lsD h0 hAd hR hS (hl.set rfl hD) (hlv.pop.sto i hlv.top)
theorem ax_iinc (h : ax_ok X l own cc nL rm) {i : Nat} {n : Int} {x v : Int32} (hd : decode cc pc = .ok (.iinc i n, 3)) (hq : pc + 3 = q) (hl0 : ls[i]? = some (some (.int x))) (hv : x + Int32.ofInt n = v) (hn : i < nL) (hls : ls.set i (some (.int v)) = ls') (kk : ax_W X nL q ls' st S I R L cs ss) : ax_W X nL pc ls st S I R L cs ss := by
  obtain ⟨p, l1, e, Rm, s, m, args, below, meth, c, G, A, ad0, S0, Q⟩ := X
  obtain ⟨rfl, rfl, hx, hb, hml, hown, hts, hK, hA, hlk⟩ := h
  intro ad H locs lsC h0 hAd hR hS hl hlv
  subst hq; subst hls
  obtain ⟨k, hk⟩ := List.getElem?_of_mem (ax_pr_mem (ad := ad) hl0)
  refine lv_iinc hx hb hd hl.2.2 hk hv hn rfl (fun lsD hD => ?_)
  exact kk ad H locs lsD h0 hAd hR hS (hl.set rfl hD) (hlv.sto i ax_okv_i)
theorem ax_iadd (h : ax_ok X l own cc nL rm) {x y : Int32} (hd : decode cc pc = .ok (.iadd, 1)) (hq : pc + 1 = q)  (kk : ax_W X nL q ls (.int (x + y) :: st) S I R L cs ss) : ax_W X nL pc ls (.int y :: .int x :: st) S I R L cs ss := by
  obtain ⟨p, l1, e, Rm, s, m, args, below, meth, c, G, A, ad0, S0, Q⟩ := X
  obtain ⟨rfl, rfl, hx, hb, hml, hown, hts, hK, hA, hlk⟩ := h
  intro ad H locs lsC h0 hAd hR hS hl hlv
  subst hq
  exact lv_iadd hx hb hd  (kk ad H locs lsC h0 hAd hR hS hl (hlv.pop.pop.push ax_okv_i))
theorem ax_isub (h : ax_ok X l own cc nL rm) {x y : Int32} (hd : decode cc pc = .ok (.isub, 1)) (hq : pc + 1 = q)  (kk : ax_W X nL q ls (.int (x - y) :: st) S I R L cs ss) : ax_W X nL pc ls (.int y :: .int x :: st) S I R L cs ss := by
  obtain ⟨p, l1, e, Rm, s, m, args, below, meth, c, G, A, ad0, S0, Q⟩ := X
  obtain ⟨rfl, rfl, hx, hb, hml, hown, hts, hK, hA, hlk⟩ := h
  intro ad H locs lsC h0 hAd hR hS hl hlv
  subst hq
  exact lv_isub hx hb hd  (kk ad H locs lsC h0 hAd hR hS hl (hlv.pop.pop.push ax_okv_i))
theorem ax_imul (h : ax_ok X l own cc nL rm) {x y : Int32} (hd : decode cc pc = .ok (.imul, 1)) (hq : pc + 1 = q)  (kk : ax_W X nL q ls (.int (x * y) :: st) S I R L cs ss) : ax_W X nL pc ls (.int y :: .int x :: st) S I R L cs ss := by
  obtain ⟨p, l1, e, Rm, s, m, args, below, meth, c, G, A, ad0, S0, Q⟩ := X
  obtain ⟨rfl, rfl, hx, hb, hml, hown, hts, hK, hA, hlk⟩ := h
  intro ad H locs lsC h0 hAd hR hS hl hlv
  subst hq
  exact lv_imul hx hb hd  (kk ad H locs lsC h0 hAd hR hS hl (hlv.pop.pop.push ax_okv_i))
theorem ax_iand (h : ax_ok X l own cc nL rm) {x y : Int32} (hd : decode cc pc = .ok (.iand, 1)) (hq : pc + 1 = q)  (kk : ax_W X nL q ls (.int (x &&& y) :: st) S I R L cs ss) : ax_W X nL pc ls (.int y :: .int x :: st) S I R L cs ss := by
  obtain ⟨p, l1, e, Rm, s, m, args, below, meth, c, G, A, ad0, S0, Q⟩ := X
  obtain ⟨rfl, rfl, hx, hb, hml, hown, hts, hK, hA, hlk⟩ := h
  intro ad H locs lsC h0 hAd hR hS hl hlv
  subst hq
  exact lv_iand hx hb hd  (kk ad H locs lsC h0 hAd hR hS hl (hlv.pop.pop.push ax_okv_i))
theorem ax_ior (h : ax_ok X l own cc nL rm) {x y : Int32} (hd : decode cc pc = .ok (.ior, 1)) (hq : pc + 1 = q)  (kk : ax_W X nL q ls (.int (x ||| y) :: st) S I R L cs ss) : ax_W X nL pc ls (.int y :: .int x :: st) S I R L cs ss := by
  obtain ⟨p, l1, e, Rm, s, m, args, below, meth, c, G, A, ad0, S0, Q⟩ := X
  obtain ⟨rfl, rfl, hx, hb, hml, hown, hts, hK, hA, hlk⟩ := h
  intro ad H locs lsC h0 hAd hR hS hl hlv
  subst hq
  exact lv_ior hx hb hd  (kk ad H locs lsC h0 hAd hR hS hl (hlv.pop.pop.push ax_okv_i))
theorem ax_ixor (h : ax_ok X l own cc nL rm) {x y : Int32} (hd : decode cc pc = .ok (.ixor, 1)) (hq : pc + 1 = q)  (kk : ax_W X nL q ls (.int (x ^^^ y) :: st) S I R L cs ss) : ax_W X nL pc ls (.int y :: .int x :: st) S I R L cs ss := by
  obtain ⟨p, l1, e, Rm, s, m, args, below, meth, c, G, A, ad0, S0, Q⟩ := X
  obtain ⟨rfl, rfl, hx, hb, hml, hown, hts, hK, hA, hlk⟩ := h
  intro ad H locs lsC h0 hAd hR hS hl hlv
  subst hq
  exact lv_ixor hx hb hd  (kk ad H locs lsC h0 hAd hR hS hl (hlv.pop.pop.push ax_okv_i))
theorem ax_ishl (h : ax_ok X l own cc nL rm) {x y : Int32} (hd : decode cc pc = .ok (.ishl, 1)) (hq : pc + 1 = q)  (kk : ax_W X nL q ls (.int (x <<< (y &&& 31)) :: st) S I R L cs ss) : ax_W X nL pc ls (.int y :: .int x :: st) S I R L cs ss := by
  obtain ⟨p, l1, e, Rm, s, m, args, below, meth, c, G, A, ad0, S0, Q⟩ := X
  obtain ⟨rfl, rfl, hx, hb, hml, hown, hts, hK, hA, hlk⟩ := h
  intro ad H locs lsC h0 hAd hR hS hl hlv
  subst hq
  exact lv_ishl hx hb hd  (kk ad H locs lsC h0 hAd hR hS hl (hlv.pop.pop.push ax_okv_i))
theorem ax_ishr (h : ax_ok X l own cc nL rm) {x y : Int32} (hd : decode cc pc = .ok (.ishr, 1)) (hq : pc + 1 = q)  (kk : ax_W X nL q ls (.int (x >>> (y &&& 31)) :: st) S I R L cs ss) : ax_W X nL pc ls (.int y :: .int x :: st) S I R L cs ss := by
  obtain ⟨p, l1, e, Rm, s, m, args, below, meth, c, G, A, ad0, S0, Q⟩ := X
  obtain ⟨rfl, rfl, hx, hb, hml, hown, hts, hK, hA, hlk⟩ := h
  intro ad H locs lsC h0 hAd hR hS hl hlv
  subst hq
  exact lv_ishr hx hb hd  (kk ad H locs lsC h0 hAd hR hS hl (hlv.pop.pop.push ax_okv_i))
theorem ax_irem (h : ax_ok X l own cc nL rm) {x y : Int32} (hd : decode cc pc = .ok (.irem, 1)) (hq : pc + 1 = q) (hne : ¬ y = 0) (kk : ax_W X nL q ls (.int (x - x / y * y) :: st) S I R L cs ss) : ax_W X nL pc ls (.int y :: .int x :: st) S I R L cs ss := by
  obtain ⟨p, l1, e, Rm, s, m, args, below, meth, c, G, A, ad0, S0, Q⟩ := X
  obtain ⟨rfl, rfl, hx, hb, hml, hown, hts, hK, hA, hlk⟩ := h
  intro ad H locs lsC h0 hAd hR hS hl hlv
  subst hq
  exact lv_irem hx hb hd hne (kk ad H locs lsC h0 hAd hR hS hl (hlv.pop.pop.push ax_okv_i))
theorem ax_idiv (h : ax_ok X l own cc nL rm) {x y : Int32} (hd : decode cc pc = .ok (.idiv, 1)) (hq : pc + 1 = q) (hne : ¬ y = 0) (kk : ax_W X nL q ls (.int (x / y) :: st) S I R L cs ss) : ax_W X nL pc ls (.int y :: .int x :: st) S I R L cs ss := by
  obtain ⟨p, l1, e, Rm, s, m, args, below, meth, c, G, A, ad0, S0, Q⟩ := X
  obtain ⟨rfl, rfl, hx, hb, hml, hown, hts, hK, hA, hlk⟩ := h
  intro ad H locs lsC h0 hAd hR hS hl hlv
  subst hq
  exact lv_idiv hx hb hd hne (kk ad H locs lsC h0 hAd hR hS hl (hlv.pop.pop.push ax_okv_i))
theorem ax_ineg (h : ax_ok X l own cc nL rm) {x : Int32} (hd : decode cc pc = .ok (.ineg, 1)) (hq : pc + 1 = q) (kk : ax_W X nL q ls (.int (-x) :: st) S I R L cs ss) : ax_W X nL pc ls (.int x :: st) S I R L cs ss := by
  obtain ⟨p, l1, e, Rm, s, m, args, below, meth, c, G, A, ad0, S0, Q⟩ := X
  obtain ⟨rfl, rfl, hx, hb, hml, hown, hts, hK, hA, hlk⟩ := h
  intro ad H locs lsC h0 hAd hR hS hl hlv
  subst hq
  exact lv_ineg hx hb hd (kk ad H locs lsC h0 hAd hR hS hl (hlv.pop.push ax_okv_i))
theorem ax_i2l (h : ax_ok X l own cc nL rm) {x : Int32} {v : Int64} (hd : decode cc pc = .ok (.i2l, 1)) (hq : pc + 1 = q) (hv : x.toInt64 = v) (kk : ax_W X nL q ls (.long v :: st) S I R L cs ss) : ax_W X nL pc ls (.int x :: st) S I R L cs ss := by
  obtain ⟨p, l1, e, Rm, s, m, args, below, meth, c, G, A, ad0, S0, Q⟩ := X
  obtain ⟨rfl, rfl, hx, hb, hml, hown, hts, hK, hA, hlk⟩ := h
  intro ad H locs lsC h0 hAd hR hS hl hlv
  subst hq
  exact lv_i2l hx hb hd hv (kk ad H locs lsC h0 hAd hR hS hl (hlv.pop.push ax_okv_l))
theorem ax_lcmp (h : ax_ok X l own cc nL rm) {x y : Int64} (hd : decode cc pc = .ok (.lcmp, 1)) (hq : pc + 1 = q) (kk : ax_W X nL q ls (.int (lg_cmp x y) :: st) S I R L cs ss) : ax_W X nL pc ls (.long y :: .long x :: st) S I R L cs ss := by
  obtain ⟨p, l1, e, Rm, s, m, args, below, meth, c, G, A, ad0, S0, Q⟩ := X
  obtain ⟨rfl, rfl, hx, hb, hml, hown, hts, hK, hA, hlk⟩ := h
  intro ad H locs lsC h0 hAd hR hS hl hlv
  subst hq
  exact W.lcmp hx hb hd (kk ad H locs lsC h0 hAd hR hS hl (hlv.pop.pop.push ax_okv_i))
theorem ax_dup (h : ax_ok X l own cc nL rm) {v : Value} (hd : decode cc pc = .ok (.dup, 1)) (hq : pc + 1 = q) (hc : v.category = 1) (kk : ax_W X nL q ls (v :: v :: st) S I R L cs ss) : ax_W X nL pc ls (v :: st) S I R L cs ss := by
  obtain ⟨p, l1, e, Rm, s, m, args, below, meth, c, G, A, ad0, S0, Q⟩ := X
  obtain ⟨rfl, rfl, hx, hb, hml, hown, hts, hK, hA, hlk⟩ := h
  intro ad H locs lsC h0 hAd hR hS hl hlv
  subst hq
  exact lv_dup hx hb hd ((ax_tv_cat ad v).trans hc) (kk ad H locs lsC h0 hAd hR hS hl (hlv.push hlv.top))
theorem ax_pop (h : ax_ok X l own cc nL rm) {v : Value} (hd : decode cc pc = .ok (.pop, 1)) (hq : pc + 1 = q) (hc : v.category = 1) (kk : ax_W X nL q ls st S I R L cs ss) : ax_W X nL pc ls (v :: st) S I R L cs ss := by
  obtain ⟨p, l1, e, Rm, s, m, args, below, meth, c, G, A, ad0, S0, Q⟩ := X
  obtain ⟨rfl, rfl, hx, hb, hml, hown, hts, hK, hA, hlk⟩ := h
  intro ad H locs lsC h0 hAd hR hS hl hlv
  subst hq
  exact lv_pop hx hb hd ((ax_tv_cat ad v).trans hc) (kk ad H locs lsC h0 hAd hR hS hl hlv.pop)
theorem ax_dup_x1 (h : ax_ok X l own cc nL rm) {v w : Value} (hd : decode cc pc = .ok (.dup_x1, 1)) (hq : pc + 1 = q) (hc : v.category = 1) (hc2 : w.category = 1) (kk : ax_W X nL q ls (v :: w :: v :: st) S I R L cs ss) : ax_W X nL pc ls (v :: w :: st) S I R L cs ss := by
  obtain ⟨p, l1, e, Rm, s, m, args, below, meth, c, G, A, ad0, S0, Q⟩ := X
  obtain ⟨rfl, rfl, hx, hb, hml, hown, hts, hK, hA, hlk⟩ := h
  intro ad H locs lsC h0 hAd hR hS hl hlv
  subst hq
  exact lv_dup_x1 hx hb hd ((ax_tv_cat ad v).trans hc) ((ax_tv_cat ad w).trans hc2) (kk ad H locs lsC h0 hAd hR hS hl (((hlv.pop.pop.push hlv.top).push hlv.pop.top).push hlv.top))
theorem ax_dup2 (h : ax_ok X l own cc nL rm) {v w : Value} (hd : decode cc pc = .ok (.dup2, 1)) (hq : pc + 1 = q) (hc : v.category = 1) (hc2 : w.category = 1) (kk : ax_W X nL q ls (v :: w :: v :: w :: st) S I R L cs ss) : ax_W X nL pc ls (v :: w :: st) S I R L cs ss := by
  obtain ⟨p, l1, e, Rm, s, m, args, below, meth, c, G, A, ad0, S0, Q⟩ := X
  obtain ⟨rfl, rfl, hx, hb, hml, hown, hts, hK, hA, hlk⟩ := h
  intro ad H locs lsC h0 hAd hR hS hl hlv
  subst hq
  exact lv_dup2_11 hx hb hd ((ax_tv_cat ad v).trans hc) ((ax_tv_cat ad w).trans hc2) (kk ad H locs lsC h0 hAd hR hS hl ((hlv.push hlv.pop.top).push hlv.top))
theorem ax_if_eq (h : ax_ok X l own cc nL rm) {x : Int32} {off : Int} {tgt : Nat} (hd : decode cc pc = .ok (.ifCond .eq off, 3)) (hq : pc + 3 = q) (ht : (pc : Int) + off = (tgt : Int)) (kt : x = 0 → ax_W X nL tgt ls st S I R L cs ss) (kf : ¬ x = 0 → ax_W X nL q ls st S I R L cs ss) : ax_W X nL pc ls (.int x :: st) S I R L cs ss := by
  obtain ⟨p, l1, e, Rm, s, m, args, below, meth, c, G, A, ad0, S0, Q⟩ := X
  obtain ⟨rfl, rfl, hx, hb, hml, hown, hts, hK, hA, hlk⟩ := h
  intro ad H locs lsC h0 hAd hR hS hl hlv
  subst hq
  exact lv_if_eq hx hb hd ht (fun z => kt z ad H locs lsC h0 hAd hR hS hl hlv.pop) (fun z => kf z ad H locs lsC h0 hAd hR hS hl hlv.pop)
theorem ax_icmp_eq (h : ax_ok X l own cc nL rm) {x y : Int32} {off : Int} {tgt : Nat} (hd : decode cc pc = .ok (.if_icmp .eq off, 3)) (hq : pc + 3 = q) (ht : (pc : Int) + off = (tgt : Int)) (kt : x = y → ax_W X nL tgt ls st S I R L cs ss) (kf : ¬ x = y → ax_W X nL q ls st S I R L cs ss) : ax_W X nL pc ls (.int y :: .int x :: st) S I R L cs ss := by
  obtain ⟨p, l1, e, Rm, s, m, args, below, meth, c, G, A, ad0, S0, Q⟩ := X
  obtain ⟨rfl, rfl, hx, hb, hml, hown, hts, hK, hA, hlk⟩ := h
  intro ad H locs lsC h0 hAd hR hS hl hlv
  subst hq
  exact lv_icmp_eq hx hb hd ht (fun z => kt z ad H locs lsC h0 hAd hR hS hl hlv.pop.pop) (fun z => kf z ad H locs lsC h0 hAd hR hS hl hlv.pop.pop)
theorem ax_if_ne (h : ax_ok X l own cc nL rm) {x : Int32} {off : Int} {tgt : Nat} (hd : decode cc pc = .ok (.ifCond .ne off, 3)) (hq : pc + 3 = q) (ht : (pc : Int) + off = (tgt : Int)) (kt : ¬ x = 0 → ax_W X nL tgt ls st S I R L cs ss) (kf : x = 0 → ax_W X nL q ls st S I R L cs ss) : ax_W X nL pc ls (.int x :: st) S I R L cs ss := by
  obtain ⟨p, l1, e, Rm, s, m, args, below, meth, c, G, A, ad0, S0, Q⟩ := X
  obtain ⟨rfl, rfl, hx, hb, hml, hown, hts, hK, hA, hlk⟩ := h
  intro ad H locs lsC h0 hAd hR hS hl hlv
  subst hq
  exact lv_if_ne hx hb hd ht (fun z => kt z ad H locs lsC h0 hAd hR hS hl hlv.pop) (fun z => kf z ad H locs lsC h0 hAd hR hS hl hlv.pop)
theorem ax_icmp_ne (h : ax_ok X l own cc nL rm) {x y : Int32} {off : Int} {tgt : Nat} (hd : decode cc pc = .ok (.if_icmp .ne off, 3)) (hq : pc + 3 = q) (ht : (pc : Int) + off = (tgt : Int)) (kt : ¬ x = y → ax_W X nL tgt ls st S I R L cs ss) (kf : x = y → ax_W X nL q ls st S I R L cs ss) : ax_W X nL pc ls (.int y :: .int x :: st) S I R L cs ss := by
  obtain ⟨p, l1, e, Rm, s, m, args, below, meth, c, G, A, ad0, S0, Q⟩ := X
  obtain ⟨rfl, rfl, hx, hb, hml, hown, hts, hK, hA, hlk⟩ := h
  intro ad H locs lsC h0 hAd hR hS hl hlv
  subst hq
  exact lv_icmp_ne hx hb hd ht (fun z => kt z ad H locs lsC h0 hAd hR hS hl hlv.pop.pop) (fun z => kf z ad H locs lsC h0 hAd hR hS hl hlv.pop.pop)
theorem ax_if_lt (h : ax_ok X l own cc nL rm) {x : Int32} {off : Int} {tgt : Nat} (hd : decode cc pc = .ok (.ifCond .lt off, 3)) (hq : pc + 3 = q) (ht : (pc : Int) + off = (tgt : Int)) (kt : x < 0 → ax_W X nL tgt ls st S I R L cs ss) (kf : ¬ x < 0 → ax_W X nL q ls st S I R L cs ss) : ax_W X nL pc ls (.int x :: st) S I R L cs ss := by
  obtain ⟨p, l1, e, Rm, s, m, args, below, meth, c, G, A, ad0, S0, Q⟩ := X
  obtain ⟨rfl, rfl, hx, hb, hml, hown, hts, hK, hA, hlk⟩ := h
  intro ad H locs lsC h0 hAd hR hS hl hlv
  subst hq
  exact lv_if_lt hx hb hd ht (fun z => kt z ad H locs lsC h0 hAd hR hS hl hlv.pop) (fun z => kf z ad H locs lsC h0 hAd hR hS hl hlv.pop)
theorem ax_icmp_lt (h : ax_ok X l own cc nL rm) {x y : Int32} {off : Int} {tgt : Nat} (hd : decode cc pc = .ok (.if_icmp .lt off, 3)) (hq : pc + 3 = q) (ht : (pc : Int) + off = (tgt : Int)) (kt : x < y → ax_W X nL tgt ls st S I R L cs ss) (kf : ¬ x < y → ax_W X nL q ls st S I R L cs ss) : ax_W X nL pc ls (.int y :: .int x :: st) S I R L cs ss := by
  obtain ⟨p, l1, e, Rm, s, m, args, below, meth, c, G, A, ad0, S0, Q⟩ := X
  obtain ⟨rfl, rfl, hx, hb, hml, hown, hts, hK, hA, hlk⟩ := h
  intro ad H locs lsC h0 hAd hR hS hl hlv
  subst hq
  exact lv_icmp_lt hx hb hd ht (fun z => kt z ad H locs lsC h0 hAd hR hS hl hlv.pop.pop) (fun z => kf z ad H locs lsC h0 hAd hR hS hl hlv.pop.pop)
theorem ax_if_ge (h : ax_ok X l own cc nL rm) {x : Int32} {off : Int} {tgt : Nat} (hd : decode cc pc = .ok (.ifCond .ge off, 3)) (hq : pc + 3 = q) (ht : (pc : Int) + off = (tgt : Int)) (kt : 0 ≤ x → ax_W X nL tgt ls st S I R L cs ss) (kf : ¬ 0 ≤ x → ax_W X nL q ls st S I R L cs ss) : ax_W X nL pc ls (.int x :: st) S I R L cs ss := by
  obtain ⟨p, l1, e, Rm, s, m, args, below, meth, c, G, A, ad0, S0, Q⟩ := X
  obtain ⟨rfl, rfl, hx, hb, hml, hown, hts, hK, hA, hlk⟩ := h
  intro ad H locs lsC h0 hAd hR hS hl hlv
  subst hq
  exact lv_if_ge hx hb hd ht (fun z => kt z ad H locs lsC h0 hAd hR hS hl hlv.pop) (fun z => kf z ad H locs lsC h0 hAd hR hS hl hlv.pop)
theorem ax_icmp_ge (h : ax_ok X l own cc nL rm) {x y : Int32} {off : Int} {tgt : Nat} (hd : decode cc pc = .ok (.if_icmp .ge off, 3)) (hq : pc + 3 = q) (ht : (pc : Int) + off = (tgt : Int)) (kt : y ≤ x → ax_W X nL tgt ls st S I R L cs ss) (kf : ¬ y ≤ x → ax_W X nL q ls st S I R L cs ss) : ax_W X nL pc ls (.int y :: .int x :: st) S I R L cs ss := by
  obtain ⟨p, l1, e, Rm, s, m, args, below, meth, c, G, A, ad0, S0, Q⟩ := X
  obtain ⟨rfl, rfl, hx, hb, hml, hown, hts, hK, hA, hlk⟩ := h
  intro ad H locs lsC h0 hAd hR hS hl hlv
  subst hq
  exact lv_icmp_ge hx hb hd ht (fun z => kt z ad H locs lsC h0 hAd hR hS hl hlv.pop.pop) (fun z => kf z ad H locs lsC h0 hAd hR hS hl hlv.pop.pop)
theorem ax_if_gt (h : ax_ok X l own cc nL rm) {x : Int32} {off : Int} {tgt : Nat} (hd : decode cc pc = .ok (.ifCond .gt off, 3)) (hq : pc + 3 = q) (ht : (pc : Int) + off = (tgt : Int)) (kt : 0 < x → ax_W X nL tgt ls st S I R L cs ss) (kf : ¬ 0 < x → ax_W X nL q ls st S I R L cs ss) : ax_W X nL pc ls (.int x :: st) S I R L cs ss := by
  obtain ⟨p, l1, e, Rm, s, m, args, below, meth, c, G, A, ad0, S0, Q⟩ := X
  obtain ⟨rfl, rfl, hx, hb, hml, hown, hts, hK, hA, hlk⟩ := h
  intro ad H locs lsC h0 hAd hR hS hl hlv
  subst hq
  exact lv_if_gt hx hb hd ht (fun z => kt z ad H locs lsC h0 hAd hR hS hl hlv.pop) (fun z => kf z ad H locs lsC h0 hAd hR hS hl hlv.pop)
theorem ax_icmp_gt (h : ax_ok X l own cc nL rm) {x y : Int32} {off : Int} {tgt : Nat} (hd : decode cc pc = .ok (.if_icmp .gt off, 3)) (hq : pc + 3 = q) (ht : (pc : Int) + off = (tgt : Int)) (kt : y < x → ax_W X nL tgt ls st S I R L cs ss) (kf : ¬ y < x → ax_W X nL q ls st S I R L cs ss) : ax_W X nL pc ls (.int y :: .int x :: st) S I R L cs ss := by
  obtain ⟨p, l1, e, Rm, s, m, args, below, meth, c, G, A, ad0, S0, Q⟩ := X
  obtain ⟨rfl, rfl, hx, hb, hml, hown, hts, hK, hA, hlk⟩ := h
  intro ad H locs lsC h0 hAd hR hS hl hlv
  subst hq
  exact lv_icmp_gt hx hb hd ht (fun z => kt z ad H locs lsC h0 hAd hR hS hl hlv.pop.pop) (fun z => kf z ad H locs lsC h0 hAd hR hS hl hlv.pop.pop)
theorem ax_if_le (h : ax_ok X l own cc nL rm) {x : Int32} {off : Int} {tgt : Nat} (hd : decode cc pc = .ok (.ifCond .le off, 3)) (hq : pc + 3 = q) (ht : (pc : Int) + off = (tgt : Int)) (kt : x ≤ 0 → ax_W X nL tgt ls st S I R L cs ss) (kf : ¬ x ≤ 0 → ax_W X nL q ls st S I R L cs ss) : ax_W X nL pc ls (.int x :: st) S I R L cs ss := by
  obtain ⟨p, l1, e, Rm, s, m, args, below, meth, c, G, A, ad0, S0, Q⟩ := X
  obtain ⟨rfl, rfl, hx, hb, hml, hown, hts, hK, hA, hlk⟩ := h
  intro ad H locs lsC h0 hAd hR hS hl hlv
  subst hq
  exact lv_if_le hx hb hd ht (fun z => kt z ad H locs lsC h0 hAd hR hS hl hlv.pop) (fun z => kf z ad H locs lsC h0 hAd hR hS hl hlv.pop)
theorem ax_icmp_le (h : ax_ok X l own cc nL rm) {x y : Int32} {off : Int} {tgt : Nat} (hd : decode cc pc = .ok (.if_icmp .le off, 3)) (hq : pc + 3 = q) (ht : (pc : Int) + off = (tgt : Int)) (kt : x ≤ y → ax_W X nL tgt ls st S I R L cs ss) (kf : ¬ x ≤ y → ax_W X nL q ls st S I R L cs ss) : ax_W X nL pc ls (.int y :: .int x :: st) S I R L cs ss := by
  obtain ⟨p, l1, e, Rm, s, m, args, below, meth, c, G, A, ad0, S0, Q⟩ := X
  obtain ⟨rfl, rfl, hx, hb, hml, hown, hts, hK, hA, hlk⟩ := h
  intro ad H locs lsC h0 hAd hR hS hl hlv
  subst hq
  exact lv_icmp_le hx hb hd ht (fun z => kt z ad H locs lsC h0 hAd hR hS hl hlv.pop.pop) (fun z => kf z ad H locs lsC h0 hAd hR hS hl hlv.pop.pop)
theorem ax_goto (h : ax_ok X l own cc nL rm) {off : Int} {tgt : Nat} (hd : decode cc pc = .ok (.goto off, 3)) (ht : (pc : Int) + off = (tgt : Int)) (kk : ax_W X nL tgt ls st S I R L cs ss) : ax_W X nL pc ls st S I R L cs ss := by
  obtain ⟨p, l1, e, Rm, s, m, args, below, meth, c, G, A, ad0, S0, Q⟩ := X
  obtain ⟨rfl, rfl, hx, hb, hml, hown, hts, hK, hA, hlk⟩ := h
  intro ad H locs lsC h0 hAd hR hS hl hlv
  exact lv_goto hx hb hd ht (kk ad H locs lsC h0 hAd hR hS hl hlv)
theorem ax_tsOut (h : ax_ok X l own cc nL rm) {dflt lo hi : Int} {offs : Array Int} {len : Nat} {x : Int32} {tgt : Nat} (hd : decode cc pc = .ok (.tableswitch dflt lo hi offs, len)) (hz : x.toInt < lo ∨ hi < x.toInt) (ht : (pc : Int) + dflt = (tgt : Int)) (kk : ax_W X nL tgt ls st S I R L cs ss) : ax_W X nL pc ls (.int x :: st) S I R L cs ss := by
  obtain ⟨p, l1, e, Rm, s, m, args, below, meth, c, G, A, ad0, S0, Q⟩ := X
  obtain ⟨rfl, rfl, hx, hb, hml, hown, hts, hK, hA, hlk⟩ := h
  intro ad H locs lsC h0 hAd hR hS hl hlv
  exact lv_tableOut hx hb hd hz ht (kk ad H locs lsC h0 hAd hR hS hl hlv.pop)
theorem ax_tsIn (h : ax_ok X l own cc nL rm) {dflt lo hi : Int} {offs : Array Int} {len : Nat} {x : Int32} {off : Int} {tgt : Nat} (hd : decode cc pc = .ok (.tableswitch dflt lo hi offs, len)) (h1 : ¬ x.toInt < lo) (h2 : ¬ hi < x.toInt) (ho : offs[(x.toInt - lo).toNat]? = some off) (ht : (pc : Int) + off = (tgt : Int)) (kk : ax_W X nL tgt ls st S I R L cs ss) : ax_W X nL pc ls (.int x :: st) S I R L cs ss := by
  obtain ⟨p, l1, e, Rm, s, m, args, below, meth, c, G, A, ad0, S0, Q⟩ := X
  obtain ⟨rfl, rfl, hx, hb, hml, hown, hts, hK, hA, hlk⟩ := h
  intro ad H locs lsC h0 hAd hR hS hl hlv
  exact lv_tableIn hx hb hd h1 h2 ho ht (kk ad H locs lsC h0 hAd hR hS hl hlv.pop)
end AXR
/-! AX, memory: fields, arrays, new cells -/
section AXM
variable {X : ax_X} {l : Launch} {own : String} {cc : ByteArray} {nL : Nat} {rm : Room} {pc q : Nat} {ls ls' : ax_Ls} {st : List Value} {S : ax_S} {I : ax_I} {R : ax_R} {L : ax_L} {cs ss : Nat}
/-- entry idx of own's pool is field k of class ci, of type ty -/
def ax_fl (own : String) (idx ci k : Nat) (ty : FieldType) (fin : Bool) : Prop := ∃ q : vw_C, ax_cl[ci]? = some q ∧ k < q.2.2 ∧ Cond.fieldLink own idx (q.2.1 k).1 (q.2.1 k).2.1 (q.2.1 k).2.2.1 ∈ ax_tb ∧ parseFieldDescriptor (q.2.1 k).2.2.1 = some ty ∧ (q.2.1 k).2.2.2 = fin
theorem ax_ty_of {q : vw_C} {k : Nat} {ty : FieldType} (h : parseFieldDescriptor (q.2.1 k).2.2.1 = some ty) : ax_ty q k = ty := by unfold ax_ty; rw [h]; rfl
def ax_isI (ty : FieldType) : Bool := match ty with
  | .int => true
  | .boolean => true
  | _ => false
def ax_isR (ty : FieldType) : Bool := match ty with
  | .object _ => true
  | .array _ => true
  | _ => false
theorem ax_v_i {ad : Nat → Nat} {ty : FieldType} {x : Int32} {r : Option Nat} {y : Int64} (h : ax_isI ty = true) : ax_v ad ty x r y = .int x := by
  cases ty <;> first | rfl | (simp [ax_isI] at h)
theorem ax_v_r {ad : Nat → Nat} {ty : FieldType} {x : Int32} {r : Option Nat} {y : Int64} (h : ax_isR ty = true) : ax_v ad ty x r y = va_rf (r.map ad) := by
  cases ty <;> first | rfl | (simp [ax_isR] at h)
theorem ax_get (h : ax_ok X l own cc nL rm) {idx ci k a : Nat} {ty : FieldType} {fin : Bool} {v : Value} (hd : decode cc pc = .ok (.getfield idx, 3)) (hq : pc + 3 = q) (hF : ax_fl own idx ci k ty fin) (hSa : S a = some (.inl ci)) (hv : ∀ ad, ax_v ad ty (I a k) (R a k) (L a k) = ax_tv ad v) (hlv1 : ∀ u, v = .ref u → R a k = some u)
    (kk : ax_W X nL q ls (v :: st) S I R L cs ss) : ax_W X nL pc ls (.ref a :: st) S I R L cs ss := by
  obtain ⟨p, l1, e, Rm, s, m, args, below, meth, c, G, A, ad0, S0, Q⟩ := X
  obtain ⟨rfl, rfl, hx, hb, hml, hown, hts, hK, hA, hlk⟩ := h
  intro ad H locs lsC h0 hAd hR hS hl hlv
  subst hq
  obtain ⟨w, hc, hk, hw, hp, -⟩ := hF
  obtain ⟨w2, hc2, cell, q1, q2, q3, q4⟩ := hR.1 a _ hSa
  cases hc.symm.trans hc2
  obtain ⟨hSl, hfc, kC, hkC, hkind⟩ := hK.1.1 ci _ hc
  obtain ⟨cf, kf, fi, f, hi, hsl⟩ := hSl k hk
  have hlay := u_lays hts (ax_cls_ok ci w hc).1 hk
  have hlive : ax_okv S v := fun u hu => hR.2.2.1 a k u (by rw [hSa]; exact fun z => by cases z) (hlv1 u hu)
  refine W.getf hx hb hown (hts _ hw) hi (u_facts hfc hkC hlay hi).1 q1 (by rw [q3]; exact fun z => by cases z) (v := ax_tv ad v) ?_ rfl rfl hd (kk ad H locs lsC h0 hAd hR hS hl (hlv.pop.push hlive))
  rw [hsl, q4 k hk]
  show some (ax_v ad (ax_ty w k) (I a k) (R a k) (L a k)) = _
  rw [ax_ty_of hp, hv ad]
theorem ax_getI (h : ax_ok X l own cc nL rm) {idx ci k a : Nat} {ty : FieldType} {fin : Bool} (hd : decode cc pc = .ok (.getfield idx, 3)) (hq : pc + 3 = q) (hF : ax_fl own idx ci k ty fin) (hi : ax_isI ty = true) (hSa : S a = some (.inl ci))
    (kk : ax_W X nL q ls (.int (I a k) :: st) S I R L cs ss) : ax_W X nL pc ls (.ref a :: st) S I R L cs ss :=
  ax_get h hd hq hF hSa (fun _ => ax_v_i hi) (fun u hu => by cases hu) kk
theorem ax_getR (h : ax_ok X l own cc nL rm) {idx ci k a u : Nat} {ty : FieldType} {fin : Bool} (hd : decode cc pc = .ok (.getfield idx, 3)) (hq : pc + 3 = q) (hF : ax_fl own idx ci k ty fin) (hi : ax_isR ty = true) (hSa : S a = some (.inl ci)) (hr : R a k = some u)
    (kk : ax_W X nL q ls (.ref u :: st) S I R L cs ss) : ax_W X nL pc ls (.ref a :: st) S I R L cs ss :=
  ax_get h hd hq hF hSa (fun ad => by rw [ax_v_r hi, hr]; rfl) (fun u2 hu => by cases hu; exact hr) kk
/-- a field is written -/
theorem ax_put0 (h : ax_ok X l own cc nL rm) {idx ci k a : Nat} {ty : FieldType} {fin : Bool} {v : Value} {I' : ax_I} {R' : ax_R} (hd : decode cc pc = .ok (.putfield idx, 3)) (hq : pc + 3 = q) (hF : ax_fl own idx ci k ty fin) (hSa : S a = some (.inl ci)) (hini : fin = true → ax_ini X ∧ ∀ w, ax_cl[ci]? = some w → (w.2.1 k).1 = own)
    (hn : ∀ ad, narrow ty (ax_tv ad v) = ax_tv ad v) (hft : ∀ ad, fits ty (ax_tv ad v) = true) (hv : ∀ ad, ax_v ad ty (I' a k) (R' a k) (L a k) = ax_tv ad v) (eI : ∀ b j, ¬ (b = a ∧ j = k) → I' b j = I b j) (eR : ∀ b j, ¬ (b = a ∧ j = k) → R' b j = R b j) (hRv : ∀ u, R' a k = some u → R a k = some u ∨ v = .ref u)
    (kk : ax_W X nL q ls st S I' R' L cs ss) : ax_W X nL pc ls (v :: .ref a :: st) S I R L cs ss := by
  obtain ⟨p, l1, e, Rm, s, m, args, below, meth, c, G, A, ad0, S0, Q⟩ := X
  obtain ⟨rfl, rfl, hx, hb, hml, hown, hts, hK, hA, hlk⟩ := h
  intro ad H locs lsC h0 hAd hR hS hl hlv
  subst hq
  obtain ⟨w, hc, hk, hw, hp, hfin⟩ := hF
  obtain ⟨w2, hc2, cell, q1, q2, q3, q4⟩ := hR.1 a _ hSa
  cases hc.symm.trans hc2
  obtain ⟨hSl, hfc, kC, hkC, hkind⟩ := hK.1.1 ci _ hc
  obtain ⟨cf, kf, fi, f, hi, hsl⟩ := hSl k hk
  obtain ⟨hin, hty, hnm⟩ := ax_cls_ok ci w hc
  have hlay := u_lays hts hin hk
  have hst := (u_facts hfc hkC hlay hi).1
  have hap : ∀ x y, x < w.2.2 → y < w.2.2 → x ≠ y → (G.1.2 ci) x ≠ (G.1.2 ci) y := by
    intro x y h1 h2 hne
    obtain ⟨_, _, _, fa, hia, ea⟩ := hSl x h1
    obtain ⟨_, _, _, fb, hib, eb⟩ := hSl y h2
    rw [← ea, ← eb]
    obtain ⟨tx, htx⟩ := hty x h1
    obtain ⟨ty2, hty2⟩ := hty y h2
    refine u_apart (u_lays hts hin h1) (u_lays hts hin h2) hia hib ?_
    rw [(State.fieldFound?_type hia htx).1, (State.fieldFound?_type hib hty2).1]
    exact hnm x h1 y h2 hne
  have hnone : S a ≠ none := by rw [hSa]; exact fun z => by cases z
  have fin2 : ∀ (H' : Heap), H'[ad a]? = some (cell.setSlot f.slot (ax_tv ad v)) → H'.size = H.size → (∀ z, z ≠ ad a → H'[z]? = H[z]?) → W p l1 e Rm s m args below meth c H' (locs ++ [⟨ad a, f.slot⟩]) cs ss Q (F0 m (pc + 3) lsC (st.map (ax_tv ad))) := by
    intro H' e1 e2 e3
    refine kk ad H' _ lsC h0 hAd ?_ (hS.put e2 e3 (hAd a hnone)) hl hlv.pop.pop
    refine hR.set hSa ⟨w, hc, ?_⟩ (fun b hb2 j => eI b j (fun z => hb2 z.1)) (fun b hb2 j => eR b j (fun z => hb2 z.1)) (fun b _ j => rfl) (fun j u hu => ?_) e3
    · rw [hsl] at e1
      refine t_OB.to (V := updV (fun k => ax_v ad (ax_ty w k) (I a k) (R a k) (L a k)) k (ax_tv ad v)) ⟨_, e1, q2, q3, t_set q4 hap hk _⟩ (fun j hj => ?_)
      by_cases hjk : j = k
      · subst hjk
        simp only [updV, if_pos]
        rw [ax_ty_of hp, hv ad]
      · simp only [updV, if_neg hjk]
        rw [eI a j (fun z => hjk z.2), eR a j (fun z => hjk z.2)]
    · by_cases hjk : j = k
      · subst hjk
        rcases hRv u hu with h1 | h1
        · exact hR.2.2.1 a j u hnone h1
        · exact hlv.top u h1
      · exact hR.2.2.1 a j u hnone (by rw [← eR a j (fun z => hjk z.2)]; exact hu)
  cases fin with
  | false =>
    have hlay2 := hts _ (hin _ (u_in_lay hk))
    unfold u_lay at hlay2
    rw [if_neg (by rw [hfin]; decide)] at hlay2
    have h6 := u_store hfc hkC hkind hlay2 hi hp (hn ad) (hft ad)
    exact W.putK hx hb (f := f) ⟨hown, hts _ hw, ⟨_, _, _, hi⟩, hst⟩ (by rw [q2]; exact h6) q1 q3 (by rw [hsl]; exact k2_hasslot (q4 k hk)) rfl rfl hd fin2
  | true =>
    have hlay2 := hts _ (hin _ (u_in_lay hk))
    unfold u_lay at hlay2
    rw [if_pos hfin] at hlay2
    have hcf : m.cls = cf := by
      obtain ⟨_, _, c', _, _, _, -, -, hf', -, -, -, hown2, -⟩ := Cond.laysFinal_spec hlay2
      have e1 : c' = cf := by have := hi.symm.trans hf'; simp at this; exact this.1.symm
      rw [(hini rfl).2 w hc] at hown2
      rw [← e1]; exact Option.some.inj (hown.symm.trans hown2)
    have h6 := u_fits hfc hkC hkind (Or.inr hlay2) hi hp (hn ad) (hft ad)
    exact W.putFinK hx hb hown (hts _ hw) hi hst hcf (hini rfl).1 (by rw [q2]; exact h6) q1 q3 (by rw [hsl]; exact k2_hasslot (q4 k hk)) rfl rfl hd fin2
theorem ax_putI (h : ax_ok X l own cc nL rm) {idx ci k a : Nat} {ty : FieldType} {fin : Bool} {v : Int32} {I' : ax_I} (hd : decode cc pc = .ok (.putfield idx, 3)) (hq : pc + 3 = q) (hF : ax_fl own idx ci k ty fin) (hi : ax_isI ty = true) (hSa : S a = some (.inl ci)) (hini : fin = true → ax_ini X ∧ ∀ w, ax_cl[ci]? = some w → (w.2.1 k).1 = own) (hn : narrow ty (.int v) = .int v) (hft : fits ty (.int v) = true) (hI : ax_up I a k v = I')
    (kk : ax_W X nL q ls st S I' R L cs ss) : ax_W X nL pc ls (.int v :: .ref a :: st) S I R L cs ss := by
  subst hI
  exact ax_put0 (I' := ax_up I a k v) (R' := R) h hd hq hF hSa hini (fun _ => hn) (fun _ => hft) (fun ad => by rw [ax_v_i hi, ax_up_self]; rfl) (fun b j hz => ax_up_ne hz) (fun _ _ _ => rfl) (fun u hu => Or.inl hu) kk
theorem ax_putR (h : ax_ok X l own cc nL rm) {idx ci k a u : Nat} {ty : FieldType} {fin : Bool} {R' : ax_R} (hd : decode cc pc = .ok (.putfield idx, 3)) (hq : pc + 3 = q) (hF : ax_fl own idx ci k ty fin) (hi : ax_isR ty = true) (hSa : S a = some (.inl ci)) (hini : fin = true → ax_ini X ∧ ∀ w, ax_cl[ci]? = some w → (w.2.1 k).1 = own) (hRu : ax_up R a k (some u) = R')
    (kk : ax_W X nL q ls st S I R' L cs ss) : ax_W X nL pc ls (.ref u :: .ref a :: st) S I R L cs ss := by
  subst hRu
  exact ax_put0 (I' := I) (R' := ax_up R a k (some u)) h hd hq hF hSa hini (fun ad => by cases ty <;> first | rfl | (simp [ax_isR] at hi)) (fun ad => by cases ty <;> first | rfl | (simp [ax_isR] at hi)) (fun ad => by rw [ax_v_r hi, ax_up_self]; rfl) (fun _ _ _ => rfl) (fun b j hz => ax_up_ne hz) (fun w hw => Or.inr (by rw [ax_up_self] at hw; cases hw; rfl)) kk
/-- arrays: their length; the values at a place k -/
theorem ax_alen (h : ax_ok X l own cc nL rm) {ai len a : Nat} (hd : decode cc pc = .ok (.arraylength, 1)) (hq : pc + 1 = q) (hSa : S a = some (.inr (ai, len)))
    (kk : ax_W X nL q ls (.int (nI len) :: st) S I R L cs ss) : ax_W X nL pc ls (.ref a :: st) S I R L cs ss := by
  obtain ⟨p, l1, e, Rm, s, m, args, below, meth, c, G, A, ad0, S0, Q⟩ := X
  obtain ⟨rfl, rfl, hx, hb, hml, hown, hts, hK, hA, hlk⟩ := h
  intro ad H locs lsC h0 hAd hR hS hl hlv
  subst hq
  obtain ⟨⟨cA, ty⟩, hc, hcell⟩ := hR.1 a _ hSa
  refine W.alen hx hb hcell ((hK.1.2 ai _ hc).1 len _) (n := nI len) ?_ rfl rfl hd (kk ad H locs lsC h0 hAd hR hS hl (hlv.pop.push ax_okv_i))
  rw [arrV_size]
  rfl
theorem ax_vin {x : Int32} {k len : Nat} (hk : x = nI k) (hlt : k < len) (hlen : len < 2 ^ 31) : ¬ (x < 0 ∨ len ≤ x.toNatClampNeg) ∧ x.toNatClampNeg = k := by
  subst hk
  exact ⟨nI_in hlt hlen, nI_clamp (by omega)⟩
theorem ax_iald (h : ax_ok X l own cc nL rm) {len a : Nat} (k : Nat) {x : Int32} (hd : decode cc pc = .ok (.iaload, 1)) (hq : pc + 1 = q) (hSa : S a = some (.inr (0, len))) (hx0 : x = nI k) (hlt : k < len) (hlen : len < 2 ^ 31)
    (kk : ax_W X nL q ls (.int (I a k) :: st) S I R L cs ss) : ax_W X nL pc ls (.int x :: .ref a :: st) S I R L cs ss := by
  obtain ⟨p, l1, e, Rm, s, m, args, below, meth, c, G, A, ad0, S0, Q⟩ := X
  obtain ⟨rfl, rfl, hx, hb, hml, hown, hts, hK, hA, hlk⟩ := h
  intro ad H locs lsC h0 hAd hR hS hl hlv
  subst hq
  obtain ⟨⟨cA, ty⟩, hc, hcell⟩ := hR.1 a _ hSa
  obtain ⟨cA2, hc2, hAr, -⟩ := hK.arr (ai := 0) ax_ar_0
  cases hc.symm.trans hc2
  obtain ⟨hin, hcl⟩ := ax_vin hx0 hlt hlen
  refine W.iald hx hb hcell (hAr len _) (fun z => by cases z) (by rw [arrV_size]; exact hin) (v := .int (I a k)) ?_ rfl rfl hd (kk ad H locs lsC h0 hAd hR hS hl (hlv.pop.pop.push ax_okv_i))
  rw [hcl, arrV_read _ _ hlt]
  rfl
theorem ax_iast (h : ax_ok X l own cc nL rm) {len a : Nat} (k : Nat) {x v : Int32} {I' : ax_I} (hd : decode cc pc = .ok (.iastore, 1)) (hq : pc + 1 = q) (hSa : S a = some (.inr (0, len))) (hx0 : x = nI k) (hlt : k < len) (hlen : len < 2 ^ 31) (hI : ax_up I a k v = I')
    (kk : ax_W X nL q ls st S I' R L cs ss) : ax_W X nL pc ls (.int v :: .int x :: .ref a :: st) S I R L cs ss := by
  obtain ⟨p, l1, e, Rm, s, m, args, below, meth, c, G, A, ad0, S0, Q⟩ := X
  obtain ⟨rfl, rfl, hx, hb, hml, hown, hts, hK, hA, hlk⟩ := h
  intro ad H locs lsC h0 hAd hR hS hl hlv
  subst hq; subst hI
  obtain ⟨⟨cA, ty⟩, hc, hcell⟩ := hR.1 a _ hSa
  obtain ⟨cA2, hc2, hAr, -⟩ := hK.arr (ai := 0) ax_ar_0
  cases hc.symm.trans hc2
  obtain ⟨hin, hcl⟩ := ax_vin hx0 hlt hlen
  have hnone : S a ≠ none := by rw [hSa]; exact fun z => by cases z
  refine W.iast hx hb hcell (hAr len _) (fun z => by cases z) (by rw [arrV_size]; exact hin) rfl rfl hd fun H1 e1 z1 oq => ?_
  rw [hcl] at e1
  refine kk ad H1 _ lsC h0 hAd (hR.set hSa ⟨_, hc, ?_⟩ (fun b hb2 j => ax_up_ne (fun z => hb2 z.1)) (fun _ _ _ => rfl) (fun _ _ _ => rfl) (fun j u hu => hR.2.2.1 a j u hnone hu) oq) (hS.put z1 oq (hAd a hnone)) hl hlv.pop.pop.pop
  rw [e1, arrV_store]
  congr 2
  funext j
  by_cases hj : j = k
  · subst hj
    simp only [updV, if_pos, ax_up_self]
    rfl
  · simp only [updV, if_neg hj]
    rw [ax_up_ne (fun z => hj z.2)]
theorem ax_lald (h : ax_ok X l own cc nL rm) {len a : Nat} (k : Nat) {x : Int32} (hd : decode cc pc = .ok (.laload, 1)) (hq : pc + 1 = q) (hSa : S a = some (.inr (1, len))) (hx0 : x = nI k) (hlt : k < len) (hlen : len < 2 ^ 31)
    (kk : ax_W X nL q ls (.long (L a k) :: st) S I R L cs ss) : ax_W X nL pc ls (.int x :: .ref a :: st) S I R L cs ss := by
  obtain ⟨p, l1, e, Rm, s, m, args, below, meth, c, G, A, ad0, S0, Q⟩ := X
  obtain ⟨rfl, rfl, hx, hb, hml, hown, hts, hK, hA, hlk⟩ := h
  intro ad H locs lsC h0 hAd hR hS hl hlv
  subst hq
  obtain ⟨⟨cA, ty⟩, hc, hcell⟩ := hR.1 a _ hSa
  obtain ⟨cA2, hc2, hAr, -⟩ := hK.arr (ai := 1) ax_ar_1
  cases hc.symm.trans hc2
  obtain ⟨hin, hcl⟩ := ax_vin hx0 hlt hlen
  refine W.lald hx hb hcell (hAr len _) (fun z => by cases z) (by rw [arrV_size]; exact hin) (v := .long (L a k)) ?_ rfl rfl hd (kk ad H locs lsC h0 hAd hR hS hl (hlv.pop.pop.push ax_okv_l))
  rw [hcl, arrV_read _ _ hlt]
  rfl
theorem ax_last (h : ax_ok X l own cc nL rm) {len a : Nat} (k : Nat) {x : Int32} {v : Int64} {L' : ax_L} (hd : decode cc pc = .ok (.lastore, 1)) (hq : pc + 1 = q) (hSa : S a = some (.inr (1, len))) (hx0 : x = nI k) (hlt : k < len) (hlen : len < 2 ^ 31) (hI : ax_up L a k v = L')
    (kk : ax_W X nL q ls st S I R L' cs ss) : ax_W X nL pc ls (.long v :: .int x :: .ref a :: st) S I R L cs ss := by
  obtain ⟨p, l1, e, Rm, s, m, args, below, meth, c, G, A, ad0, S0, Q⟩ := X
  obtain ⟨rfl, rfl, hx, hb, hml, hown, hts, hK, hA, hlk⟩ := h
  intro ad H locs lsC h0 hAd hR hS hl hlv
  subst hq; subst hI
  obtain ⟨⟨cA, ty⟩, hc, hcell⟩ := hR.1 a _ hSa
  obtain ⟨cA2, hc2, hAr, -⟩ := hK.arr (ai := 1) ax_ar_1
  cases hc.symm.trans hc2
  obtain ⟨hin, hcl⟩ := ax_vin hx0 hlt hlen
  have hnone : S a ≠ none := by rw [hSa]; exact fun z => by cases z
  refine W.last hx hb hcell (hAr len _) (fun z => by cases z) (by rw [arrV_size]; exact hin) rfl rfl hd fun H1 e1 z1 oq => ?_
  rw [hcl] at e1
  refine kk ad H1 _ lsC h0 hAd (hR.set hSa ⟨_, hc, ?_⟩ (fun _ _ _ => rfl) (fun _ _ _ => rfl) (fun b hb2 j => ax_up_ne (fun z => hb2 z.1)) (fun j u hu => hR.2.2.1 a j u hnone hu) oq) (hS.put z1 oq (hAd a hnone)) hl hlv.pop.pop.pop
  rw [e1, arrV_store]
  congr 2
  funext j
  by_cases hj : j = k
  · subst hj
    simp only [updV, if_pos, ax_up_self]
    rfl
  · simp only [updV, if_neg hj]
    rw [ax_up_ne (fun z => hj z.2)]
theorem ax_aald (h : ax_ok X l own cc nL rm) {ai len a u : Nat} {ty : FieldType} (k : Nat) {x : Int32} (hd : decode cc pc = .ok (.aaload, 1)) (hq : pc + 1 = q) (hSa : S a = some (.inr (ai, len))) (hai : ax_ar[ai]? = some ty) (hty : ax_isR ty = true) (hx0 : x = nI k) (hlt : k < len) (hlen : len < 2 ^ 31) (hr : R a k = some u)
    (kk : ax_W X nL q ls (.ref u :: st) S I R L cs ss) : ax_W X nL pc ls (.int x :: .ref a :: st) S I R L cs ss := by
  obtain ⟨p, l1, e, Rm, s, m, args, below, meth, c, G, A, ad0, S0, Q⟩ := X
  obtain ⟨rfl, rfl, hx, hb, hml, hown, hts, hK, hA, hlk⟩ := h
  intro ad H locs lsC h0 hAd hR hS hl hlv
  subst hq
  obtain ⟨⟨cA, ty1⟩, hc, hcell⟩ := hR.1 a _ hSa
  obtain ⟨cA2, hc2, hAr, -⟩ := hK.arr hai
  cases hc.symm.trans hc2
  obtain ⟨hin, hcl⟩ := ax_vin hx0 hlt hlen
  have hnone : S a ≠ none := by rw [hSa]; exact fun z => by cases z
  refine W.aald (ty := ty) hx hb hcell (hAr len _) (by cases ty <;> first | rfl | (simp [ax_isR] at hty)) (fun z => by cases z) (by rw [arrV_size]; exact hin) (v := .ref (ad u)) ?_ rfl rfl hd (kk ad H locs lsC h0 hAd hR hS hl (hlv.pop.pop.push (ax_okv_r (hR.2.2.1 a k u hnone hr))))
  rw [hcl, arrV_read _ _ hlt, ax_v_r hty, hr]
  rfl
theorem ax_aast (h : ax_ok X l own cc nL rm) {ai ci len a u : Nat} {C : String} {w : vw_C} {R' : ax_R} (k : Nat) {x : Int32} (hd : decode cc pc = .ok (.aastore, 1)) (hq : pc + 1 = q) (hSa : S a = some (.inr (ai, len))) (hai : ax_ar[ai]? = some (.object C)) (hSu : S u = some (.inl ci)) (hci : ax_cl[ci]? = some w) (hC : w.1 = C) (hx0 : x = nI k) (hlt : k < len) (hlen : len < 2 ^ 31) (hRu : ax_up R a k (some u) = R')
    (kk : ax_W X nL q ls st S I R' L cs ss) : ax_W X nL pc ls (.ref u :: .int x :: .ref a :: st) S I R L cs ss := by
  obtain ⟨p, l1, e, Rm, s, m, args, below, meth, c, G, A, ad0, S0, Q⟩ := X
  obtain ⟨rfl, rfl, hx, hb, hml, hown, hts, hK, hA, hlk⟩ := h
  intro ad H locs lsC h0 hAd hR hS hl hlv
  subst hq; subst hRu; subst hC
  obtain ⟨⟨cA, ty1⟩, hc, hcell⟩ := hR.1 a _ hSa
  obtain ⟨cA2, hc2, hAr, kA, comp, k1, k2, k3, -⟩ := hK.arr hai
  cases hc.symm.trans hc2
  obtain ⟨hin, hcl⟩ := ax_vin hx0 hlt hlen
  have hnone : S a ≠ none := by rw [hSa]; exact fun z => by cases z
  obtain ⟨w2, hw2, cellV, g1, g2, g3, -⟩ := hR.1 u _ hSu
  have hcls := (hK.1.1 ci w hci).2
  have hcomp : comp = G.1.1 ci := Option.some.inj (k3.symm.trans hcls.1)
  subst hcomp
  obtain ⟨kC, hkC, -⟩ := hcls.2
  refine W.aast hx hb hcell (fun z h => by cases h) (fun h => by cases h) k1 k2 rfl hkC ⟨fun z => hin (Or.inl z), by rw [arrV_size, hcl]; exact hlt⟩ g1 (fun z h => by rw [g3] at h; cases h) (by rw [g2]; exact hkC) (by rw [g2]; exact va_assign hcls) rfl rfl hd fun H1 e1 z1 oq => ?_
  rw [hcl] at e1
  refine kk ad H1 _ lsC h0 hAd (hR.set hSa ⟨_, hc, ?_⟩ (fun _ _ _ => rfl) (fun b hb2 j => ax_up_ne (fun z => hb2 z.1)) (fun _ _ _ => rfl) (fun j v hv => ?_) oq) (hS.put z1 oq (hAd a hnone)) hl hlv.pop.pop.pop
  · rw [e1, arrV_store]
    congr 2
    funext j
    by_cases hj : j = k
    · subst hj
      simp only [updV, if_pos, ax_up_self]
      rfl
    · simp only [updV, if_neg hj]
      rw [ax_up_ne (fun z => hj z.2)]
  · by_cases hj : j = k
    · subst hj
      rw [ax_up_self] at hv
      cases hv
      rw [hSu]
      exact fun z => by cases z
    · rw [ax_up_ne (fun z => hj z.2)] at hv
      exact hR.2.2.1 a j v hnone hv
/-- new cells: their ids are the prover's to choose -/
def ax_add (S : ax_S) (i : Nat) (sh : ax_Sh) : ax_S := fun j => if j = i then some sh else S j
def ax_row {α : Type} (f : Nat → Nat → α) (i : Nat) (v : α) : Nat → Nat → α := fun a b => if a = i then v else f a b
theorem ax_fresh {X : ax_X} {l : Launch} {own : String} {cc : ByteArray} {rm : Room} (h : ax_ok X l own cc nL rm) {i : Nat} {sh : ax_Sh} (hi : S i = none) : ∀ (ad : Nat → Nat) (H H1 : Heap) (locs : List Loc) (lsC : Array Slot), ax_Rep X.2.2.2.2.2.2.2.2.2.2.1 ad S I R L H → ax_loc ad nL ls lsC → ax_live S ls st → ax_loc (fun j => if j = i then H.size else ad j) nL ls lsC ∧ st.map (ax_tv (fun j => if j = i then H.size else ad j)) = st.map (ax_tv ad) ∧ ax_live (ax_add S i sh) ls (.ref i :: st) := by
  intro ad H H1 locs lsC hR hl hlv
  have key : ∀ v, ax_okv S v → ax_tv (fun j => if j = i then H.size else ad j) v = ax_tv ad v := by
    intro v hv
    cases v with
    | ref u =>
      have := hv u rfl
      have hui : u ≠ i := fun z => this (by rw [z]; exact hi)
      simp [ax_tv, hui]
    | _ => rfl
  refine ⟨hl.moved (fun v hv => key v (hlv.2 v hv)), List.map_congr_left (fun v hv => key v (hlv.1 v hv)), ?_⟩
  refine (hlv.grow (fun j hj => ?_)).push (ax_okv_r ?_)
  · unfold ax_add
    split
    · exact fun z => by cases z
    · exact hj
  · simp [ax_add]
theorem ax_cls_sort : ∀ (ci : Nat) (w : vw_C), ax_cl[ci]? = some w → ∀ k, k < w.2.2 → (ax_isI (ax_ty w k) = true ∨ ax_isR (ax_ty w k) = true ∨ ax_ty w k = .long) := ax_cl_all (by decide +kernel) (by decide +kernel) (by decide +kernel) (by decide +kernel) (by decide +kernel) (by decide +kernel)
theorem ax_dv {ad : Nat → Nat} {ty : FieldType} (h : ax_isI ty = true ∨ ax_isR ty = true ∨ ty = .long) : defaultValue ty = ax_v ad ty 0 none 0 := by
  cases ty <;> first | rfl | (simp [ax_isI, ax_isR] at h)
theorem ax_new (h : ax_ok X l own cc nL rm) {idx ci N : Nat} {w : vw_C} (i : Nat) (hd : decode cc pc = .ok (.new idx, 3)) (hq : pc + 3 = q) (hci : ax_cl[ci]? = some w) (hN : w.2.2 = N) (hw1 : Cond.classLink own idx w.1 ∈ ax_tb) (hw2 : Cond.instantiable w.1 w.2.2 ∈ ax_tb) (hw3 : Cond.initialized w.1 ∈ ax_tb) (hi : S i = none) (hcs : cs + 1 ≤ rm.cells) (hss : ss + N ≤ rm.slots)
    (kk : ax_W X nL q ls (.ref i :: st) (ax_add S i (.inl ci)) (ax_row I i 0) (ax_row R i none) (ax_row L i 0) (cs + 1) (ss + N)) : ax_W X nL pc ls st S I R L cs ss := by
  have hfr := ax_fresh (st := st) (ls := ls) (I := I) (R := R) (L := L) h (sh := .inl ci) hi
  obtain ⟨p, l1, e, Rm, s, m, args, below, meth, c, G, A, ad0, S0, Q⟩ := X
  obtain ⟨rfl, rfl, hx, hb, hml, hown, hts, hK, hA, hlk⟩ := h
  intro ad H locs lsC h0 hAd hR hS hl hlv
  subst hq; subst hN
  have hKn := hK.1.1 ci _ hci
  refine W.newcK hx hb hown (hts _ hw1) (hts _ hw2) (hts _ hw3) rfl hd hcs hss hKn.2.1 rfl fun H1 kC hkC e1 z1 o1 => ?_
  obtain ⟨f1, f2, f3⟩ := hfr ad H H1 locs lsC hR hl hlv
  have hsi : ∀ j, S j ≠ none → j ≠ i := fun j hj z => hj (by rw [z]; exact hi)
  have hrep : ax_Rep G (fun j => if j = i then H.size else ad j) (ax_add S i (.inl ci)) (ax_row I i 0) (ax_row R i none) (ax_row L i 0) H1 := by
    refine hR.new hi H.size rfl ⟨w, hci, ?_⟩ (fun a ha k => by simp [ax_row, ha]) (fun a ha k => by simp [ax_row, ha]) (fun a ha k => by simp [ax_row, ha]) (fun k => by simp [ax_row]) o1
    simp only [if_pos]
    refine (u_born (ty := fun k => ax_ty w k) hts (ax_cls_ok ci w hci).1 hKn hkC e1 (fun k hk => ?_)).to (fun k hk => ?_)
    · obtain ⟨t, ht⟩ := (ax_cls_ok ci w hci).2.1 k hk
      rw [ax_ty_of ht]; exact ht
    · simp only [ax_row, if_pos]
      exact ax_dv (ax_cls_sort ci w hci k hk)
  have hz := kk (fun j => if j = i then H.size else ad j) H1 locs lsC (fun j hj => ?_) (fun j hj => ?_) hrep ⟨Nat.le_trans hS.1 (by omega), fun x h1 h2 => (o1 x (Nat.lt_of_lt_of_le h1 hS.1)).trans (hS.2.1 x h1 h2), hS.2.2⟩ f1 f3
  · rw [List.map_cons, f2] at hz
    simp only [ax_tv, if_pos] at hz
    exact hz
  · obtain ⟨h1, h2⟩ := h0 j hj
    exact ⟨by simp [ax_add, hsi j h1, h1], by simp [hsi j h1, h2]⟩
  · by_cases hji : j = i
    · simp only [hji, if_pos]
      exact hA _ hS.1
    · simp only [hji, if_neg, not_false_eq_true]
      exact hAd j (by simp only [ax_add, hji, if_neg, not_false_eq_true] at hj; exact hj)
theorem ax_newa (h : ax_ok X l own cc nL rm) {atype : ArrayType} {ty : FieldType} {ai len : Nat} {x : Int32} (i : Nat) (hd : decode cc pc = .ok (.newarray atype, 2)) (hq : pc + 2 = q) (hty : newarray.typeOf atype = ty) (hai : ax_ar[ai]? = some ty) (hprim : ty = .int ∨ ty = .long) (hw : Cond.arrayClass ty ∈ ax_tb) (hi : S i = none) (hx0 : x = nI len) (hlen : len < 100000) (hcs : cs + 1 ≤ rm.cells) (hss : ss + len ≤ rm.slots)
    (kk : ax_W X nL q ls (.ref i :: st) (ax_add S i (.inr (ai, len))) (ax_row I i 0) (ax_row R i none) (ax_row L i 0) (cs + 1) (ss + len)) : ax_W X nL pc ls (.int x :: st) S I R L cs ss := by
  have hfr := ax_fresh (st := st) (ls := ls) (I := I) (R := R) (L := L) h (sh := .inr (ai, len)) hi
  obtain ⟨p, l1, e, Rm, s, m, args, below, meth, c, G, A, ad0, S0, Q⟩ := X
  obtain ⟨rfl, rfl, hx, hb, hml, hown, hts, hK, hA, hlk⟩ := h
  intro ad H locs lsC h0 hAd hR hS hl hlv
  subst hq; subst hx0; subst hty
  obtain ⟨cA2, hc2, hAr, hRA⟩ := hK.arr hai
  have hcl : (nI len).toNatClampNeg = len := nI_clamp (by omega)
  refine va_newaK hx hb (hts _ hw) rfl hd (N := len) rfl (nI_pos (by omega)) hcl (by rcases hprim with z | z <;> rw [z] <;> simp only [componentBytes] <;> omega) hcs hss (h := H.size) rfl fun H1 cA e1 z1 o1 hAr1 hfc => ?_
  have hcc : cA = cA2 := by
    rcases hprim with z | z
    · rw [z] at hRA hfc; exact Option.some.inj (hfc.symm.trans hRA)
    · rw [z] at hRA hfc; exact Option.some.inj (hfc.symm.trans hRA)
  subst hcc
  obtain ⟨f1, f2, f3⟩ := hfr ad H H1 locs lsC hR hl hlv.pop
  have hsi : ∀ j, S j ≠ none → j ≠ i := fun j hj z => hj (by rw [z]; exact hi)
  have hrep : ax_Rep G (fun j => if j = i then H.size else ad j) (ax_add S i (.inr (ai, len))) (ax_row I i 0) (ax_row R i none) (ax_row L i 0) H1 := by
    refine hR.new hi H.size rfl ⟨_, hc2, ?_⟩ (fun a ha k => by simp [ax_row, ha]) (fun a ha k => by simp [ax_row, ha]) (fun a ha k => by simp [ax_row, ha]) (fun k => by simp [ax_row]) o1
    simp only [if_pos]
    rw [e1]
    congr 2
    funext k
    rcases hprim with z | z <;> rw [z] <;> simp [ax_row, ax_v, defaultValue]
  have hz := kk (fun j => if j = i then H.size else ad j) H1 locs lsC (fun j hj => ?_) (fun j hj => ?_) hrep ⟨Nat.le_trans hS.1 (by omega), fun x h1 h2 => (o1 x (Nat.lt_of_lt_of_le h1 hS.1)).trans (hS.2.1 x h1 h2), hS.2.2⟩ f1 f3
  · rw [List.map_cons, f2] at hz
    simp only [ax_tv, if_pos] at hz
    exact hz
  · obtain ⟨h1, h2⟩ := h0 j hj
    exact ⟨by simp [ax_add, hsi j h1, h1], by simp [hsi j h1, h2]⟩
  · by_cases hji : j = i
    · simp only [hji, if_pos]
      exact hA _ hS.1
    · simp only [hji, if_neg, not_false_eq_true]
      exact hAd j (by simp only [ax_add, hji, if_neg, not_false_eq_true] at hj; exact hj)
theorem ax_anew (h : ax_ok X l own cc nL rm) {C : String} {idx ai len : Nat} {x : Int32} (i : Nat) (hd : decode cc pc = .ok (.anewarray idx, 3)) (hq : pc + 3 = q) (hai : ax_ar[ai]? = some (.object C)) (hw : Cond.classLink own idx C ∈ ax_tb) (hao : C ∈ ax_ao) (hi : S i = none) (hx0 : x = nI len) (hlen : len < 100000) (hcs : cs + 1 ≤ rm.cells) (hss : ss + len ≤ rm.slots)
    (kk : ax_W X nL q ls (.ref i :: st) (ax_add S i (.inr (ai, len))) (ax_row I i 0) (ax_row R i none) (ax_row L i 0) (cs + 1) (ss + len)) : ax_W X nL pc ls (.int x :: st) S I R L cs ss := by
  have hfr := ax_fresh (st := st) (ls := ls) (I := I) (R := R) (L := L) h (sh := .inr (ai, len)) hi
  obtain ⟨p, l1, e, Rm, s, m, args, below, meth, c, G, A, ad0, S0, Q⟩ := X
  obtain ⟨rfl, rfl, hx, hb, hml, hown, hts, hK, hA, hlk⟩ := h
  intro ad H locs lsC h0 hAd hR hS hl hlv
  subst hq; subst hx0
  obtain ⟨cA2, hc2, hAr, kA2, comp2, k1, k2, k3, k4⟩ := hK.arr hai
  have hcl : (nI len).toNatClampNeg = len := nI_clamp (by omega)
  refine W.anew hx hb hown (hts _ hw) (va_AO.use (hK.2.2.2.1 C hao)) rfl hd rfl (nI_pos (by omega)) (by rw [hcl]; omega) hcs (by rw [hcl]; exact hss) fun cA kA comp g1 g2 g3 g4 => ?_
  cases k4.symm.trans g1
  rw [hcl]
  generalize hH1 : H.push ({ cls := cA2, slots := Array.replicate len .null, vm := .none } : Cell) = H1
  have z1 : H1.size = H.size + 1 := by rw [← hH1, Array.size_push]
  have e1 : H1[H.size]? = some (arrV cA2 len (fun _ => .null)) := by rw [← hH1, Array.getElem?_push_size, ← arrV_new]
  have o1 : ∀ q : Nat, q < H.size → H1[q]? = H[q]? := fun q hq => by rw [← hH1, Array.getElem?_push, if_neg (Nat.ne_of_lt hq)]
  obtain ⟨f1, f2, f3⟩ := hfr ad H H1 locs lsC hR hl hlv.pop
  have hsi : ∀ j, S j ≠ none → j ≠ i := fun j hj z => hj (by rw [z]; exact hi)
  have hrep : ax_Rep G (fun j => if j = i then H.size else ad j) (ax_add S i (.inr (ai, len))) (ax_row I i 0) (ax_row R i none) (ax_row L i 0) H1 := by
    refine hR.new hi H.size rfl ⟨_, hc2, ?_⟩ (fun a ha k => by simp [ax_row, ha]) (fun a ha k => by simp [ax_row, ha]) (fun a ha k => by simp [ax_row, ha]) (fun k => by simp [ax_row]) o1
    simp only [if_pos]
    rw [e1]
    congr 2
    funext k
    simp [ax_row, ax_v, va_rf]
  have hz := kk (fun j => if j = i then H.size else ad j) H1 locs lsC (fun j hj => ?_) (fun j hj => ?_) hrep ⟨Nat.le_trans hS.1 (by omega), fun x h1 h2 => (o1 x (Nat.lt_of_lt_of_le h1 hS.1)).trans (hS.2.1 x h1 h2), hS.2.2⟩ f1 f3
  · rw [List.map_cons, f2] at hz
    simp only [ax_tv, if_pos] at hz
    exact hz
  · obtain ⟨h1, h2⟩ := h0 j hj
    exact ⟨by simp [ax_add, hsi j h1, h1], by simp [hsi j h1, h2]⟩
  · by_cases hji : j = i
    · simp only [hji, if_pos]
      exact hA _ hS.1
    · simp only [hji, if_neg, not_false_eq_true]
      exact hAd j (by simp only [ax_add, hji, if_neg, not_false_eq_true] at hj; exact hj)
end AXM
/-! AX, contracts: what a method does, its calls, its ends -/
/-- what a method may change: the cells of the ids, and those that it makes -/
def ax_A (ad : Nat → Nat) (S : ax_S) (sz : Nat) : Nat → Prop := fun q => (∃ i, S i ≠ none ∧ q = ad i) ∨ sz ≤ q
abbrev ax_Rs : Type := Option Value → ax_S → ax_I → ax_R → ax_L → Prop
abbrev ax_RX : Type := (Option Value ⊕ String) → ax_S → ax_I → ax_R → ax_L → Prop
/-- the usual end: this answer, this memory -/
def ax_eq (r : Option Value) (S : ax_S) (I : ax_I) (R : ax_R) (L : ax_L) : ax_Rs := fun r' S' I' R' L' => r' = r ∧ S' = S ∧ I' = I ∧ R' = R ∧ L' = L
theorem ax_eq.mk {r : Option Value} {S : ax_S} {I : ax_I} {R : ax_R} {L : ax_L} : ax_eq r S I R L r S I R L := ⟨rfl, rfl, rfl, rfl, rfl⟩
def ax_of (Rs : ax_Rs) : ax_RX := fun r => match r with
  | .inl v => Rs v
  | .inr _ => fun _ _ _ _ => False
def ax_Pre (G : ax_G) (ad : Nat → Nat) (sz : Nat) (vs : List Value) (S : ax_S) (I : ax_I) (R : ax_R) (L : ax_L) : Array Value → State → Prop := va_Pc (vs.map (ax_tv ad)) (fun U => U.heap.size = sz ∧ ax_Rep G ad S I R L U.heap ∧ ax_K G U ∧ ∀ v ∈ vs, ax_okv S v)
def ax_World (G : ax_G) (ad : Nat → Nat) (S : ax_S) (sz : Nat) (ad' : Nat → Nat) (S' : ax_S) (I' : ax_I) (R' : ax_R) (L' : ax_L) (H' : Heap) : Prop :=
  (∀ i sh, S i = some sh → S' i = some sh) ∧ (∀ i, S i ≠ none → ad' i = ad i) ∧ (∀ i, S' i ≠ none → ax_A ad S sz (ad' i)) ∧ ax_Rep G ad' S' I' R' L' H'
def ax_Post (G : ax_G) (ad : Nat → Nat) (S : ax_S) (sz : Nat) (Rs : ax_Rs) : Array Value → State → Outcome → State → Prop := fun _ st o t =>
  (∃ r S' I' R' L' ad', Rs r S' I' R' L' ∧ o = .returned (r.map (ax_tv ad')) ∧ (∀ v, r = some v → ax_okv S' v) ∧ ax_World G ad S sz ad' S' I' R' L' t.heap) ∧ va_F (ax_A ad S sz) st t
def ax_Met (l : Launch) (y : MethodName) (bytes : ByteArray) (maxL : Nat) (ret : Option FieldType) (rm : Room) (vs : List Value) (S : ax_S) (I : ax_I) (R : ax_R) (L : ax_L) (Rs : ax_Rs) : Prop :=
  ∀ (G : ax_G) (ad : Nat → Nat) (sz : Nat), Met l y (Cond.code y bytes maxL ret :: ax_tb) rm (ax_Pre G ad sz vs S I R L) (ax_Post G ad S sz Rs) rm.cells rm.slots (ax_A ad S sz)
/-- a method's end, by an answer or by a throw -/
def ax_PostX (G : ax_G) (ad : Nat → Nat) (S : ax_S) (sz mc ms : Nat) (RX : ax_RX) : Array Value → State → Outcome → State → Prop := fun _ s o t =>
  (∃ r S' I' R' L' ad', RX r S' I' R' L' ∧ (match r with
    | .inl v => o = .returned (v.map (ax_tv ad')) ∧ ∀ w, v = some w → ax_okv S' w
    | .inr E => ∃ (q : Addr) (ce : Cell), o = .threw q ∧ t.heap[q]? = some ce ∧ ce.vm = .none ∧ s.vm.findClass E = some ce.cls) ∧ ax_World G ad S sz ad' S' I' R' L' t.heap) ∧ va_F (ax_A ad S sz) s t ∧
  ∃ Ls, s.WarmedH t.vm ∧ s.sameButNew ({ t with vm := s.vm } : State) Ls mc ms ∧ ∀ q ∈ Ls, ax_A ad S sz q.base
def ax_Q (below : List Frame) (s : State) (G : ax_G) (ad : Nat → Nat) (S : ax_S) (sz mc ms : Nat) (RX : ax_RX) : State → Prop := fun t => ∃ o, t.status = .running ∧ Ended t below o ∧ ax_PostX G ad S sz mc ms RX #[] s o t
def ax_fin (X : ax_X) (ret : Option FieldType) (mc ms : Nat) (RX : ax_RX) : Prop := match X with
  | (_, _, _, _, s, _, _, below, meth, _, G, A, ad0, S0, Q) => meth.sig.returnType = ret ∧ A = ax_A ad0 S0 s.heap.size ∧ Q = ax_Q below s G ad0 S0 s.heap.size mc ms RX
theorem ax_mono {p : Program} {l : Launch} {e : Env} {R : Room} {s : State} {m : MethodId} {args : Array Value} {below : List Frame} {meth : Method} {c : Code} {H : Heap} {locs : List Loc} {cells slots : Nat} {Q Q' : State → Prop} {g : JFrame} (hq : ∀ t, Q t → Q' t) (k : W p l e R s m args below meth c H locs cells slots Q g) : W p l e R s m args below meth c H locs cells slots Q' g := by
  intro T hT X
  obtain ⟨t, a, b⟩ := k T hT X
  exact ⟨t, a, hq t b⟩
/-- the first ids, as the walk's fixed part has them -/
def ax_S0 (X : ax_X) : ax_S := X.2.2.2.2.2.2.2.2.2.2.2.2.2.1
section AXE
variable {X : ax_X} {l : Launch} {own : String} {cc : ByteArray} {nL : Nat} {rm : Room} {pc q : Nat} {ls : ax_Ls} {st : List Value} {S : ax_S} {I : ax_I} {R : ax_R} {L : ax_L} {cs ss mc ms : Nat} {ret : Option FieldType} {RX : ax_RX}
theorem ax_MQ {below : List Frame} {s : State} {args : Array Value} {G : ax_G} {ad0 ad : Nat → Nat} {S0 S : ax_S} {sz mc ms : Nat} {RX : ax_RX} {H : Heap} {v : Option Value}
    (hr : RX (.inl v) S I R L) (hv : ∀ w, v = some w → ax_okv S w) (hw : ax_World G ad0 S0 sz ad S I R L H) :
    ∀ t, MQ below (fun _ st o t => (o = .returned (v.map (ax_tv ad)) ∧ t.heap = H) ∧ va_F (ax_A ad0 S0 sz) st t) args s mc ms (ax_A ad0 S0 sz) t → ax_Q below s G ad0 S0 sz mc ms RX t := by
  rintro t ⟨o, h1, h2, ⟨⟨h3, h4⟩, h5⟩, Ls, ⟨-, h6, h7⟩, h8⟩
  exact ⟨o, h1, h2, ⟨.inl v, S, I, R, L, ad, hr, ⟨h3, hv⟩, by rw [h4]; exact hw⟩, h5, Ls, h6, h7, h8⟩
theorem ax_iret (h : ax_ok X l own cc nL rm) (hf : ax_fin X ret mc ms RX) {ty : FieldType} {v : Int32} (hd : decode cc pc = .ok (.ireturn, 1)) (hret : ret = some ty) (hn : narrow ty (.int v) = .int v) (hc : cs ≤ mc) (hs : ss ≤ ms) (hr : RX (.inl (some (.int v))) S I R L) (hSS : ∀ i sh, ax_S0 X i = some sh → S i = some sh) : ax_W X nL pc ls [.int v] S I R L cs ss := by
  obtain ⟨p, l1, e, Rm, s, m, args, below, meth, c, G, A, ad0, S0, Q⟩ := X
  obtain ⟨rfl, rfl, hx, hb, hml, hown, hts, hK, hA, hlk⟩ := h
  obtain ⟨hret1, rfl, rfl⟩ := hf
  intro ad H locs lsC h0 hAd hR hS hl hlv
  refine W.widen hc hs ?_
  refine ax_mono (ax_MQ hr (fun w hw => hlv.1 w (by cases hw; exact List.mem_cons_self)) ⟨hSS, fun i hi => (h0 i hi).2, hAd, hR⟩) (W.zret hx hb (hret1.trans hret) hn (fun t ht hW => ⟨⟨rfl, ht⟩, hS.F ht⟩) hS.2.2 hd hlk)
theorem ax_vret (h : ax_ok X l own cc nL rm) (hf : ax_fin X none mc ms RX) (hd : decode cc pc = .ok (.return_, 1)) (hc : cs ≤ mc) (hs : ss ≤ ms) (hr : RX (.inl none) S I R L) (hSS : ∀ i sh, ax_S0 X i = some sh → S i = some sh) : ax_W X nL pc ls [] S I R L cs ss := by
  obtain ⟨p, l1, e, Rm, s, m, args, below, meth, c, G, A, ad0, S0, Q⟩ := X
  obtain ⟨rfl, rfl, hx, hb, hml, hown, hts, hK, hA, hlk⟩ := h
  obtain ⟨hret1, rfl, rfl⟩ := hf
  intro ad H locs lsC h0 hAd hR hS hl hlv
  refine W.widen hc hs ?_
  refine ax_mono (ax_MQ hr (fun w hw => by cases hw) ⟨hSS, fun i hi => (h0 i hi).2, hAd, hR⟩) (W.vret hx hb hret1 (fun t ht hW => ⟨⟨rfl, ht⟩, hS.F ht⟩) hS.2.2 hd hlk)
theorem ax_entry_loc (ad : Nat → Nat) (vs : List Value) {n : Nat} (hc : ∀ v ∈ vs, v.category = 1) (hn : vs.length ≤ n) : ax_loc ad n (vs.map some ++ List.replicate (n - vs.length) none) (((vs.map (ax_tv ad)).map Slot.val ++ List.replicate (n - (vs.map (ax_tv ad)).length) Slot.unset).toArray) := by
  have hsl : lg_sl (vs.map (ax_tv ad)) = (vs.map (ax_tv ad)).map Slot.val := by
    clear hn
    induction vs with
    | nil => rfl
    | cons v r ih =>
      have h1 : ¬ (ax_tv ad v).category = 2 := by rw [ax_tv_cat, hc v List.mem_cons_self]; decide
      have h2 := ih (fun w hw => hc w (List.mem_cons_of_mem _ hw))
      simp only [lg_sl, List.map_cons, List.flatMap_cons, if_neg h1] at h2 ⊢
      rw [h2]
      rfl
  have he := lv_entry (vs.map (ax_tv ad)) (n := n) (by rw [hsl]; simp; exact hn)
  rw [hsl, List.length_map] at he
  refine ⟨by simp; omega, fun v hv => ?_, he.1, he.2.1, fun q hq => ?_⟩
  · rcases List.mem_append.mp hv with h1 | h1
    · obtain ⟨w, hw, e⟩ := List.mem_map.mp h1
      cases e
      exact hc _ hw
    · have := List.eq_of_mem_replicate h1
      cases this
  · obtain ⟨v, hv, e⟩ := ax_pr_of hq
    have hl : q.1 < vs.length := by
      rcases Nat.lt_or_ge q.1 vs.length with h1 | h1
      · exact h1
      · rw [List.getElem?_append_right (by simpa using h1)] at hv
        have := List.mem_of_getElem? hv
        have := List.eq_of_mem_replicate this
        cases this
    rw [List.getElem?_append_left (by simpa using hl), List.getElem?_map] at hv
    cases hg : vs[q.1]? with
    | none => rw [hg] at hv; cases hv
    | some w =>
      rw [hg] at hv
      cases hv
      rw [e]
      simp [List.getElem?_append_left, hl]
      exact congrArg _ (List.getElem?_eq_some_iff.mp hg).2
/-- A CONTRACT out of a walk of the body -/
theorem ax_enter {y : MethodName} {bytes : ByteArray} {maxL : Nat} {vs : List Value} {Rs : ax_Rs} (hy : plainName y.cls = true) (hyo : y.cls = own) (hc : ∀ v ∈ vs, v.category = 1) (hn : vs.length ≤ maxL)
    (body : ∀ X, ax_ok X l own bytes maxL rm → ax_fin X ret rm.cells rm.slots (ax_of Rs) → (y.name = "<init>" → ax_ini X) → ax_S0 X = S → ax_W X maxL 0 (vs.map some ++ List.replicate (maxL - vs.length) none) [] S I R L 0 0) :
    ax_Met l y bytes maxL ret rm vs S I R L Rs := by
  intro G ad sz
  refine Met.ofW (cc := bytes) (maxL := maxL) (ret := ret) hy rfl ?_
  intro p e s m args below meth c s₁ B hml hv
  obtain ⟨rfl, hsz, hR, hK, hok⟩ := hv
  subst hsz
  have hts0 := atoms_spec (ws := Cond.code y bytes maxL ret :: ax_tb) B.pre
  have hown : s.vm.findClass own = some m.cls := by rw [← hyo]; exact findClass_of_methodNamed B.named
  have hlk := B.notSynchronized
  have hin : y.name = "<init>" → meth.name = "<init>" := fun z => ((name_of_methodNamed B.named B.method).1).trans z
  have hA : ∀ q : Nat, s.heap.size ≤ q → ax_A ad S s.heap.size q := fun q h => Or.inr h
  have hcat : ∀ v ∈ vs.map (ax_tv ad), v.category = 1 := fun v hv => by
    obtain ⟨w, hw, e⟩ := List.mem_map.mp hv
    rw [← e, ax_tv_cat]
    exact hc w hw
  rw [entry_eq m _ hcat]
  have hb := body (p, l, e, rm, s, m, (vs.map (ax_tv ad)).toArray, below, meth, c, G, ax_A ad S s.heap.size, ad, S, ax_Q below s G ad S s.heap.size rm.cells rm.slots (ax_of Rs))
    ⟨rfl, rfl, B.exec, B.bytes, hml, hown, fun w hw => hts0 w (List.mem_cons_of_mem _ hw), hK, hA, hlk⟩ ⟨B.returns, rfl, rfl⟩ hin rfl
  have hw := hb ad s.heap [] (((vs.map (ax_tv ad)).map Slot.val ++ List.replicate (maxL - (vs.map (ax_tv ad)).length) Slot.unset).toArray) (fun i hi => ⟨hi, rfl⟩) (fun i hi => Or.inl ⟨i, hi, rfl⟩) hR va_S.rf (ax_entry_loc ad vs hc hn)
    ⟨fun v hv => (by cases hv), fun v hv => by
      rcases List.mem_append.mp hv with h1 | h1
      · obtain ⟨w, hw, e⟩ := List.mem_map.mp h1
        cases e
        exact hok _ hw
      · have := List.eq_of_mem_replicate h1
        cases this⟩
  refine ax_mono ?_ hw
  rintro t ⟨o, h1, h2, ⟨r, S', I', R', L', ad', hr, hm, hw'⟩, h5, Ls, h6, h7, h8⟩
  cases r with
  | inr E => exact absurd hr (fun z => z)
  | inl v => exact ⟨o, h1, h2, ⟨⟨v, S', I', R', L', ad', hr, hm.1, hm.2, hw'⟩, h5⟩, Ls, ⟨⟨_, hm.1⟩, h6, h7⟩, h8⟩
/-- behind a call -/
theorem ax_back {Rm : Room} {s : State} {m : MethodId} {args : Array Value} {below : List Frame} {meth : Method} {c : Code} {G : ax_G} {A : Nat → Prop} {ad0 ad : Nat → Nat} {S0 : ax_S} {Q : State → Prop} {p : Program} {e : Env} {H : Heap} {locs : List Loc} {lsC : Array Slot} {st0 rest : List Value} {a : Array Value} {Rs : ax_Rs}
    (hA : ∀ q, s.heap.size ≤ q → A q) (h0 : ∀ i, S0 i ≠ none → S i ≠ none ∧ ad i = ad0 i) (hAd : ∀ i, S i ≠ none → A (ad i)) (hS : va_S A s.heap H locs) (hl : ax_loc ad nL ls lsC) (hlv : ax_live S ls rest)
    (hr : va_Run p l e Rm s m args below meth c H locs cs ss mc ms (F0 m pc lsC st0) (rest.map (ax_tv ad)) (ax_Post G ad S H.size Rs a) (ax_A ad S H.size))
    (kk : ∀ r S' I' R' L', Rs r S' I' R' L' → (∀ i sh, S i = some sh → S' i = some sh) → ax_W (p, l, e, Rm, s, m, args, below, meth, c, G, A, ad0, S0, Q) nL (pc + 3) ls (r.toList ++ rest) S' I' R' L' (cs + mc) (ss + ms)) :
    W p l e Rm s m args below meth c H locs cs ss Q (F0 m pc lsC st0) := by
  have hfree : ∀ z, ax_A ad S H.size z → A z := by
    rintro z (⟨i, hi, rfl⟩ | hz)
    · exact hAd i hi
    · exact hA z (Nat.le_trans hS.1 hz)
  intro T hT X
  obtain ⟨v, st₀, t, T', Ls, e0, X', hL, e1, e2, ⟨⟨r, S', I', R', L', ad', hrs, hv, hok, w1, w2, w3, w4⟩, hz, hk⟩, stp⟩ := hr T hT X
  cases hv
  rw [e0] at hz hk
  have hne : ∀ i, S i ≠ none → S' i ≠ none := fun i hi => by
    cases hs : S i with
    | none => exact absurd hs hi
    | some sh => rw [w1 i sh hs]; exact fun z => by cases z
  have hlv' : ax_live S' ls rest := hlv.grow hne
  have htv : ∀ v, ax_okv S v → ax_tv ad' v = ax_tv ad v := by
    intro v hv
    cases v with
    | ref u => simp [ax_tv, w2 u (hv u rfl)]
    | _ => rfl
  have hS' : va_S A s.heap T'.heap (locs ++ Ls) := by
    refine ⟨Nat.le_trans hS.1 (by rw [e1]; exact hz), fun q h1 h2 => ?_, fun q hq => ?_⟩
    · rw [e1, hk q (Nat.lt_of_lt_of_le h1 hS.1) (fun z => h2 (hfree q z))]; exact hS.2.1 q h1 h2
    · rcases List.mem_append.mp hq with h | h
      · exact hS.2.2 q h
      · exact hfree _ (hL q h)
  have hgo := kk r S' I' R' L' hrs w1 ad' T'.heap (locs ++ Ls) lsC (fun i hi => ⟨hne i (h0 i hi).1, by rw [w2 i (h0 i hi).1]; exact (h0 i hi).2⟩) (fun i hi => hfree _ (w3 i hi)) (by rw [e1]; exact w4) hS' (hl.moved (fun v hv => htv v (hlv.2 v hv)))
    (by
      cases r with
      | none => exact hlv'
      | some v => exact hlv'.push (hok v rfl))
  obtain ⟨t2, a1, b1⟩ := hgo T' rfl X'
  refine ⟨t2, stp t2 ?_, b1⟩
  have hrest : (r.toList ++ rest).map (ax_tv ad') = (r.map (ax_tv ad')).toList ++ rest.map (ax_tv ad) := by
    rw [List.map_append]
    congr 1
    · cases r <;> rfl
    · exact List.map_congr_left (fun v hv => htv v (hlv.1 v hv))
  rw [← hrest]
  exact a1
theorem ax_pre {G : ax_G} {ad : Nat → Nat} {s : State} {H : Heap} {vs : List Value} (hR : ax_Rep G ad S I R L H) (hK : ax_K G s) (hok : ∀ v ∈ vs, ax_okv S v) : PreS s H (ax_Pre G ad H.size vs S I R L) (vs.map (ax_tv ad)) :=
  ⟨fun a U g mk hq => by
    obtain ⟨h1, h2, h3, h4, h5⟩ := hq
    exact ⟨h1, h2, h3, ax_K.same (s := U) (U := U.calling g mk a) rfl h4, h5⟩, fun U hU hW => ⟨rfl, by rw [hU], by rw [hU]; exact hR, hK.moved hW, hok⟩⟩
theorem ax_good {y : MethodName} {bytes : ByteArray} {maxL : Nat} {ret : Option FieldType} (hw : Cond.code y bytes maxL ret ∈ ax_tb) : GoodIn ax_tb (Cond.code y bytes maxL ret :: ax_tb) := by
  intro w h
  rcases List.mem_cons.mp h with rfl | h1
  · exact ⟨hw, ax_tb_good _ hw⟩
  · exact ⟨h1, ax_tb_good _ h1⟩
/-- what the tables say of a called method: its code, that its class is ready, how many arguments -/
def ax_mt (y : MethodName) (bytes : ByteArray) (maxL : Nat) (ret : Option FieldType) (n : Nat) : Prop := Cond.code y bytes maxL ret ∈ ax_tb ∧ Cond.initialized y.cls ∈ ax_tb ∧ y.cls ≠ "java/lang/invoke/MethodHandle" ∧ y.cls ≠ "java/lang/invoke/VarHandle" ∧ (parseMethodDescriptor y.desc).map (fun d => d.parameters.length) = some n
abbrev ax_rmle (rm' rm : Room) (maxL : Nat) : Prop := rm'.frames + 1 ≤ rm.frames ∧ 8 + (maxL + 11) + rm'.locals ≤ rm.locals
theorem ax_callS (h : ax_ok X l own cc nL rm) {y : MethodName} {bytes : ByteArray} {maxL idx n : Nat} {ret : Option FieldType} {rm' : Room} {vs rest : List Value} {Rs : ax_Rs} (hd : decode cc pc = .ok (.invokestatic idx, 3)) (hq : pc + 3 = q) (hm : ax_mt y bytes maxL ret n) (hw : Cond.methodLink own idx y ∈ ax_tb) (hw2 : Cond.static y ∈ ax_tb) (hM : ax_Met l y bytes maxL ret rm' vs S I R L Rs) (hn : vs.length = n) (hrm : ax_rmle rm' rm maxL) (hst : st = vs.reverse ++ rest) (hro : (rest.map fun v => v.category).sum ≤ 8) (hcs : cs + rm'.cells ≤ rm.cells) (hss : ss + rm'.slots ≤ rm.slots)
    (kk : ∀ r S' I' R' L', Rs r S' I' R' L' → (∀ i sh, S i = some sh → S' i = some sh) → ax_W X nL q ls (r.toList ++ rest) S' I' R' L' (cs + rm'.cells) (ss + rm'.slots)) : ax_W X nL pc ls st S I R L cs ss := by
  obtain ⟨p, l1, e, Rm, s, m, args, below, meth, c, G, A, ad0, S0, Q⟩ := X
  obtain ⟨rfl, rfl, hx, hb, hml, hown, hts, hK, hA, hlk⟩ := h
  intro ad H locs lsC h0 hAd hR hS hl hlv
  subst hq; subst hst
  obtain ⟨m1, m2, m3, m4, m5⟩ := hm
  have hok : ∀ v ∈ vs, ax_okv S v := fun v hv => hlv.1 v (List.mem_append_left _ (List.mem_reverse.mpr hv))
  have hrest : ax_live S ls rest := ⟨fun v hv => hlv.1 v (List.mem_append_right _ hv), hlv.2⟩
  have hcb : CallB Rm s args own idx y bytes maxL ret (Cond.code y bytes maxL ret :: ax_tb) rm' rm'.cells rm'.slots n := callB_of n hts (ax_good m1) rfl rfl rfl (hts _ m2) (hts _ hw) ⟨m3, m4, m5⟩ hrm
  refine ax_back hA h0 hAd hS hl hrest (va_runS (As := vs.map (ax_tv ad)) (rest := rest.map (ax_tv ad)) ⟨hx, hb, hml, hown, hts⟩ (hM G ad H.size) ⟨hcb, hts _ hw2⟩ (ax_pre hR hK hok) rfl (by rw [List.length_map]; exact hn) (hl.2.2.1) ?_ ?_ hd ⟨hcs, hss⟩) kk
  · simp [List.map_append, List.map_reverse]
  · show 2 * 0 + _ ≤ 8
    rw [List.map_map, Nat.mul_zero, Nat.zero_add]
    refine Nat.le_trans (Nat.le_of_eq ?_) hro
    congr 1
    exact List.map_congr_left (fun v _ => ax_tv_cat ad v)
theorem ax_callSN (h : ax_ok X l own cc nL rm) {y : MethodName} {host : String} {bytes : ByteArray} {maxL idx n : Nat} {ret : Option FieldType} {rm' : Room} {vs rest : List Value} {Rs : ax_Rs} (hd : decode cc pc = .ok (.invokestatic idx, 3)) (hq : pc + 3 = q) (hm : ax_mt y bytes maxL ret n) (hw : Cond.methodLinkNest own idx y host ∈ ax_nw) (hw2 : Cond.static y ∈ ax_tb) (hM : ax_Met l y bytes maxL ret rm' vs S I R L Rs) (hn : vs.length = n) (hrm : ax_rmle rm' rm maxL) (hst : st = vs.reverse ++ rest) (hro : (rest.map fun v => v.category).sum ≤ 8) (hcs : cs + rm'.cells ≤ rm.cells) (hss : ss + rm'.slots ≤ rm.slots)
    (kk : ∀ r S' I' R' L', Rs r S' I' R' L' → (∀ i sh, S i = some sh → S' i = some sh) → ax_W X nL q ls (r.toList ++ rest) S' I' R' L' (cs + rm'.cells) (ss + rm'.slots)) : ax_W X nL pc ls st S I R L cs ss := by
  obtain ⟨p, l1, e, Rm, s, m, args, below, meth, c, G, A, ad0, S0, Q⟩ := X
  obtain ⟨rfl, rfl, hx, hb, hml, hown, hts, hK, hA, hlk⟩ := h
  intro ad H locs lsC h0 hAd hR hS hl hlv
  subst hq; subst hst
  obtain ⟨m1, m2, m3, m4, m5⟩ := hm
  have hok : ∀ v ∈ vs, ax_okv S v := fun v hv => hlv.1 v (List.mem_append_left _ (List.mem_reverse.mpr hv))
  have hrest : ax_live S ls rest := ⟨fun v hv => hlv.1 v (List.mem_append_right _ hv), hlv.2⟩
  have hcb : va_CN Rm s args own idx y host bytes maxL ret (Cond.code y bytes maxL ret :: ax_tb) rm' rm'.cells rm'.slots n := va_cnB n hts (ax_good m1) rfl rfl rfl (hK.2.2.1 _ hw) (hts _ m2) ⟨m3, m4, m5⟩ hrm
  refine ax_back hA h0 hAd hS hl hrest (va_runSN (As := vs.map (ax_tv ad)) (rest := rest.map (ax_tv ad)) ⟨hx, hb, hml, hown, hts⟩ (hM G ad H.size) ⟨hcb, hts _ hw2, trivial⟩ (ax_pre hR hK hok) rfl (by rw [List.length_map]; exact hn) (hl.2.2.1) ?_ ?_ hd ⟨hcs, hss⟩) kk
  · simp [List.map_append, List.map_reverse]
  · show 2 * 0 + _ ≤ 8
    rw [List.map_map, Nat.mul_zero, Nat.zero_add]
    refine Nat.le_trans (Nat.le_of_eq ?_) hro
    congr 1
    exact List.map_congr_left (fun v _ => ax_tv_cat ad v)
theorem ax_recv {G : ax_G} {ad : Nat → Nat} {s : State} {H : Heap} {b ci : Nat} {w : vw_C} (hR : ax_Rep G ad S I R L H) (hK : ax_K G s) (hb : S b = some (.inl ci)) (hc : ax_cl[ci]? = some w) : ∃ cell : Cell, H[ad b]? = some cell ∧ cell.vm.isStatics = false ∧ s.vm.findClass w.1 = some cell.cls := by
  obtain ⟨q', h1, cell, g1, g2, g3, -⟩ := hR.1 b _ hb
  exact ⟨cell, g1, by rw [g3]; rfl, by rw [g2]; exact (hK.1.1 ci w hc).2.1⟩
theorem ax_callV (h : ax_ok X l own cc nL rm) {y : MethodName} {bytes : ByteArray} {maxL idx n b ci : Nat} {w : vw_C} {ret : Option FieldType} {rm' : Room} {vs rest : List Value} {Rs : ax_Rs} (hd : decode cc pc = .ok (.invokevirtual idx, 3)) (hq : pc + 3 = q) (hm : ax_mt y bytes maxL ret n) (hw : Cond.methodLink own idx y ∈ ax_tb) (hw2 : Cond.instanceMethod y ∈ ax_tb) (hw3 : Cond.selects w.1 y y ∈ ax_tb) (hSb : S b = some (.inl ci)) (hci : ax_cl[ci]? = some w) (hM : ax_Met l y bytes maxL ret rm' (.ref b :: vs) S I R L Rs) (hn : vs.length = n) (hrm : ax_rmle rm' rm maxL) (hst : st = vs.reverse ++ .ref b :: rest) (hro : (rest.map fun v => v.category).sum ≤ 8) (hcs : cs + rm'.cells ≤ rm.cells) (hss : ss + rm'.slots ≤ rm.slots)
    (kk : ∀ r S' I' R' L', Rs r S' I' R' L' → (∀ i sh, S i = some sh → S' i = some sh) → ax_W X nL q ls (r.toList ++ rest) S' I' R' L' (cs + rm'.cells) (ss + rm'.slots)) : ax_W X nL pc ls st S I R L cs ss := by
  obtain ⟨p, l1, e, Rm, s, m, args, below, meth, c, G, A, ad0, S0, Q⟩ := X
  obtain ⟨rfl, rfl, hx, hb, hml, hown, hts, hK, hA, hlk⟩ := h
  intro ad H locs lsC h0 hAd hR hS hl hlv
  subst hq; subst hst
  obtain ⟨m1, m2, m3, m4, m5⟩ := hm
  have hnb : S b ≠ none := by rw [hSb]; exact fun z => by cases z
  have hok : ∀ v ∈ Value.ref b :: vs, ax_okv S v := fun v hv => by
    rcases List.mem_cons.mp hv with rfl | hv
    · exact ax_okv_r hnb
    · exact hlv.1 v (List.mem_append_left _ (List.mem_reverse.mpr hv))
  have hrest : ax_live S ls rest := ⟨fun v hv => hlv.1 v (List.mem_append_right _ (List.mem_cons_of_mem _ hv)), hlv.2⟩
  have hcb : CallB Rm s args own idx y bytes maxL ret (Cond.code y bytes maxL ret :: ax_tb) rm' rm'.cells rm'.slots n := callB_of n hts (ax_good m1) rfl rfl rfl (hts _ m2) (hts _ hw) ⟨m3, m4, m5⟩ hrm
  obtain ⟨pr1, pr2⟩ := ax_pre hR hK hok
  refine ax_back hA h0 hAd hS hl hrest (va_runV (C := w.1) (b := ad b) (As := vs.map (ax_tv ad)) (rest := rest.map (ax_tv ad)) ⟨hx, hb, hml, hown, hts⟩ (hM G ad H.size) ⟨hcb, hts _ hw2, hts _ hw3⟩ ⟨pr1, ax_recv hR hK hSb hci, pr2⟩ rfl (by rw [List.length_map]; exact hn) (hl.2.2.1) ?_ ?_ hd ⟨hcs, hss⟩) kk
  · simp [List.map_append, List.map_reverse, ax_tv]
  · show 2 * 0 + _ ≤ 8
    rw [List.map_map, Nat.mul_zero, Nat.zero_add]
    refine Nat.le_trans (Nat.le_of_eq ?_) hro
    congr 1
    exact List.map_congr_left (fun v _ => ax_tv_cat ad v)
theorem ax_callI (h : ax_ok X l own cc nL rm) {y : MethodName} {bytes : ByteArray} {maxL idx n b : Nat} {rm' : Room} {vs rest : List Value} {Rs : ax_Rs} (hd : decode cc pc = .ok (.invokespecial idx, 3)) (hq : pc + 3 = q) (hm : ax_mt y bytes maxL none n) (hw : Cond.methodLink own idx y ∈ ax_tb) (hw2 : Cond.instanceMethod y ∈ ax_tb) (hy1 : y.name = "<init>") (hM : ax_Met l y bytes maxL none rm' (.ref b :: vs) S I R L Rs) (hn : vs.length = n) (hrm : ax_rmle rm' rm maxL) (hst : st = vs.reverse ++ .ref b :: rest) (hro : (rest.map fun v => v.category).sum ≤ 8) (hcs : cs + rm'.cells ≤ rm.cells) (hss : ss + rm'.slots ≤ rm.slots)
    (kk : ∀ r S' I' R' L', Rs r S' I' R' L' → (∀ i sh, S i = some sh → S' i = some sh) → ax_W X nL q ls (r.toList ++ rest) S' I' R' L' (cs + rm'.cells) (ss + rm'.slots)) : ax_W X nL pc ls st S I R L cs ss := by
  obtain ⟨p, l1, e, Rm, s, m, args, below, meth, c, G, A, ad0, S0, Q⟩ := X
  obtain ⟨rfl, rfl, hx, hb, hml, hown, hts, hK, hA, hlk⟩ := h
  intro ad H locs lsC h0 hAd hR hS hl hlv
  subst hq; subst hst
  obtain ⟨m1, m2, m3, m4, m5⟩ := hm
  have hok : ∀ v ∈ Value.ref b :: vs, ax_okv S v := fun v hv => by
    rcases List.mem_cons.mp hv with rfl | hv
    · exact hlv.1 _ (List.mem_append_right _ List.mem_cons_self)
    · exact hlv.1 v (List.mem_append_left _ (List.mem_reverse.mpr hv))
  have hrest : ax_live S ls rest := ⟨fun v hv => hlv.1 v (List.mem_append_right _ (List.mem_cons_of_mem _ hv)), hlv.2⟩
  have hcb : CallB Rm s args own idx y bytes maxL none (Cond.code y bytes maxL none :: ax_tb) rm' rm'.cells rm'.slots n := callB_of n hts (ax_good m1) rfl rfl rfl (hts _ m2) (hts _ hw) ⟨m3, m4, m5⟩ hrm
  refine ax_back hA h0 hAd hS hl hrest (va_runI (b := ad b) (As := vs.map (ax_tv ad)) (rest := rest.map (ax_tv ad)) ⟨hx, hb, hml, hown, hts⟩ (hM G ad H.size) ⟨hcb, hy1, hts _ hw2⟩ (ax_pre hR hK hok) rfl (by rw [List.length_map]; exact hn) (hl.2.2.1) ?_ ?_ hd ⟨hcs, hss⟩) kk
  · simp [List.map_append, List.map_reverse, ax_tv]
  · show 2 * 0 + _ ≤ 8
    rw [List.map_map, Nat.mul_zero, Nat.zero_add]
    refine Nat.le_trans (Nat.le_of_eq ?_) hro
    congr 1
    exact List.map_congr_left (fun v _ => ax_tv_cat ad v)
/-- Object's constructor -/
theorem ax_obj (h : ax_ok X l own cc nL rm) {idx b : Nat} (hd : decode cc pc = .ok (.invokespecial idx, 3)) (hq : pc + 3 = q) (hw : Cond.methodLink own idx Lib.objectInit ∈ ax_tb) (hw2 : Cond.instanceMethod Lib.objectInit ∈ ax_tb) (hw3 : Cond.code Lib.objectInit ⟨#[0xb1]⟩ 1 none ∈ ax_tb) (hfr : 1 ≤ rm.frames) (hlo : 20 ≤ rm.locals) (hro : (st.map fun v => v.category).sum ≤ 8)
    (kk : ax_W X nL q ls st S I R L cs ss) : ax_W X nL pc ls (.ref b :: st) S I R L cs ss := by
  obtain ⟨p, l1, e, Rm, s, m, args, below, meth, c, G, A, ad0, S0, Q⟩ := X
  obtain ⟨rfl, rfl, hx, hb, hml, hown, hts, hK, hA, hlk⟩ := h
  intro ad H locs lsC h0 hAd hR hS hl hlv
  subst hq
  refine W.objInit hx hb hown (hts _ hw) (hts _ hw2) (hts _ hw3) rfl (by rw [hml]; exact hl.2.2.1) rfl hd hfr ?_ (kk ad H locs lsC h0 hAd hR hS hl hlv.pop)
  show 2 * 0 + _ + 12 ≤ _
  rw [List.map_map, Nat.mul_zero, Nat.zero_add]
  have : (st.map ((fun v => v.category) ∘ ax_tv ad)).sum ≤ 8 := by
    refine Nat.le_trans (Nat.le_of_eq ?_) hro
    congr 1
    exact List.map_congr_left (fun v _ => ax_tv_cat ad v)
  omega
theorem ax_mmax (h : ax_ok X l own cc nL rm) {idx : Nat} {x y : Int32} (hd : decode cc pc = .ok (.invokestatic idx, 3)) (hq : pc + 3 = q) (hw : Cond.methodLink own idx Lib.Math.max.name ∈ ax_tb) (hw2 : Cond.static Lib.Math.max.name ∈ ax_tb) (hw3 : Cond.initialized "java/lang/Math" ∈ ax_tb) (hw4 : Cond.code Lib.Math.max.name Lib.Math.max.code 2 (some .int) ∈ ax_tb) (hfr : 1 ≤ rm.frames) (hlo : 21 ≤ rm.locals) (hcs : cs ≤ rm.cells) (hss : ss ≤ rm.slots) (hro : (st.map fun v => v.category).sum ≤ 8)
    (kk : ax_W X nL q ls (.int (if x < y then y else x) :: st) S I R L cs ss) : ax_W X nL pc ls (.int y :: .int x :: st) S I R L cs ss := by
  obtain ⟨p, l1, e, Rm, s, m, args, below, meth, c, G, A, ad0, S0, Q⟩ := X
  obtain ⟨rfl, rfl, hx, hb, hml, hown, hts, hK, hA, hlk⟩ := h
  intro ad H locs lsC h0 hAd hR hS hl hlv
  subst hq
  have hz : ((st.map (ax_tv ad)).map fun v => v.category).sum ≤ 8 := by
    rw [List.map_map]
    refine Nat.le_trans (Nat.le_of_eq ?_) hro
    congr 1
    exact List.map_congr_left (fun v _ => ax_tv_cat ad v)
  exact va_mmax hx hb (by rw [hml]; exact hl.2.2.1.symm) hown (hts _ hw) (hts _ hw2) (hts _ hw3) (hts _ hw4) hfr (by omega) hcs hss hd (kk ad H locs lsC h0 hAd hR hS hl (hlv.pop.pop.push ax_okv_i))
theorem ax_mmin (h : ax_ok X l own cc nL rm) {idx : Nat} {x y : Int32} (hd : decode cc pc = .ok (.invokestatic idx, 3)) (hq : pc + 3 = q) (hw : Cond.methodLink own idx Lib.Math.min.name ∈ ax_tb) (hw2 : Cond.static Lib.Math.min.name ∈ ax_tb) (hw3 : Cond.initialized "java/lang/Math" ∈ ax_tb) (hw4 : Cond.code Lib.Math.min.name Lib.Math.min.code 2 (some .int) ∈ ax_tb) (hfr : 1 ≤ rm.frames) (hlo : 21 ≤ rm.locals) (hcs : cs ≤ rm.cells) (hss : ss ≤ rm.slots) (hro : (st.map fun v => v.category).sum ≤ 8)
    (kk : ax_W X nL q ls (.int (if y < x then y else x) :: st) S I R L cs ss) : ax_W X nL pc ls (.int y :: .int x :: st) S I R L cs ss := by
  obtain ⟨p, l1, e, Rm, s, m, args, below, meth, c, G, A, ad0, S0, Q⟩ := X
  obtain ⟨rfl, rfl, hx, hb, hml, hown, hts, hK, hA, hlk⟩ := h
  intro ad H locs lsC h0 hAd hR hS hl hlv
  subst hq
  have hz : ((st.map (ax_tv ad)).map fun v => v.category).sum ≤ 8 := by
    rw [List.map_map]
    refine Nat.le_trans (Nat.le_of_eq ?_) hro
    congr 1
    exact List.map_congr_left (fun v _ => ax_tv_cat ad v)
  exact va_mmin hx hb (by rw [hml]; exact hl.2.2.1.symm) hown (hts _ hw) (hts _ hw2) (hts _ hw3) (hts _ hw4) hfr (by omega) hcs hss hd (kk ad H locs lsC h0 hAd hR hS hl (hlv.pop.pop.push ax_okv_i))
end AXE
/-! AX, throws: 'throw new E("..")' ends a method; a caller with a table of handlers catches -/
section AXT
variable {p : Program} {l : Launch} {e : Env} {Rm : Room} {s : State} {m : MethodId} {args : Array Value} {below : List Frame} {meth : Method} {c : Code} {locs : List Loc} {cells slots : Nat}
/-- the same point of a walk, counted from here: as if the method began in this heap -/
theorem ax_anew0 {T : State} (X : Stand p l e Rm s m args below meth c T locs cells slots) {R2 : Room} (h1 : R2.frames ≤ Rm.frames) (h2 : R2.locals ≤ Rm.locals) (h3 : cells + R2.cells ≤ Rm.cells) (h4 : slots + R2.slots ≤ Rm.slots) :
    Stand p l e R2 ((T.setVm s.vm).setFrames (.invoking m args :: below)) m args below meth c T [] 0 0 := by
  obtain ⟨g0, hfr⟩ := X.frames_eq
  have hcur : (T.setVm s.vm).cur < (T.setVm s.vm).threads.size := State.cur_lt_of_frames hfr
  have hF : ((T.setVm s.vm).setFrames (.invoking m args :: below)).frames = .invoking m args :: below := State.frames_setFrames _ hcur
  have hlim : e.platform.stackLimits (T.setVm s.vm).me = e.platform.stackLimits s.me := X.limits
  have hbyt : (T.setVm s.vm).me.stackBytes = s.me.stackBytes := X.bytes
  have hroom : ((T.setVm s.vm).setFrames (.invoking m args :: below)).hasRoom e.platform R2 = true := by
    have hu : ((T.setVm s.vm).setFrames (.invoking m args :: below)).localsInUse = s.localsInUse := by
      rw [State.localsInUse_invoking hF (meth := meth) (c := c) X.method X.code, State.localsInUse_invoking X.frames X.method X.code]
    have hr := X.room
    have hz := X.heapSize
    have hy := X.used
    simp only [State.hasRoom, Bool.and_eq_true, decide_eq_true_eq] at hr ⊢
    obtain ⟨⟨⟨⟨r1, r2, r3, r4, r5, r6⟩, r7⟩, r8⟩, -⟩ := hr
    rw [X.frames, List.length_cons] at r2 r3
    simp only [hF, hu, List.length_cons, State.stackLimits_setFrames, State.stackBytes_setFrames, hlim, hbyt]
    have r7' : T.heap.size + R2.cells ≤ e.platform.maxCells := by omega
    have r8' : T.slotsUsed + R2.slots ≤ e.platform.maxSlots := by omega
    exact ⟨⟨⟨⟨by omega, by omega, by omega, by omega, by omega, r6⟩, r7'⟩, r8'⟩, X.book⟩
  have hdrop : (T.heap.toList.drop T.heap.size) = [] := List.drop_eq_nil_of_le (Nat.le_of_eq Array.length_toList)
  have hsame : ((T.setVm s.vm).setFrames (.invoking m args :: below)).sameButNew (T.setVm s.vm) [] 0 0 := by
    refine ⟨?_, Nat.le_refl _, Nat.le_refl _, ?_, ?_, fun a c9 h9 => ⟨c9, h9, rfl, rfl, fun _ _ => rfl⟩⟩
    · obtain ⟨t, ht, -⟩ := State.frames_cons (s := T.setVm s.vm) hfr
      show T.setVm s.vm = { ((T.setVm s.vm).setFrames (.invoking m args :: below)).setFrames (T.setVm s.vm).frames with heap := T.heap, slotsUsed := T.slotsUsed }
      rw [State.setFrames_setFrames, State.setFrames_self ht]
      rfl
    · show T.slotsUsed = T.slotsUsed + ((T.heap.toList.drop T.heap.size).map (·.slots.size)).sum
      rw [hdrop]
      rfl
    · show ((T.heap.toList.drop T.heap.size).map (·.slots.size)).sum ≤ 0
      rw [hdrop]
      exact Nat.le_refl _
  exact { admits := X.admits, cas := X.cas, clock := X.clock, frames := hF, room := hroom, hears := X.hears, method := X.method, code := X.code, here := X.here, tail := X.tail, warmed := X.warmed, limits := by rw [State.stackLimits_setFrames]; rfl, bytes := by rw [State.stackBytes_setFrames]; rfl, same := hsame }
/-- nothing listed: the old cells stand -/
theorem ax_old {b U : State} {k n : Nat} (h : b.sameButNew ({ U with vm := b.vm } : State) [] k n) : b.heap.size ≤ U.heap.size ∧ ∀ q : Nat, q < b.heap.size → U.heap[q]? = b.heap[q]? := by
  obtain ⟨-, h2, -, -, -, h6⟩ := h
  refine ⟨h2, fun q hq => ?_⟩
  obtain ⟨c9, e1, e2, e3, e4⟩ := h6 q _ (Array.getElem?_eq_getElem hq)
  have hs : c9.slots = (b.heap[q]).slots := Array.ext_getElem? fun i => e4 i (fun z => by cases z)
  rw [hs] at e2
  rw [Array.getElem?_eq_getElem hq]
  exact e1.trans (congrArg some e2)
end AXT
/-- a method without a table of handlers -/
def ax_noh (X : ax_X) : Prop := match X with
  | (_, _, _, _, _, _, _, _, _, c, _, _, _, _, _) => c.exceptionTable.toList = []
/-- the words of 'throw new E(text)' by own's pool: ik the class, is the text, ic the constructor -/
def ax_thr (own : String) (ik is ic : Nat) (E text : String) : Prop := Bundle.fit E = true ∧ Cond.classLink own ik E ∈ ax_tb ∧ Cond.initialized E ∈ ax_tb ∧ (own, is, text) ∈ ax_sr ∧ ∀ w ∈ Bundle.ownAtoms own ic E ["java/lang/RuntimeException", "java/lang/Exception"], w ∈ ax_tb ∨ w ∈ ax_nw ∨ w ∈ ax_t4
section AXU
variable {X : ax_X} {l : Launch} {own : String} {cc : ByteArray} {nL : Nat} {rm : Room} {pc q : Nat} {ls : ax_Ls} {st : List Value} {S : ax_S} {I : ax_I} {R : ax_R} {L : ax_L} {cs ss mc ms : Nat} {ret : Option FieldType} {RX : ax_RX}
set_option maxHeartbeats 1000000 in
theorem ax_throw (h : ax_ok X l own cc nL rm) (hf : ax_fin X ret mc ms RX) (hno : ax_noh X) (hl0 : l.stackTraces = false) {ik is ic : Nat} {E text : String} (hw : ax_thr own ik is ic E text)
    (d0 : decode cc pc = .ok (.new ik, 3)) (d3 : decode cc (pc + 3) = .ok (.dup, 1)) (d4 : decode cc (pc + 4) = .ok (.ldc is, 2)) (d6 : decode cc (pc + 6) = .ok (.invokespecial ic, 3)) (d9 : decode cc (pc + 9) = .ok (.athrow, 1))
    (hfr : 6 ≤ rm.frames) (hlo : 90 ≤ rm.locals) (hcm : cs + 1 ≤ rm.cells) (hsm : ss + 6 ≤ rm.slots) (hc : cs + 1 ≤ mc) (hs : ss + 6 ≤ ms) (hr : RX (.inr E) S I R L) (hSS : ∀ i sh, ax_S0 X i = some sh → S i = some sh) : ax_W X nL pc ls [] S I R L cs ss := by
  obtain ⟨p, l1, e, Rm, s, m, args, below, meth, c, G, A, ad0, S0, Q⟩ := X
  obtain ⟨rfl, rfl, hx, hb, hml, hown, hts, hK, hA, hlk⟩ := h
  obtain ⟨hret1, rfl, rfl⟩ := hf
  intro ad H locs lsC h0 hAd hR hS hl hlv
  intro T hT Xs
  obtain ⟨hfit, w1, w2, w3, w4⟩ := hw
  have htr : e.platform.stackTraces = false := (show e.platform.stackTraces = l1.stackTraces by rw [Xs.admits.platform]).trans hl0
  have Y := ax_anew0 Xs (R2 := { frames := Rm.frames, locals := Rm.locals, cells := 1, slots := 6 }) (Nat.le_refl _) (Nat.le_refl _) hcm hsm
  obtain ⟨b, hbb⟩ : ∃ z, z = (T.setVm s.vm).setFrames (.invoking m args :: below) := ⟨_, rfl⟩
  rw [← hbb] at Y
  have hvm : s.vm = b.vm := by rw [hbb]; rfl
  have hhp : b.heap = H := by rw [hbb]; exact hT
  have hW0 : s.WarmedH b.vm := by rw [← hvm]; exact State.WarmedH.refl s
  have htb : ∀ w ∈ ax_tb, w.before args b = true := fun w hw => word_at hW0 (ax_tb_good w hw) (hts w hw)
  have hat : ∀ w ∈ Bundle.ownAtoms own ic E ["java/lang/RuntimeException", "java/lang/Exception"], w.before args b = true := by
    intro w hw
    rcases w4 w hw with h1 | h1 | h1
    · exact htb w h1
    · exact va_Nw.use (ax_nw_ot w h1) (va_Nw.same (ax_nw_ot w h1) hvm (hK.2.2.1 w h1))
    · exact hK.2.2.2.2.1 b args hW0.alike (fun z hz => by rw [hhp]; exact (hR.2.2.2 z hz).1) w h1
  have hown' : b.vm.findClass own = some m.cls := by rw [← hvm]; exact hown
  obtain ⟨sa, hsa⟩ := hK.2.2.2.2.2.1 _ w3
  have hsa' : vk_R own is text sa b := vk_R.warm hW0 hsa
  have hins : (Cond.instantiable E 6).before args b = true := hat _ (by simp [Bundle.ownAtoms])
  obtain ⟨vm₁, cX, kX, hfX, hkX, -, -, X₁, st1⟩ := Y.newCold hx (own := own) (C := E) (index := ik) (n := 6) hown' (htb _ w1) hins (htb _ w2) (g := F0 m pc lsC []) rfl (by rw [hb]; exact d0) (Nat.le_refl _) (Nat.le_refl _)
  generalize hT1 : (T.setVm vm₁).pushCell { cls := cX, slots := kX.instanceTypes.map defaultValue, vm := .none } = T1 at X₁ st1
  have hcellA : T1.heap[T.heap.size]? = some (freshCell cX kX) := by rw [← hT1]; exact State.heap_pushCell_size _ _
  obtain ⟨U, hsteps, hrun, hend, hW, hsame, ce, hce, hO⟩ := X₁.ctorThrowS hx htr (own := own) (cls := E) (names := ["java/lang/RuntimeException", "java/lang/Exception"]) (ic := ic) hown' hfit (by decide +kernel) hat (fun x hx => nomatch hx) hfX hkX hcellA (by rw [hhp, hT]; exact Nat.le_refl _) (msg := .ref sa) rfl
    (g := { method := m, pc := pc + 6, locals := lsC, stack := .ref sa :: .ref T.heap.size :: .ref T.heap.size :: [], locked := none }) rfl (by rw [hml]; exact hl.2.2.1) rfl rfl (rest := []) rfl
    (by rw [hb]; exact d6) (by rw [hb]; exact d9) (fun x hx => by rw [show c.exceptionTable.toList = [] from hno] at hx; cases hx) (by show 2 + 3 < Rm.frames; omega) (by show 2 * 0 + (1 + 0) + (13 * (2 + 1) + 42) ≤ Rm.locals; omega) hlk
  obtain ⟨f1, f2⟩ := ax_old hsame
  rw [hhp] at f1 f2
  have hWs : s.WarmedH U.vm := State.WarmedH.trans hW0 hW
  have hcl : s.vm.findClass E = some ce.cls := by rw [hvm]; exact hO.cls
  have hall : s.sameButNew ({ U with vm := s.vm } : State) locs mc ms := by
    subst hbb
    obtain ⟨e1, e2⟩ := hsame
    rw [State.setFrames_setFrames] at e1
    have h2 : (T.setVm s.vm).sameButNew ({ U with vm := s.vm } : State) [] (0 + 1) (0 + 6) := ⟨e1, e2⟩
    have h3 := Xs.same.trans h2
    rw [List.append_nil] at h3
    exact h3.mono hc hs
  have hrep : ax_Rep G ad S I R L U.heap := by
    refine ⟨fun i sh hi => (hR.1 i sh hi).kept rfl (fun _ => rfl) (fun _ => rfl) (fun _ => rfl) (f2 _ (hR.1 i sh hi).lt), hR.2.1, hR.2.2.1, fun z hz => ⟨?_, (hR.2.2.2 z hz).2⟩⟩
    have h9 := (hR.2.2.2 z hz).1
    rw [f2 _ (Array.getElem?_eq_some_iff.mp h9).1]
    exact h9
  have hF : va_F (ax_A ad0 S0 s.heap.size) s U := ⟨Nat.le_trans hS.1 f1, fun q h1 h2 => (f2 q (Nat.lt_of_lt_of_le h1 hS.1)).trans (hS.2.1 q h1 h2)⟩
  refine ⟨U, ?_, .threw T.heap.size, hrun, hend, ⟨.inr E, S, I, R, L, ad, hr, ⟨T.heap.size, ce, rfl, hce, hO.vm, hcl⟩, ⟨hSS, fun i hi => (h0 i hi).2, hAd, hrep⟩⟩, hF, locs, hWs, hall, hS.2.2⟩
  have d3' : decode c.code (pc + 3) = .ok (.dup, 1) := by rw [hb]; exact d3
  have d4' : decode c.code (pc + 4) = .ok (.ldc is, 2) := by rw [hb]; exact d4
  refine st1 _ ?_
  show Steps p.tables e below (T1.setTop { method := m, pc := pc + 3, locals := lsC, stack := .ref T.heap.size :: [], locked := none }) _
  jvm_step X₁.here [X₁.here.top, hx, d3', Value.category]
  exact X₁.ldcString hx (own := own) (text := text) (index := is) (a := sa) hown' hsa'.1 hsa'.2
    (g := { method := m, pc := pc + 4, locals := lsC, stack := .ref T.heap.size :: .ref T.heap.size :: [], locked := none }) rfl d4' _ hsteps
end AXU
/-! AX, calls that may throw, and the catching of what they threw -/
section AXH
/-- what a search through a table of handlers gives, whatever is asked afterwards; it may note what it resolved -/
def ax_Finds (e : Env) (s : State) (f : JFrame) (a : Addr) (h : Handler) (vm' : Vm) : Prop :=
  ∀ (Q : Handler → Pre) (E : CtlPost) (d : Bool) (acts : List Action), wp (findHandler f a) Q E e d acts s ↔ Q h d acts (s.setVm vm')
theorem ax_hHit {Q : Handler → Pre} {E : CtlPost} {e : Env} {d : Bool} {acts : List Action} {s : State} {f : JFrame} {a : Addr} {x : ExceptionTableEntry} {t : List ExceptionTableEntry} {c : ClassId} {cell : Cell} (hx : covers x f.pc = true) (h0 : x.catchType ≠ 0)
    (hl : s.vm.ClassLinks e.platform f.method.cls x.catchType c) (hcell : s.heap[a]? = some cell) (hobj : ∀ k, cell.vm ≠ .statics k) (hk : ∃ k, s.vm.classes[cell.cls]? = some k) (hc : ∃ k, s.vm.classes[c]? = some k) (hyes : s.vm.assignable cell.cls c = true) :
    wp (findHandler.go f a (x :: t)) Q E e d acts s ↔ Q (.found x.handlerPc) d acts (s.setVm (s.vm.noted f.method.cls x.catchType (.cls c))) := by
  simp only [covers] at hx
  obtain ⟨ha, ht⟩ := (resolveClass_links e.toSetting hl).op (op := VmOp.resolveClass f.method.cls x.catchType) rfl
  have hal : s.vm.Alike (s.vm.noted f.method.cls x.catchType (.cls c)) := (Vm.Alike.refl s.vm).noted _ _ _
  obtain ⟨k1, hk1⟩ := hk
  obtain ⟨k2, hk2⟩ := hc
  obtain ⟨k1', hk1', -⟩ := hal.2.2 _ _ hk1
  obtain ⟨k2', hk2', -⟩ := hal.2.2 _ _ hk2
  have hyes' : (s.vm.noted f.method.cls x.catchType (.cls c)).assignable cell.cls c = true := by rw [hal.assignable]; exact hyes
  simp [findHandler.go, hx, h0, ha, ht, hcell, hobj, hk1', hk2', hyes', VmOp.dirties, VmOp.acts]
theorem ax_hMiss {Q : Handler → Pre} {E : CtlPost} {e : Env} {d : Bool} {acts : List Action} {s : State} {f : JFrame} {a : Addr} {x : ExceptionTableEntry} {t : List ExceptionTableEntry} {c : ClassId} {cell : Cell} (hx : covers x f.pc = true) (h0 : x.catchType ≠ 0)
    (hl : s.vm.ClassLinks e.platform f.method.cls x.catchType c) (hcell : s.heap[a]? = some cell) (hobj : ∀ k, cell.vm ≠ .statics k) (hk : ∃ k, s.vm.classes[cell.cls]? = some k) (hc : ∃ k, s.vm.classes[c]? = some k) (hno : s.vm.assignable cell.cls c = false) :
    wp (findHandler.go f a (x :: t)) Q E e d acts s ↔ wp (findHandler.go f a t) Q E e d acts (s.setVm (s.vm.noted f.method.cls x.catchType (.cls c))) := by
  simp only [covers] at hx
  obtain ⟨ha, ht⟩ := (resolveClass_links e.toSetting hl).op (op := VmOp.resolveClass f.method.cls x.catchType) rfl
  have hal : s.vm.Alike (s.vm.noted f.method.cls x.catchType (.cls c)) := (Vm.Alike.refl s.vm).noted _ _ _
  obtain ⟨k1, hk1⟩ := hk
  obtain ⟨k2, hk2⟩ := hc
  obtain ⟨k1', hk1', -⟩ := hal.2.2 _ _ hk1
  obtain ⟨k2', hk2', -⟩ := hal.2.2 _ _ hk2
  have hno' : (s.vm.noted f.method.cls x.catchType (.cls c)).assignable cell.cls c = false := by rw [hal.assignable]; exact hno
  simp [findHandler.go, hx, h0, ha, ht, hcell, hobj, hk1', hk2', hno', VmOp.dirties, VmOp.acts]
/-- the rows ahead link to classes that don't take it, the next one takes it -/
theorem ax_hgo {e : Env} {s0 : State} {f : JFrame} {a : Addr} {cell : Cell} (hobj : ∀ k, cell.vm ≠ .statics k) (hk0 : ∃ k, s0.vm.classes[cell.cls]? = some k) (x : ExceptionTableEntry) (rest : List ExceptionTableEntry) (hx : covers x f.pc = true) (h0 : x.catchType ≠ 0) {cx : ClassId} (hlx : s0.vm.ClassLinks e.platform f.method.cls x.catchType cx) (hfx : s0.vm.assignable cell.cls cx = true) :
    ∀ (pre : List ExceptionTableEntry) (S : State), s0.WarmedH S.vm → S.heap[a]? = some cell → (∀ y ∈ pre, covers y f.pc = true ∧ y.catchType ≠ 0 ∧ ∃ c, s0.vm.ClassLinks e.platform f.method.cls y.catchType c ∧ s0.vm.assignable cell.cls c = false) →
      ∃ vm', s0.WarmedH vm' ∧ ∀ (Q : Handler → Pre) (E : CtlPost) (d : Bool) (acts : List Action), wp (findHandler.go f a (pre ++ x :: rest)) Q E e d acts S ↔ Q (.found x.handlerPc) d acts (S.setVm vm') := by
  obtain ⟨k0, hk0⟩ := hk0
  intro pre
  induction pre with
  | nil =>
    intro S hW hcell _
    obtain ⟨k0', hk0', -⟩ := hW.alike.2.2 _ _ hk0
    obtain ⟨dk, _, _, kt, hd, _, _, _, _, hkt, _, hopen⟩ := hlx.here
    obtain ⟨kt', hkt', -⟩ := hW.alike.2.2 _ _ hkt
    exact ⟨_, hW.noted hd hopen (State.rightAt_cls hlx), fun Q E d acts => by
      rw [List.nil_append]
      exact ax_hHit hx h0 (hW.classLinks hlx) hcell hobj ⟨k0', hk0'⟩ ⟨kt', hkt'⟩ (by rw [hW.alike.assignable]; exact hfx)⟩
  | cons y ys ih =>
    intro S hW hcell hpass
    obtain ⟨k0', hk0', -⟩ := hW.alike.2.2 _ _ hk0
    obtain ⟨hcov, hy0, c, hl, hno⟩ := hpass y List.mem_cons_self
    obtain ⟨dk, _, _, kt, hd, _, _, _, _, hkt, _, hopen⟩ := hl.here
    obtain ⟨kt', hkt', -⟩ := hW.alike.2.2 _ _ hkt
    obtain ⟨vm', hW', hq⟩ := ih (S.setVm (S.vm.noted f.method.cls y.catchType (.cls c))) (hW.noted hd hopen (State.rightAt_cls hl)) hcell (fun z hz => hpass z (List.mem_cons_of_mem _ hz))
    exact ⟨vm', hW', fun Q E d acts => by
      rw [List.cons_append, ax_hMiss hcov hy0 (hW.classLinks hl) hcell hobj ⟨k0', hk0'⟩ ⟨kt', hkt'⟩ (by rw [hW.alike.assignable]; exact hno)]
      exact hq Q E d acts⟩
theorem ax_stepCatch {e : Env} {s : State} {a : Addr} {f : JFrame} {r : List Frame} {pc : Nat} {vm' : Vm} (hfind : ax_Finds e s f a (.found pc) vm') :
    (stepThrowing e s a (.java f :: r)).Is ((s.setVm vm').setFrames (.java { f with pc := pc, stack := [.ref a] } :: r)) [] := by
  simp only [stepThrowing, searchFrame, vmDo]
  generalize hr : Sem.go _ e false [] s = res
  obtain ⟨as, rfl, ha⟩ := Sem.eq_ok_of hr (a := Handler.found pc) (s' := s.setVm vm') (acts' := []) (by simp [hfind _ _ _ _])
  exact ⟨rfl, ha⟩
theorem ax_stepsCatch {tb : Tables} {e : Env} {s target : State} {g : JFrame} {c : Code} {below : List Frame} {a : Addr} {vm' : Vm} (h : At s g.method c below) {pc : Nat} (hfind : ax_Finds e ((s.setTop g).pushFrame (.throwing a)) g a (.found pc) vm')
    (hrest : Steps tb e below ((s.setVm vm').setTop { g with pc := pc, stack := [.ref a] }) target) :
    Steps tb e below ((s.setTop g).pushFrame (.throwing a)) target := by
  obtain ⟨hgo, hw⟩ := h.throwing a
  refine Steps.head hgo hw ?_
  rw [stepThread_throwing (frames_entered h.top _), (ax_stepCatch (s := (s.setTop g).pushFrame (.throwing a)) hfind).1]
  obtain ⟨g₀, hg⟩ := Option.isSome_iff_exists.mp h.top
  obtain ⟨r, hr⟩ := State.topJava?_eq_some.mp hg
  have hr' : (s.setVm vm').frames = .java g₀ :: r := hr
  rw [State.setTop_of_frames _ hr'] at hrest
  rw [State.pushFrame, State.setTop_of_frames _ hr, State.setFrames_setFrames]
  show Steps tb e below ((((s.setVm vm').setFrames _)).setFrames _) target
  rw [State.setFrames_setFrames, hr]
  exact hrest
end AXH
/-- a call that returns or throws: the walk's own point behind it -/
theorem ax_pay {p : Program} {l : Launch} {e : Env} {Rm : Room} {s : State} {m : MethodId} {args : Array Value} {below : List Frame} {meth : Method} {c : Code} {U : State} {locs : List Loc} {cells slots : Nat} {g : JFrame} {ig : Instr} {len : Nat} {mk : MethodId} {a : Array Value} {y : MethodName} {bytes : ByteArray} {maxL : Nat} {ret : Option FieldType} {rm' : Room} {Pc : Array Value → State → Prop} {G : ax_G} {ad : Nat → Nat} {S : ax_S} {sz : Nat} {RX : ax_RX}
    (X : Stand p l e Rm s m args below meth c U locs cells slots) (hg : g.method = m) (hsize : g.locals.size = c.maxLocals) (hdg : decode c.code g.pc = .ok (ig, len)) (hW : 2 * g.monitorRoom + (g.stack.map fun v => v.category).sum ≤ 8) (hn : U.methodNamed? y = some mk)
    (hM : MetFree l y (headSpec (Cond.code y bytes maxL ret :: ax_tb) rm') Pc (fun _ _ _ _ _ => True) (ax_PostX G ad S sz rm'.cells rm'.slots RX)) (hPc : Pc a (U.calling g mk a)) (hrm : ax_rmle rm' Rm maxL) (hcs : cells + rm'.cells ≤ Rm.cells) (hss : slots + rm'.slots ≤ Rm.slots)
    (hws : ∀ w ∈ Cond.code y bytes maxL ret :: ax_tb, ∀ (a' : Array Value) (V : State), s.WarmedH V.vm → w.before a' V = true) (hini : Cond.initialized y.cls ∈ ax_tb) :
    ∃ (o : Outcome) (t B : State) (Ls : List Loc), ax_PostX G ad S sz rm'.cells rm'.slots RX a (U.calling g mk a) o t ∧ B.heap = t.heap ∧ B.vm = t.vm ∧ Stand p l e Rm s m args below meth c B (locs ++ Ls) (cells + rm'.cells) (slots + rm'.slots) ∧ (∀ q ∈ Ls, ax_A ad S sz q.base) ∧
      (∀ v, o = .returned v → Steps p.tables e below (doInvoke e (U.setTop g) [] mk a).1 (B.setTop { g with pc := g.pc + len, stack := v.toList ++ g.stack })) ∧
      (∀ q, o = .threw q → Steps p.tables e below (doInvoke e (U.setTop g) [] mk a).1 ((B.setTop g).pushFrame (.throwing q))) := by
  have h1 : (headSpec (Cond.code y bytes maxL ret :: ax_tb) rm').pre.before a U = true := atoms_intro fun w hw => hws w hw _ _ X.warmed
  have h2 : (Cond.code y bytes maxL ret).before a U = true := hws _ List.mem_cons_self _ _ X.warmed
  have h3 : (Cond.initialized y.cls).before a U = true := hws _ (List.mem_cons_of_mem _ hini) _ _ X.warmed
  obtain ⟨methY, cY, hmY, hcY, -, hlY, -, -, -, -⟩ := Cond.code_spec hn h2
  obtain ⟨kY, hkY, -⟩ := className_of_methodNamed hn
  have hinitY : kY.init = .initialized := Cond.initialized_spec (findClass_of_methodNamed hn) hkY h3
  have h : At U g.method c below := by rw [hg]; exact X.here
  have hlo : 8 + (maxL + 11) + rm'.locals ≤ Rm.locals := hrm.2
  have happ : (headSpec (Cond.code y bytes maxL ret :: ax_tb) rm').appliesLoose y e.platform (U.calling g mk a) = true :=
    Spec.appliesLoose_calling (g := g) h hdg hn hkY hinitY (X.room_calling (g := g) (R' := rm') hsize hmY hcY hrm.1 (by rw [hlY]; omega) hcs hss) h1
  obtain ⟨mid, hmid⟩ := h.above
  have hfr : (U.setTop g).frames = (.java g :: mid) ++ below := by rw [State.frames_setTop' g h.top, hmid]; rfl
  obtain ⟨o, t, hsteps, -, hend, hq⟩ := Steps.callFree hM p X.admits X.cas X.clock (acts := []) hfr happ hPc trivial
  have hq' : ax_PostX G ad S sz rm'.cells rm'.slots RX a (U.calling g mk a) o t := hq
  rw [State.frames_setTop' g h.top] at hend
  obtain ⟨g₀, hg0⟩ := Option.isSome_iff_exists.mp h.top
  obtain ⟨r, hr⟩ := State.topJava?_eq_some.mp hg0
  obtain ⟨-, -, Ls, hW₂, hsm, hL⟩ := id hq'
  obtain ⟨e2, q2, q3, q4, q5, q6⟩ := id hsm
  have hW' : U.WarmedH t.vm := hW₂
  have hr' : (({ U with heap := t.heap, slotsUsed := t.slotsUsed } : State).setVm t.vm).frames = .java g₀ :: r := hr
  have e3 : t = ({ (U.calling g mk a).setFrames t.frames with heap := t.heap, slotsUsed := t.slotsUsed } : State).setVm t.vm := by
    have : t = ({ t with vm := (U.calling g mk a).vm } : State).setVm t.vm := rfl
    rw [e2] at this
    exact this
  have hsame : U.sameButNew ({ U with heap := t.heap, slotsUsed := t.slotsUsed } : State) Ls rm'.cells rm'.slots := by
    refine ⟨?_, q2, q3, q4, q5, q6⟩
    obtain ⟨w, hw, -⟩ := State.frames_cons hr
    show ({ U with heap := t.heap, slotsUsed := t.slotsUsed } : State) = { U.setFrames U.frames with heap := t.heap, slotsUsed := t.slotsUsed }
    rw [State.setFrames_self hw]
  subst hg
  refine ⟨o, t, ({ U with heap := t.heap, slotsUsed := t.slotsUsed } : State).setVm t.vm, Ls, hq', rfl, rfl,
    ⟨X.admits, X.cas, X.clock, X.frames, X.room, X.hears, X.method, X.code, (X.here.setHeapUsed t.heap t.slotsUsed).setVm hW'.alike, X.tail, State.WarmedH.trans X.warmed hW', X.limits, X.bytes, X.same.trans (hsame.setVm s.vm)⟩, hL, fun v hv => ?_, fun q hv => ?_⟩
  · subst hv
    obtain ⟨c₂, i₂, len₂, hc₂, hd₂, hf₂⟩ := hend
    have hcc : c₂ = c := by
      have h9 : t.code? g.method = U.code? g.method := by
        rw [State.code?_eq, State.code?_eq, hW'.alike.method?]
      exact Option.some.inj (hc₂.symm.trans (h9.trans h.code))
    subst hcc
    have hlen : len₂ = len := by rw [hdg] at hd₂; cases hd₂; rfl
    subst hlen
    have ht : t = (({ U with heap := t.heap, slotsUsed := t.slotsUsed } : State).setVm t.vm).setTop { g with pc := g.pc + len₂, stack := v.toList ++ g.stack } := by
      refine e3.trans ?_
      rw [hf₂, State.calling_eq h.top, State.setFrames_setFrames, State.setTop_of_frames _ hr', hr]
      rfl
    rw [← ht]
    exact hsteps
  · subst hv
    have hf₂ : t.frames = .throwing q :: .java g :: U.frames.tail := hend
    have ht : t = ((({ U with heap := t.heap, slotsUsed := t.slotsUsed } : State).setVm t.vm).setTop g).pushFrame (.throwing q) := by
      refine e3.trans ?_
      rw [hf₂, State.calling_eq h.top, State.setFrames_setFrames, State.pushFrame, State.frames_setTop _ hr', State.setTop_of_frames _ hr', State.setFrames_setFrames, hr]
      rfl
    rw [← ht]
    exact hsteps
/-- contracts of methods that may throw; of methods that have handlers -/
def ax_MetX (l : Launch) (y : MethodName) (bytes : ByteArray) (maxL : Nat) (ret : Option FieldType) (rm : Room) (vs : List Value) (S : ax_S) (I : ax_I) (R : ax_R) (L : ax_L) (RX : ax_RX) : Prop :=
  ∀ (G : ax_G) (ad : Nat → Nat) (sz : Nat), MetFree l y (headSpec (Cond.code y bytes maxL ret :: ax_tb) rm) (ax_Pre G ad sz vs S I R L) (fun _ _ _ _ _ => True) (ax_PostX G ad S sz rm.cells rm.slots RX)
def ax_MetW (l : Launch) (y : MethodName) (bytes : ByteArray) (maxL : Nat) (ret : Option FieldType) (hh : List (Nat × Nat × Nat × Nat)) (rm : Room) (vs : List Value) (S : ax_S) (I : ax_I) (R : ax_R) (L : ax_L) (Rs : ax_Rs) : Prop :=
  ∀ (G : ax_G) (ad : Nat → Nat) (sz : Nat), Met l y (Cond.codeWith y bytes maxL ret hh :: ax_tb) rm (ax_Pre G ad sz vs S I R L) (ax_Post G ad S sz Rs) rm.cells rm.slots (ax_A ad S sz)
def ax_hh (X : ax_X) (hh : List (Nat × Nat × Nat × Nat)) : Prop := match X with
  | (_, _, _, _, _, _, _, _, _, c, _, _, _, _, _) => c.exceptionTable.toList.map (fun h => (h.startPc, h.endPc, h.handlerPc, h.catchType)) = hh
/-- what is thrown lies over this frame -/
def ax_T (X : ax_X) (nL : Nat) (pc : Nat) (ls : ax_Ls) (E : String) (S : ax_S) (I : ax_I) (R : ax_R) (L : ax_L) (cs ss : Nat) : Prop := match X with
  | (p, l, e, Rm, s, m, args, below, meth, c, G, A, ad0, S0, Q) => ∀ (ad : Nat → Nat) (H : Heap) (locs : List Loc) (lsC : Array Slot) (q : Addr) (ce : Cell) (rest : List Value), (∀ i, S0 i ≠ none → S i ≠ none ∧ ad i = ad0 i) → (∀ i, S i ≠ none → A (ad i)) → ax_Rep G ad S I R L H → va_S A s.heap H locs → ax_loc ad nL ls lsC → ax_live S ls [] → H[q]? = some ce → ce.vm = .none → s.vm.findClass E = some ce.cls →
      ∀ T : State, T.heap = H → Stand p l e Rm s m args below meth c T locs cs ss → ∃ t, Steps p.tables e below ((T.setTop (F0 m pc lsC rest)).pushFrame (.throwing q)) t ∧ Q t
section AXX
variable {X : ax_X} {l : Launch} {own : String} {cc : ByteArray} {nL : Nat} {rm : Room} {pc q : Nat} {ls : ax_Ls} {st : List Value} {S : ax_S} {I : ax_I} {R : ax_R} {L : ax_L} {cs ss mc ms : Nat} {ret : Option FieldType} {RX : ax_RX}
theorem ax_enterX {y : MethodName} {bytes : ByteArray} {maxL : Nat} {vs : List Value} (hy : plainName y.cls = true) (hyo : y.cls = own) (hc : ∀ v ∈ vs, v.category = 1) (hn : vs.length ≤ maxL)
    (body : ∀ X, ax_ok X l own bytes maxL rm → ax_fin X ret rm.cells rm.slots RX → ax_noh X → ax_S0 X = S → ax_W X maxL 0 (vs.map some ++ List.replicate (maxL - vs.length) none) [] S I R L 0 0) :
    ax_MetX l y bytes maxL ret rm vs S I R L RX := by
  intro G ad sz
  refine MetFree.of_bodyS (code := bytes) (maxLocals := maxL) (ret := ret) hy ?_ ?_
  · intro args s m h hn
    obtain ⟨meth, c, h1, h2, h3, h4, h5, h6, -, -⟩ := Cond.code_spec hn (atoms_spec (ws := Cond.code y bytes maxL ret :: ax_tb) h _ List.mem_cons_self)
    exact ⟨meth, c, h1, h2, h3, h4, h5, h6⟩
  · intro p e s m args below meth c s₁ B hml hv _
    have hh0 : s₁.heap = s.heap := by rw [B.state]; rfl
    obtain ⟨rfl, hsz, hR, hK, hok⟩ := hv
    subst hsz
    have hts0 := atoms_spec (ws := Cond.code y bytes maxL ret :: ax_tb) B.pre
    have hown : s.vm.findClass own = some m.cls := by rw [← hyo]; exact findClass_of_methodNamed B.named
    have hlk := B.notSynchronized
    have hnoh : c.exceptionTable.toList = [] := by
      obtain ⟨meth9, c9, h1, h2, -, -, -, -, h7, -⟩ := Cond.code_spec B.named (hts0 _ List.mem_cons_self)
      have X9 := Stand.of_body B
      cases X9.method.symm.trans h1
      cases X9.code.symm.trans h2
      simpa [Array.isEmpty_iff] using h7
    have hA : ∀ q : Nat, s.heap.size ≤ q → ax_A ad S s.heap.size q := fun q h => Or.inr h
    have hcat : ∀ v ∈ vs.map (ax_tv ad), v.category = 1 := fun v hv => by
      obtain ⟨w, hw, e⟩ := List.mem_map.mp hv
      rw [← e, ax_tv_cat]
      exact hc w hw
    have hb := body (p, l, e, rm, s, m, (vs.map (ax_tv ad)).toArray, below, meth, c, G, ax_A ad S s.heap.size, ad, S, ax_Q below s G ad S s.heap.size rm.cells rm.slots RX)
      ⟨rfl, rfl, B.exec, B.bytes, hml, hown, fun w hw => hts0 w (List.mem_cons_of_mem _ hw), hK, hA, hlk⟩ ⟨B.returns, rfl, rfl⟩ hnoh rfl
    have hw := hb ad s.heap [] (((vs.map (ax_tv ad)).map Slot.val ++ List.replicate (maxL - (vs.map (ax_tv ad)).length) Slot.unset).toArray) (fun i hi => ⟨hi, rfl⟩) (fun i hi => Or.inl ⟨i, hi, rfl⟩) hR va_S.rf (ax_entry_loc ad vs hc hn)
      ⟨fun v hv => (by cases hv), fun v hv => by
        rcases List.mem_append.mp hv with h1 | h1
        · obtain ⟨w, hw, e⟩ := List.mem_map.mp h1
          cases e
          exact hok _ hw
        · have := List.eq_of_mem_replicate h1
          cases this⟩
    obtain ⟨t, a1, o, b1, b2, b3⟩ := hw s₁ hh0 (Stand.of_body B)
    rw [entry_eq m _ hcat]
    exact ⟨t, o, a1, b1, b2, b3⟩
theorem ax_enterW {y : MethodName} {bytes : ByteArray} {maxL : Nat} {vs : List Value} {hh : List (Nat × Nat × Nat × Nat)} {Rs : ax_Rs} (hy : plainName y.cls = true) (hyo : y.cls = own) (hc : ∀ v ∈ vs, v.category = 1) (hn : vs.length ≤ maxL)
    (body : ∀ X, ax_ok X l own bytes maxL rm → ax_fin X ret rm.cells rm.slots (ax_of Rs) → ax_hh X hh → ax_S0 X = S → ax_W X maxL 0 (vs.map some ++ List.replicate (maxL - vs.length) none) [] S I R L 0 0) :
    ax_MetW l y bytes maxL ret hh rm vs S I R L Rs := by
  intro G ad sz
  refine va_MetW (cc := bytes) (maxL := maxL) (ret := ret) (hh := hh) hy rfl ?_
  intro p e s m args below meth c s₁ B hml hv
  obtain ⟨rfl, hsz, hR, hK, hok⟩ := hv
  subst hsz
  have hts0 := atoms_spec (ws := Cond.codeWith y bytes maxL ret hh :: ax_tb) B.pre
  have hown : s.vm.findClass own = some m.cls := by rw [← hyo]; exact findClass_of_methodNamed B.named
  have hlk := B.notSynchronized
  have hhh : c.exceptionTable.toList.map (fun h => (h.startPc, h.endPc, h.handlerPc, h.catchType)) = hh := by
    obtain ⟨m9, meth9, c9, hn9, h1, h2, -, -, h7, -⟩ := Cond.codeWith_spec (hts0 _ List.mem_cons_self)
    cases B.named.symm.trans hn9
    have X9 := Stand.of_body B
    cases X9.method.symm.trans h1
    cases X9.code.symm.trans h2
    exact h7
  have hA : ∀ q : Nat, s.heap.size ≤ q → ax_A ad S s.heap.size q := fun q h => Or.inr h
  have hcat : ∀ v ∈ vs.map (ax_tv ad), v.category = 1 := fun v hv => by
    obtain ⟨w, hw, e⟩ := List.mem_map.mp hv
    rw [← e, ax_tv_cat]
    exact hc w hw
  rw [entry_eq m _ hcat]
  have hb := body (p, l, e, rm, s, m, (vs.map (ax_tv ad)).toArray, below, meth, c, G, ax_A ad S s.heap.size, ad, S, ax_Q below s G ad S s.heap.size rm.cells rm.slots (ax_of Rs))
    ⟨rfl, rfl, B.exec, B.bytes, hml, hown, fun w hw => hts0 w (List.mem_cons_of_mem _ hw), hK, hA, hlk⟩ ⟨B.returns, rfl, rfl⟩ hhh rfl
  have hw := hb ad s.heap [] (((vs.map (ax_tv ad)).map Slot.val ++ List.replicate (maxL - (vs.map (ax_tv ad)).length) Slot.unset).toArray) (fun i hi => ⟨hi, rfl⟩) (fun i hi => Or.inl ⟨i, hi, rfl⟩) hR va_S.rf (ax_entry_loc ad vs hc hn)
    ⟨fun v hv => (by cases hv), fun v hv => by
      rcases List.mem_append.mp hv with h1 | h1
      · obtain ⟨w, hw, e⟩ := List.mem_map.mp h1
        cases e
        exact hok _ hw
      · have := List.eq_of_mem_replicate h1
        cases this⟩
  refine ax_mono ?_ hw
  rintro t ⟨o, h1, h2, ⟨r, S', I', R', L', ad', hr, hm, hw'⟩, h5, Ls, h6, h7, h8⟩
  cases r with
  | inr E => exact absurd hr (fun z => z)
  | inl v => exact ⟨o, h1, h2, ⟨⟨v, S', I', R', L', ad', hr, hm.1, hm.2, hw'⟩, h5⟩, Ls, ⟨⟨_, hm.1⟩, h6, h7⟩, h8⟩
end AXX
/-! AX: a call of a method that may throw (invokevirtual); its catching; a call of a static method with handlers -/
section AXV
variable {X : ax_X} {l : Launch} {own : String} {cc : ByteArray} {nL : Nat} {rm : Room} {pc q : Nat} {ls ls' : ax_Ls} {st : List Value} {S : ax_S} {I : ax_I} {R : ax_R} {L : ax_L} {cs ss mc ms : Nat} {ret : Option FieldType} {RX : ax_RX}
theorem ax_callVX (h : ax_ok X l own cc nL rm) {y : MethodName} {bytes : ByteArray} {maxL idx n b ci : Nat} {w : vw_C} {ret : Option FieldType} {rm' : Room} {vs rest : List Value} {RX : ax_RX} (hd : decode cc pc = .ok (.invokevirtual idx, 3)) (hq : pc + 3 = q) (hm : ax_mt y bytes maxL ret n) (hw : Cond.methodLink own idx y ∈ ax_tb) (hw2 : Cond.instanceMethod y ∈ ax_tb) (hw3 : Cond.selects w.1 y y ∈ ax_tb) (hSb : S b = some (.inl ci)) (hci : ax_cl[ci]? = some w) (hM : ax_MetX l y bytes maxL ret rm' (.ref b :: vs) S I R L RX) (hn : vs.length = n) (hrm : ax_rmle rm' rm maxL) (hst : st = vs.reverse ++ .ref b :: rest) (hro : (rest.map fun v => v.category).sum ≤ 8) (hcs : cs + rm'.cells ≤ rm.cells) (hss : ss + rm'.slots ≤ rm.slots)
    (kk : ∀ r S' I' R' L', RX (.inl r) S' I' R' L' → (∀ i sh, S i = some sh → S' i = some sh) → ax_W X nL q ls (r.toList ++ rest) S' I' R' L' (cs + rm'.cells) (ss + rm'.slots))
    (kx : ∀ E S' I' R' L', RX (.inr E) S' I' R' L' → (∀ i sh, S i = some sh → S' i = some sh) → ax_T X nL pc ls E S' I' R' L' (cs + rm'.cells) (ss + rm'.slots)) : ax_W X nL pc ls st S I R L cs ss := by
  obtain ⟨p, l1, e, Rm, s, m, args, below, meth, c, G, A, ad0, S0, Q⟩ := X
  obtain ⟨rfl, rfl, hx, hb, hml, hown, hts, hK, hA, hlk⟩ := h
  intro ad H locs lsC h0 hAd hR hS hl hlv
  subst hq; subst hst
  obtain ⟨m1, m2, m3, m4, m5⟩ := hm
  have hnb : S b ≠ none := by rw [hSb]; exact fun z => by cases z
  have hok : ∀ v ∈ Value.ref b :: vs, ax_okv S v := fun v hv => by
    rcases List.mem_cons.mp hv with rfl | hv
    · exact ax_okv_r hnb
    · exact hlv.1 v (List.mem_append_left _ (List.mem_reverse.mpr hv))
  have hrest : ax_live S ls rest := ⟨fun v hv => hlv.1 v (List.mem_append_right _ (List.mem_cons_of_mem _ hv)), hlv.2⟩
  obtain ⟨pr1, pr2⟩ := ax_pre hR hK hok
  obtain ⟨cellB, hcB, hoB, hclB⟩ := ax_recv hR hK hSb hci
  have hws : ∀ w ∈ Cond.code y bytes maxL ret :: ax_tb, ∀ (a' : Array Value) (V : State), s.WarmedH V.vm → w.before a' V = true := pay_in hts (ax_good m1)
  have hfree : ∀ z, ax_A ad S H.size z → A z := by
    rintro z (⟨i, hi, rfl⟩ | hz)
    · exact hAd i hi
    · exact hA z (Nat.le_trans hS.1 hz)
  intro T hT Xs
  obtain ⟨mk, methM, hnamed, hmethM, hstM, habM⟩ := Cond.instanceMethod_spec (hts _ hw2)
  obtain ⟨methM', cM, hmethM', -, -, -, -, -, -, hsigM⟩ := Cond.code_spec hnamed (hts _ m1)
  cases hmethM.symm.trans hmethM'
  obtain ⟨c2, r2, m2', q1, q2, q3, q4, kP, hkP, hkPi⟩ := Cond.selects_spec (hts _ hw3)
  cases hclB.symm.trans q1
  cases (State.methodFound?_of_named hnamed ⟨m3, m4⟩).symm.trans q2
  cases hnamed.symm.trans q3
  have hselP : selectMethod e.platform s.vm cellB.cls mk = .method mk := by rw [Launch.admits_selectMethod Xs.admits]; exact q4
  have hlen : (vs.map (ax_tv ad)).length = methM.sig.parameters.length := by
    rw [hsigM] at m5
    rw [List.length_map, hn]
    exact (Option.some.inj m5).symm
  obtain ⟨vm₁, X₁, hstep₁⟩ := Xs.invokevirtual hx hown (hts _ hw) hnamed hmethM hstM hkP hkPi ⟨m3, m4⟩ (a := ad b) (cell := cellB) (by rw [hT]; exact hcB)
    (fun z h => by rw [h] at hoB; cases hoB) hselP hmethM habM hkP hkPi (g := F0 m pc lsC ((vs.reverse ++ .ref b :: rest).map (ax_tv ad))) rfl (argsL := vs.map (ax_tv ad)) (rest := rest.map (ax_tv ad)) hlen (by simp [List.map_append, List.map_reverse, ax_tv]) (by rw [hb]; exact hd)
  obtain ⟨o, t, B, Ls, hpost, e1, e2, XB, hL, hret, hthr⟩ := ax_pay (g := { F0 m pc lsC ((vs.reverse ++ .ref b :: rest).map (ax_tv ad)) with stack := rest.map (ax_tv ad) }) (ig := .invokevirtual idx) (len := 3) (mk := mk) (a := (Value.ref (ad b) :: vs.map (ax_tv ad)).toArray) X₁ rfl (by rw [hml]; exact hl.2.2.1) (by rw [hb]; exact hd)
    (by
      show 2 * 0 + _ ≤ 8
      rw [List.map_map, Nat.mul_zero, Nat.zero_add]
      refine Nat.le_trans (Nat.le_of_eq ?_) hro
      congr 1
      exact List.map_congr_left (fun v _ => ax_tv_cat ad v)) (X₁.named hnamed) (hM G ad H.size) (pr1 _ _ _ _ (pr2 _ (by show T.heap = H; exact hT) X₁.warmed)) hrm hcs hss hws m2
  obtain ⟨⟨r, S', I', R', L', ad', hrx, hmt, w1, w2, w3, w4⟩, ⟨hz, hk⟩, -⟩ := hpost
  have hcall : ((T.setVm vm₁).calling { F0 m pc lsC ((vs.reverse ++ .ref b :: rest).map (ax_tv ad)) with stack := rest.map (ax_tv ad) } mk (Value.ref (ad b) :: vs.map (ax_tv ad)).toArray).heap = H := hT
  rw [hcall] at hz hk
  have hne : ∀ i, S i ≠ none → S' i ≠ none := fun i hi => by
    cases hs : S i with
    | none => exact absurd hs hi
    | some sh => rw [w1 i sh hs]; exact fun z => by cases z
  have hlv' : ax_live S' ls rest := hrest.grow hne
  have htv : ∀ v, ax_okv S v → ax_tv ad' v = ax_tv ad v := by
    intro v hv
    cases v with
    | ref u => simp [ax_tv, w2 u (hv u rfl)]
    | _ => rfl
  have hS' : va_S A s.heap B.heap (locs ++ Ls) := by
    refine ⟨Nat.le_trans hS.1 (by rw [e1]; exact hz), fun q h1 h2 => ?_, fun q hq => ?_⟩
    · rw [e1, hk q (Nat.lt_of_lt_of_le h1 hS.1) (fun z => h2 (hfree q z))]; exact hS.2.1 q h1 h2
    · rcases List.mem_append.mp hq with h | h
      · exact hS.2.2 q h
      · exact hfree _ (hL q h)
  have hloc' : ax_loc ad' nL ls lsC := hl.moved (fun v hv => htv v (hlv.2 v hv))
  have h0' : ∀ i, S0 i ≠ none → S' i ≠ none ∧ ad' i = ad0 i := fun i hi => ⟨hne i (h0 i hi).1, by rw [w2 i (h0 i hi).1]; exact (h0 i hi).2⟩
  cases r with
  | inl v =>
    obtain ⟨hv, hokv⟩ := hmt
    have hgo := kk v S' I' R' L' hrx w1 ad' B.heap (locs ++ Ls) lsC h0' (fun i hi => hfree _ (w3 i hi)) (by rw [e1]; exact w4) hS' hloc'
      (by
        cases v with
        | none => exact hlv'
        | some v => exact hlv'.push (hokv v rfl))
    obtain ⟨t2, a1, b1⟩ := hgo B rfl XB
    refine ⟨t2, hstep₁ _ fun acts => ?_, b1⟩
    rw [doInvoke_state]
    refine (hret _ hv).trans ?_
    have hr9 : (v.toList ++ rest).map (ax_tv ad') = (v.map (ax_tv ad')).toList ++ rest.map (ax_tv ad) := by
      rw [List.map_append]
      congr 1
      · cases v <;> rfl
      · exact List.map_congr_left (fun v hv => htv v (hrest.1 v hv))
    rw [← hr9]
    exact a1
  | inr E =>
    obtain ⟨qx, ce, hv, hce, hcv, hcl⟩ := hmt
    have hcl' : s.vm.findClass E = some ce.cls := by
      have h9 : (T.setVm vm₁).vm.findClass E = some ce.cls := hcl
      rw [X₁.warmed.alike.findClass] at h9
      exact h9
    obtain ⟨t2, a1, b1⟩ := kx E S' I' R' L' hrx w1 ad' B.heap (locs ++ Ls) lsC qx ce (rest.map (ax_tv ad)) h0' (fun i hi => hfree _ (w3 i hi)) (by rw [e1]; exact w4) hS' hloc' ⟨fun v hv => (by cases hv), hlv'.2⟩ (by rw [e1]; exact hce) hcv hcl' B rfl XB
    refine ⟨t2, hstep₁ _ fun acts => ?_, b1⟩
    rw [doInvoke_state]
    exact (hthr _ hv).trans a1
/-- the thrown object is caught by the row x, and laid into a local that is never read -/
theorem ax_catch (h : ax_ok X l own cc nL rm) {hh : List (Nat × Nat × Nat × Nat)} (hX : ax_hh X hh) {E : String} {a0 b0 hp ct k : Nat} {nm : String} (pre suf : List (Nat × Nat × Nat × Nat)) (hsp : hh = pre ++ (a0, b0, hp, ct) :: suf) (hcov : a0 ≤ pc ∧ pc < b0) (hct : ct ≠ 0) (hw : Cond.classLink own ct nm ∈ ax_tb) (hyes : Cond.castable E nm ∈ ax_nw)
    (hpre : ∀ z ∈ pre, z.1 ≤ pc ∧ pc < z.2.1 ∧ z.2.2.2 ≠ 0 ∧ ∃ n2 : String, Cond.classLink own z.2.2.2 n2 ∈ ax_tb ∧ (E, n2) ∈ ax_nc)
    (hk : k < nL) (hd : decode cc hp = .ok (.astore k, 2) ∧ q = hp + 2 ∨ (∃ f : Fin 4, decode cc hp = .ok (.astore_n f, 1) ∧ (f : Nat) = k) ∧ q = hp + 1) (hls : ls.set k none = ls')
    (kk : ax_W X nL q ls' [] S I R L cs ss) : ax_T X nL pc ls E S I R L cs ss := by
  obtain ⟨p, l1, e, Rm, s, m, args, below, meth, c, G, A, ad0, S0, Q⟩ := X
  obtain ⟨rfl, rfl, hx, hb, hml, hown, hts, hK, hA, hlk⟩ := h
  subst hls
  intro ad H locs lsC qx ce rest h0 hAd hR hS hl hlv hce hcv hcl T hT Xs
  have hpl : e.platform.magicAccessors = ({} : Platform).magicAccessors := by rw [Xs.admits.platform]
  have hX' : c.exceptionTable.toList.map (fun h => (h.startPc, h.endPc, h.handlerPc, h.catchType)) = hh := hX
  -- the table, row by row
  obtain ⟨tp, tr, htab, htp, htr⟩ : ∃ tp tr, c.exceptionTable.toList = tp ++ tr ∧ tp.map (fun h => (h.startPc, h.endPc, h.handlerPc, h.catchType)) = pre ∧ tr.map (fun h => (h.startPc, h.endPc, h.handlerPc, h.catchType)) = (a0, b0, hp, ct) :: suf := by
    rw [hsp] at hX'
    exact List.map_eq_append_iff.mp hX'
  obtain ⟨x, ts, rfl, hxe, -⟩ := List.map_eq_cons_iff.mp htr
  simp only [Prod.mk.injEq] at hxe
  obtain ⟨x1, x2, x3, x4⟩ := hxe
  obtain ⟨c5, hc5, hcl5⟩ := Cond.classLink_spec hown (hts _ hw) e.platform hpl
  obtain ⟨c3, c4, hc3, hc4, hasg⟩ := Cond.castable_spec (va_Nw.use (A := args) (ax_nw_ot _ hyes) (hK.2.2.1 _ hyes))
  cases Option.some.inj (hc3.symm.trans hcl)
  cases Option.some.inj (hc4.symm.trans hc5)
  have hkc : ∃ k9, s.vm.classes[ce.cls]? = some k9 := Vm.classAt_of_findClass hcl
  obtain ⟨vm', hW', hfind⟩ := ax_hgo (e := e) (s0 := s) (f := F0 m pc lsC rest) (a := qx) (cell := ce) (fun z h => by rw [hcv] at h; cases h) hkc x ts (by simp only [covers, Bool.and_eq_true, decide_eq_true_eq]; rw [x1, x2]; exact hcov) (by rw [x4]; exact hct) (by rw [x4]; exact hcl5) hasg tp ((T.setTop (F0 m pc lsC rest)).pushFrame (.throwing qx)) Xs.warmed (by show T.heap[qx]? = some ce; rw [hT]; exact hce) (fun y hy => by
      have hz := List.mem_map_of_mem (f := fun h : ExceptionTableEntry => (h.startPc, h.endPc, h.handlerPc, h.catchType)) hy
      rw [htp] at hz
      obtain ⟨z1, z2, z3, n2, hl2, hn2⟩ := hpre _ hz
      obtain ⟨c6, hc6, hcl6⟩ := Cond.classLink_spec hown (hts _ hl2) e.platform hpl
      refine ⟨by simp only [covers, Bool.and_eq_true, decide_eq_true_eq]; exact ⟨z1, z2⟩, z3, c6, hcl6, ?_⟩
      obtain ⟨a8, b8, y1, y2, y3⟩ := hK.2.2.2.2.2.2.1 _ hn2
      cases Option.some.inj (y1.symm.trans hcl)
      cases Option.some.inj (y2.symm.trans hc6)
      exact y3)
  have hF : ax_Finds e ((T.setTop (F0 m pc lsC rest)).pushFrame (.throwing qx)) (F0 m pc lsC rest) qx (.found x.handlerPc) vm' := fun Q E d acts => by
    rw [W.findHandler_eq (meth := meth) (code := c) Xs.method' Xs.code, htab]
    exact hfind Q E d acts
  have XN : Stand p l1 e Rm s m args below meth c (T.setVm vm') locs cs ss := Xs.noted hW'
  rw [x3] at hF
  have hcat : (Value.ref qx).category = 1 := rfl
  -- the handler's first instruction lays it into a local
  have hgo : ∀ lsD, lv_has lsD nL ((k, Value.ref qx) :: (ax_pr ad ls).filter (fun q => !(q.1 == k) && !(q.1 + 1 == k && q.2.category == 2))) → W p l1 e Rm s m args below meth c H locs cs ss Q (F0 m q lsD []) := by
    intro lsD hD
    refine kk ad H locs lsD h0 hAd hR hS ⟨by rw [List.length_set]; exact hl.1, fun v hv => ?_, hD.1, hD.2.1, fun z hz => ?_⟩ ⟨fun v hv => (by cases hv), fun v hv => ?_⟩
    · rcases List.mem_or_eq_of_mem_set hv with h1 | h1
      · exact hl.2.1 v h1
      · cases h1
    · obtain ⟨v, hv, e9⟩ := ax_pr_of hz
      rw [List.getElem?_set] at hv
      by_cases hi : k = z.1
      · rw [if_pos hi] at hv
        split at hv <;> cases hv
      · rw [if_neg hi] at hv
        refine hD.2.2 z (List.mem_cons_of_mem _ (List.mem_filter.mpr ⟨?_, ?_⟩))
        · have := ax_pr_mem (ad := ad) hv
          rw [← e9] at this
          exact this
        · have hw1 : v.category = 1 := hl.2.1 v (List.mem_of_getElem? hv)
          have h2 : z.2.category = 1 := by rw [e9, ax_tv_cat]; exact hw1
          simp [h2]
          exact fun y => hi y.symm
    · rcases List.mem_or_eq_of_mem_set hv with h1 | h1
      · exact hlv.2 v h1
      · cases h1
  have hend : W p l1 e Rm s m args below meth c H locs cs ss Q (F0 m hp lsC [.ref qx]) := by
    rcases hd with ⟨hd, rfl⟩ | ⟨⟨f, hd, hf⟩, rfl⟩
    · exact lv_astore hx hb hd hl.2.2 hk rfl hgo
    · exact lv_astore_n hx hb hd hf hl.2.2 hk rfl hgo
  obtain ⟨t, a1, b1⟩ := hend (T.setVm vm') hT XN
  exact ⟨t, ax_stepsCatch (g := F0 m pc lsC rest) Xs.here hF a1, b1⟩
theorem ax_callSW (h : ax_ok X l own cc nL rm) {y : MethodName} {bytes : ByteArray} {maxL idx n : Nat} {ret : Option FieldType} {hh : List (Nat × Nat × Nat × Nat)} {rm' : Room} {vs rest : List Value} {Rs : ax_Rs} (hd : decode cc pc = .ok (.invokestatic idx, 3)) (hq : pc + 3 = q) (m1 : Cond.codeWith y bytes maxL ret hh ∈ ax_tb) (m2 : Cond.initialized y.cls ∈ ax_tb) (m3 : y.cls ≠ "java/lang/invoke/MethodHandle" ∧ y.cls ≠ "java/lang/invoke/VarHandle") (m5 : (parseMethodDescriptor y.desc).map (fun d => d.parameters.length) = some n) (hw : Cond.methodLink own idx y ∈ ax_tb) (hw2 : Cond.static y ∈ ax_tb) (hM : ax_MetW l y bytes maxL ret hh rm' vs S I R L Rs) (hn : vs.length = n) (hrm : ax_rmle rm' rm maxL) (hst : st = vs.reverse ++ rest) (hro : (rest.map fun v => v.category).sum ≤ 8) (hcs : cs + rm'.cells ≤ rm.cells) (hss : ss + rm'.slots ≤ rm.slots)
    (kk : ∀ r S' I' R' L', Rs r S' I' R' L' → (∀ i sh, S i = some sh → S' i = some sh) → ax_W X nL q ls (r.toList ++ rest) S' I' R' L' (cs + rm'.cells) (ss + rm'.slots)) : ax_W X nL pc ls st S I R L cs ss := by
  obtain ⟨p, l1, e, Rm, s, m, args, below, meth, c, G, A, ad0, S0, Q⟩ := X
  obtain ⟨rfl, rfl, hx, hb, hml, hown, hts, hK, hA, hlk⟩ := h
  intro ad H locs lsC h0 hAd hR hS hl hlv
  subst hq; subst hst
  have hok : ∀ v ∈ vs, ax_okv S v := fun v hv => hlv.1 v (List.mem_append_left _ (List.mem_reverse.mpr hv))
  have hrest : ax_live S ls rest := ⟨fun v hv => hlv.1 v (List.mem_append_right _ hv), hlv.2⟩
  obtain ⟨pr1, pr2⟩ := ax_pre hR hK hok
  have hG : GoodIn ax_tb (Cond.codeWith y bytes maxL ret hh :: ax_tb) := by
    intro w h
    rcases List.mem_cons.mp h with rfl | h1
    · exact ⟨m1, ax_tb_good _ m1⟩
    · exact ⟨h1, ax_tb_good _ h1⟩
  have hBk : Back l1 Rm p e below s args y 3 8 (PreOf Rm rm'.cells rm'.slots (ax_Pre G ad H.size vs S I R L)) (PostOf (ax_Post G ad S H.size Rs) rm'.cells rm'.slots (ax_A ad S H.size)) :=
    va_backW (hh := hh) (bytes := bytes) (maxL := maxL) (ret := ret) (hM G ad H.size) pr1 rfl rfl hrm.1 hrm.2 (pay_in hts hG) List.mem_cons_self (fun a' U hW => word_at hW (ax_tb_good _ m2) (hts _ m2))
  refine ax_back (a := (vs.map (ax_tv ad)).toArray) hA h0 hAd hS hl hrest (fun T hT Xs => ?_) kk
  obtain ⟨mk, methM, cM, hnamed, hmethM, -, -, -, -, -, -, hsigM⟩ := Cond.codeWith_spec (hts _ m1)
  have hstatic : methM.isStatic = true := Cond.static_spec hnamed hmethM (hts _ hw2)
  obtain ⟨kP, hkP, -⟩ := className_of_methodNamed hnamed
  have hinitP : kP.init = .initialized := Cond.initialized_spec (findClass_of_methodNamed hnamed) hkP (hts _ m2)
  have hlen : (vs.map (ax_tv ad)).length = methM.sig.parameters.length := by
    rw [hsigM] at m5
    rw [List.length_map, hn]
    exact (Option.some.inj m5).symm
  obtain ⟨vm₁, X₁, hstep₁⟩ := Xs.invokestatic hx hown (hts _ hw) hnamed hmethM hstatic hkP hinitP m3 (g := F0 m pc lsC ((vs.reverse ++ rest).map (ax_tv ad))) rfl (argsL := vs.map (ax_tv ad)) (rest := rest.map (ax_tv ad)) hlen (by simp [List.map_append, List.map_reverse]) (by rw [hb]; exact hd)
  obtain ⟨v, ⟨U', l2, c2, s2⟩, X', ⟨g', mk', t, Ls, e1, e2, hq, h1, hL, h2, h3⟩, hsteps⟩ := hBk m meth c ⟨T.setVm vm₁, locs, cs, ss⟩ { F0 m pc lsC ((vs.reverse ++ rest).map (ax_tv ad)) with stack := rest.map (ax_tv ad) } (.invokestatic idx) mk (vs.map (ax_tv ad)).toArray X₁ rfl (by rw [hml]; exact hl.2.2.1) (by rw [hb]; exact hd)
    (by
      show 2 * 0 + _ ≤ 8
      rw [List.map_map, Nat.mul_zero, Nat.zero_add]
      refine Nat.le_trans (Nat.le_of_eq ?_) hro
      congr 1
      exact List.map_congr_left (fun v _ => ax_tv_cat ad v)) (X₁.named hnamed) ⟨hcs, hss, pr2 _ (by show T.heap = H; exact hT) X₁.warmed⟩
  dsimp only [Pt.U, Pt.locs, Pt.cells, Pt.slots] at X' e1 e2 h1 h2 h3 hsteps
  subst h1; subst h2; subst h3
  exact ⟨v, _, t, U', Ls, hT, X', hL, e1, e2, hq, fun target h => hstep₁ _ fun acts => by rw [doInvoke_state]; exact hsteps.trans h⟩
end AXV
/-! AX, for the printed walks: what a memory's references are of; small steps of 'den = some out'; calls by their answers -/
def ax_rm (d mc ms : Nat) : Room := { frames := d, cells := mc, slots := ms, locals := 35 * d }
/-- what a reference field of class ci, number k, points to: an object of a class, or an array of a kind -/
def ax_dt (ci k : Nat) : Nat ⊕ Nat := match ci, k with
  | 4, 2 => .inl 2
  | 4, 3 => .inr 0
  | 4, 4 => .inl 1
  | 4, 5 => .inl 1
  | 1, 0 => .inr 2
  | 1, 1 => .inr 3
  | _, _ => .inr 0
def ax_is (S : ax_S) (u : Nat) (d : Nat ⊕ Nat) : Prop := match d with
  | .inl c => S u = some (.inl c)
  | .inr ai => ∃ n, S u = some (.inr (ai, n))
def ax_typ (S : ax_S) (R : ax_R) : Prop := (∀ a ci k u, S a = some (.inl ci) → R a k = some u → ax_is S u (ax_dt ci k)) ∧ (∀ a n k u, S a = some (.inr (2, n)) → R a k = some u → S u = some (.inl 3)) ∧ (∀ a n k u, S a = some (.inr (3, n)) → R a k = some u → S u = some (.inl 0)) ∧ ∀ a ai n, S a = some (.inr (ai, n)) → n < 2 ^ 31
def ax_len (S : ax_S) (a : Nat) : Nat := match S a with
  | some (.inr q) => q.2
  | _ => 0
/-- the place that an index names, if it is one of the array's -/
def ax_ix (S : ax_S) (a : Nat) (i : Int32) : Option Nat := if 0 ≤ i ∧ i.toNatClampNeg < ax_len S a then some i.toNatClampNeg else none
theorem ax_ix_s {S : ax_S} {R : ax_R} {a ai n j : Nat} {i : Int32} (ht : ax_typ S R) (hs : S a = some (.inr (ai, n))) (h : ax_ix S a i = some j) : i = nI j ∧ j < n ∧ n < 2 ^ 31 := by
  unfold ax_ix at h
  split at h
  · rename_i hc
    cases h
    have hl : ax_len S a = n := by unfold ax_len; rw [hs]
    obtain ⟨h1, h2⟩ := hc
    rw [hl] at h2
    refine ⟨?_, h2, ht.2.2.2 a ai n hs⟩
    obtain ⟨k, hk, e⟩ := nI_of (x := i) (fun z => by
      rw [Int32.le_iff_toInt_le] at h1
      rw [Int32.lt_iff_toInt_lt] at z
      omega)
    subst e
    rw [nI_clamp hk]
  · cases h
theorem ax_bd {α β : Type} {o : Option α} {f : α → Option β} {r : β} (h : o.bind f = some r) : ∃ a, o = some a ∧ f a = some r := by
  cases o with
  | none => cases h
  | some a => exact ⟨a, rfl, h⟩
theorem ax_bs {α β : Type} {x : α} {f : α → Option β} {r : β} (h : (some x).bind f = some r) : ∃ a, x = a ∧ f a = some r := ⟨x, rfl, h⟩
def ax_b (b : Bool) : Int32 := if b then 1 else 0
theorem ax_b_n (b : Bool) : narrow .boolean (.int (ax_b b)) = .int (ax_b b) := by cases b <;> rfl
/-- an int that is a boolean -/
def ax_bo (v : Int32) : Option Bool := if v = 0 then some false else if v = 1 then some true else none
theorem ax_bo_s {v : Int32} {b : Bool} (h : ax_bo v = some b) : v = ax_b b := by
  unfold ax_bo at h
  split at h
  · cases h; assumption
  · split at h
    · cases h; assumption
    · cases h
section AXD
variable {X : ax_X} {l : Launch} {own : String} {cc : ByteArray} {nL : Nat} {rm : Room} {pc q : Nat} {ls ls' : ax_Ls} {st : List Value} {S : ax_S} {I I' : ax_I} {R R' : ax_R} {L : ax_L} {cs ss mc ms : Nat} {ret : Option FieldType} {RX : ax_RX}
/-- fewer locals are asked for -/
def ax_few : ax_Ls → ax_Ls → Bool
  | [], [] => true
  | _ :: a, none :: b => ax_few a b
  | x :: a, y :: b => decide (x = y) && ax_few a b
  | _, _ => false
theorem ax_few_s : ∀ (ls ls' : ax_Ls), ax_few ls ls' = true → ls'.length = ls.length ∧ ∀ (k : Nat) (v : Value), ls'[k]? = some (some v) → ls[k]? = some (some v)
  | [], [], _ => ⟨rfl, fun k v h => h⟩
  | x :: a, none :: b, h => by
    obtain ⟨h1, h2⟩ := ax_few_s a b h
    refine ⟨by simp [h1], fun k v hk => ?_⟩
    cases k with
    | zero => simp at hk
    | succ k => simpa using h2 k v (by simpa using hk)
  | x :: a, some y :: b, h => by
    simp only [ax_few, Bool.and_eq_true, decide_eq_true_eq] at h
    obtain ⟨h1, h2⟩ := ax_few_s a b h.2
    refine ⟨by simp [h1], fun k v hk => ?_⟩
    cases k with
    | zero => simpa [h.1] using hk
    | succ k => simpa using h2 k v (by simpa using hk)
  | [], _ :: _, h => by simp [ax_few] at h
  | _ :: _, [], h => by simp [ax_few] at h
theorem ax_weak (hl : ls'.length = ls.length ∧ ∀ (k : Nat) (v : Value), ls'[k]? = some (some v) → ls[k]? = some (some v)) (kk : ax_W X nL pc ls' st S I R L cs ss) : ax_W X nL pc ls st S I R L cs ss := by
  obtain ⟨p, l1, e, Rm, s, m, args, below, meth, c, G, A, ad0, S0, Q⟩ := X
  intro ad H locs lsC h0 hAd hR hS hlo hlv
  have hm : ∀ v, some v ∈ ls' → some v ∈ ls := fun v hv => by
    obtain ⟨k, hk⟩ := List.getElem?_of_mem hv
    exact List.mem_of_getElem? (hl.2 k v hk)
  refine kk ad H locs lsC h0 hAd hR hS ⟨hl.1.trans hlo.1, fun v hv => hlo.2.1 v (hm v hv), hlo.2.2.1, hlo.2.2.2.1, fun z hz => ?_⟩ ⟨hlv.1, fun v hv => hlv.2 v (hm v hv)⟩
  obtain ⟨v, hv, e⟩ := ax_pr_of hz
  have := hlo.get (hl.2 _ _ hv)
  rw [e]
  exact this
theorem ax_kV {v : Option Value} (h : ax_ok X l own cc nL rm) {y : MethodName} {bytes : ByteArray} {maxL idx n b ci : Nat} {w : vw_C} {ret : Option FieldType} {rm' : Room} {vs rest st' : List Value} (hd : decode cc pc = .ok (.invokevirtual idx, 3)) (hq : pc + 3 = q) (hm : ax_mt y bytes maxL ret n) (hw : Cond.methodLink own idx y ∈ ax_tb) (hw2 : Cond.instanceMethod y ∈ ax_tb) (hw3 : Cond.selects w.1 y y ∈ ax_tb) (hSb : S b = some (.inl ci)) (hci : ax_cl[ci]? = some w) (hM : ax_Met l y bytes maxL ret rm' (.ref b :: vs) S I R L (ax_eq v S I' R' L)) (hn : vs.length = n) (hrm : ax_rmle rm' rm maxL) (hst : st = vs.reverse ++ .ref b :: rest) (hro : (rest.map fun v => v.category).sum ≤ 8) (hcs : rm'.cells = 0) (hss : rm'.slots = 0) (hc0 : cs ≤ rm.cells) (hs0 : ss ≤ rm.slots) (hst' : v.toList ++ rest = st')
    (kk : ax_W X nL q ls st' S I' R' L cs ss) : ax_W X nL pc ls st S I R L cs ss := by
  refine ax_callV h hd hq hm hw hw2 hw3 hSb hci hM hn hrm hst hro (by rw [hcs]; exact hc0) (by rw [hss]; exact hs0) (fun r S' I2 R2 L2 hr _ => ?_)
  obtain ⟨rfl, rfl, rfl, rfl, rfl⟩ := hr
  rw [hcs, hss, hst']
  exact kk
theorem ax_kS {v : Option Value} (h : ax_ok X l own cc nL rm) {y : MethodName} {bytes : ByteArray} {maxL idx n : Nat} {ret : Option FieldType} {rm' : Room} {vs rest st' : List Value} (hd : decode cc pc = .ok (.invokestatic idx, 3)) (hq : pc + 3 = q) (hm : ax_mt y bytes maxL ret n) (hw : Cond.methodLink own idx y ∈ ax_tb) (hw2 : Cond.static y ∈ ax_tb) (hM : ax_Met l y bytes maxL ret rm' vs S I R L (ax_eq v S I' R' L)) (hn : vs.length = n) (hrm : ax_rmle rm' rm maxL) (hst : st = vs.reverse ++ rest) (hro : (rest.map fun v => v.category).sum ≤ 8) (hcs : rm'.cells = 0) (hss : rm'.slots = 0) (hc0 : cs ≤ rm.cells) (hs0 : ss ≤ rm.slots) (hst' : v.toList ++ rest = st')
    (kk : ax_W X nL q ls st' S I' R' L cs ss) : ax_W X nL pc ls st S I R L cs ss := by
  refine ax_callS h hd hq hm hw hw2 hM hn hrm hst hro (by rw [hcs]; exact hc0) (by rw [hss]; exact hs0) (fun r S' I2 R2 L2 hr _ => ?_)
  obtain ⟨rfl, rfl, rfl, rfl, rfl⟩ := hr
  rw [hcs, hss, hst']
  exact kk
theorem ax_kN {v : Option Value} (h : ax_ok X l own cc nL rm) {y : MethodName} {host : String} {bytes : ByteArray} {maxL idx n : Nat} {ret : Option FieldType} {rm' : Room} {vs rest st' : List Value} (hd : decode cc pc = .ok (.invokestatic idx, 3)) (hq : pc + 3 = q) (hm : ax_mt y bytes maxL ret n) (hw : Cond.methodLinkNest own idx y host ∈ ax_nw) (hw2 : Cond.static y ∈ ax_tb) (hM : ax_Met l y bytes maxL ret rm' vs S I R L (ax_eq v S I' R' L)) (hn : vs.length = n) (hrm : ax_rmle rm' rm maxL) (hst : st = vs.reverse ++ rest) (hro : (rest.map fun v => v.category).sum ≤ 8) (hcs : rm'.cells = 0) (hss : rm'.slots = 0) (hc0 : cs ≤ rm.cells) (hs0 : ss ≤ rm.slots) (hst' : v.toList ++ rest = st')
    (kk : ax_W X nL q ls st' S I' R' L cs ss) : ax_W X nL pc ls st S I R L cs ss := by
  refine ax_callSN h hd hq hm hw hw2 hM hn hrm hst hro (by rw [hcs]; exact hc0) (by rw [hss]; exact hs0) (fun r S' I2 R2 L2 hr _ => ?_)
  obtain ⟨rfl, rfl, rfl, rfl, rfl⟩ := hr
  rw [hcs, hss, hst']
  exact kk
end AXD
theorem ax_b_f (b : Bool) : fits .boolean (.int (ax_b b)) = true := by cases b <;> rfl
theorem ax_cats {vs : List Value} (h : vs.all (fun v => v.category == 1) = true) : ∀ v ∈ vs, v.category = 1 := fun v hv => by simpa using List.all_eq_true.mp h v hv
theorem ax_len_s {S : ax_S} {a ai n : Nat} (h : S a = some (.inr (ai, n))) : ax_len S a = n := by unfold ax_len; rw [h]
def ax_fewP : ax_Ls → ax_Ls → Prop
  | [], [] => True
  | _ :: a, none :: b => ax_fewP a b
  | x :: a, some y :: b => x = some y ∧ ax_fewP a b
  | _, _ => False
theorem ax_fewP_s : ∀ (ls ls' : ax_Ls), ax_fewP ls ls' → ls'.length = ls.length ∧ ∀ (k : Nat) (v : Value), ls'[k]? = some (some v) → ls[k]? = some (some v)
  | [], [], _ => ⟨rfl, fun k v h => h⟩
  | x :: a, none :: b, h => by
    obtain ⟨h1, h2⟩ := ax_fewP_s a b h
    refine ⟨by simp [h1], fun k v hk => ?_⟩
    cases k with
    | zero => simp at hk
    | succ k => simpa using h2 k v (by simpa using hk)
  | x :: a, some y :: b, h => by
    obtain ⟨h0, h⟩ := h
    obtain ⟨h1, h2⟩ := ax_fewP_s a b h
    refine ⟨by simp [h1], fun k v hk => ?_⟩
    cases k with
    | zero => simpa [h0] using hk
    | succ k => simpa using h2 k v (by simpa using hk)
  | [], _ :: _, h => h.elim
  | _ :: _, [], h => h.elim
def ax_ox (o : Int32 ⊕ String) : Option Value ⊕ String := match o with
  | .inl v => .inl (some (.int v))
  | .inr E => .inr E
def ax_eqX (o : Int32 ⊕ String) (S : ax_S) (I : ax_I) (R : ax_R) (L : ax_L) : ax_RX := fun r' S' I' R' L' => r' = ax_ox o ∧ S' = S ∧ I' = I ∧ R' = R ∧ L' = L
theorem ax_typ_f {S : ax_S} {R : ax_R} {a ci k u : Nat} (h : ax_typ S R) (ha : S a = some (.inl ci)) (hu : ax_is S u (ax_dt ci k)) : ax_typ S (ax_up R a k (some u)) := by
  obtain ⟨h1, h2, h3, h4⟩ := h
  refine ⟨fun b cj j v hb hv => ?_, fun b n j v hb hv => ?_, fun b n j v hb hv => ?_, h4⟩
  · by_cases e : b = a ∧ j = k
    · obtain ⟨rfl, rfl⟩ := e
      rw [ax_up_self] at hv
      cases hv
      cases ha.symm.trans hb
      exact hu
    · rw [ax_up_ne e] at hv
      exact h1 b cj j v hb hv
  · rw [ax_up_ne (fun e => by rw [e.1, ha] at hb; cases hb)] at hv
    exact h2 b n j v hb hv
  · rw [ax_up_ne (fun e => by rw [e.1, ha] at hb; cases hb)] at hv
    exact h3 b n j v hb hv
theorem ax_typ_a2 {S : ax_S} {R : ax_R} {a n k u : Nat} (h : ax_typ S R) (ha : S a = some (.inr (2, n))) (hu : S u = some (.inl 3)) : ax_typ S (ax_up R a k (some u)) := by
  obtain ⟨h1, h2, h3, h4⟩ := h
  refine ⟨fun b cj j v hb hv => ?_, fun b n j v hb hv => ?_, fun b n j v hb hv => ?_, h4⟩
  · rw [ax_up_ne (fun e => by rw [e.1, ha] at hb; cases hb)] at hv
    exact h1 b cj j v hb hv
  · by_cases e : b = a ∧ j = k
    · obtain ⟨rfl, rfl⟩ := e
      rw [ax_up_self] at hv
      cases hv
      exact hu
    · rw [ax_up_ne e] at hv
      exact h2 b n j v hb hv
  · rw [ax_up_ne (fun e => by rw [e.1, ha] at hb; cases hb)] at hv
    exact h3 b n j v hb hv
theorem ax_typ_a3 {S : ax_S} {R : ax_R} {a n k u : Nat} (h : ax_typ S R) (ha : S a = some (.inr (3, n))) (hu : S u = some (.inl 0)) : ax_typ S (ax_up R a k (some u)) := by
  obtain ⟨h1, h2, h3, h4⟩ := h
  refine ⟨fun b cj j v hb hv => ?_, fun b n j v hb hv => ?_, fun b n j v hb hv => ?_, h4⟩
  · rw [ax_up_ne (fun e => by rw [e.1, ha] at hb; cases hb)] at hv
    exact h1 b cj j v hb hv
  · rw [ax_up_ne (fun e => by rw [e.1, ha] at hb; cases hb)] at hv
    exact h2 b n j v hb hv
  · by_cases e : b = a ∧ j = k
    · obtain ⟨rfl, rfl⟩ := e
      rw [ax_up_self] at hv
      cases hv
      exact hu
    · rw [ax_up_ne e] at hv
      exact h3 b n j v hb hv
theorem ax_out3 {x : Int32} (z0 : ¬ x = 0) (z1 : ¬ x = 1) (z2 : ¬ x = 2) : x.toInt < 0 ∨ 2 < x.toInt := by
  rcases Int.lt_or_le x.toInt 0 with h | h
  · exact Or.inl h
  · rcases Int.lt_or_le 2 x.toInt with g | g
    · exact Or.inr g
    · exfalso
      have e : x.toInt = 0 ∨ x.toInt = 1 ∨ x.toInt = 2 := by omega
      rcases e with e | e | e
      · exact z0 (Int32.toInt_inj.mp (by rw [e]; rfl))
      · exact z1 (Int32.toInt_inj.mp (by rw [e]; rfl))
      · exact z2 (Int32.toInt_inj.mp (by rw [e]; rfl))
theorem ax_out8 {x : Int32} (z0 : ¬ x = 0) (z1 : ¬ x = 1) (z2 : ¬ x = 2) (z3 : ¬ x = 3) (z4 : ¬ x = 4) (z5 : ¬ x = 5) (z6 : ¬ x = 6) (z7 : ¬ x = 7) : x.toInt < 0 ∨ 7 < x.toInt := by
  rcases Int.lt_or_le x.toInt 0 with h | h
  · exact Or.inl h
  · rcases Int.lt_or_le 7 x.toInt with g | g
    · exact Or.inr g
    · exfalso
      have e : x.toInt = 0 ∨ x.toInt = 1 ∨ x.toInt = 2 ∨ x.toInt = 3 ∨ x.toInt = 4 ∨ x.toInt = 5 ∨ x.toInt = 6 ∨ x.toInt = 7 := by omega
      rcases e with e | e | e | e | e | e | e | e
      · exact z0 (Int32.toInt_inj.mp (by rw [e]; rfl))
      · exact z1 (Int32.toInt_inj.mp (by rw [e]; rfl))
      · exact z2 (Int32.toInt_inj.mp (by rw [e]; rfl))
      · exact z3 (Int32.toInt_inj.mp (by rw [e]; rfl))
      · exact z4 (Int32.toInt_inj.mp (by rw [e]; rfl))
      · exact z5 (Int32.toInt_inj.mp (by rw [e]; rfl))
      · exact z6 (Int32.toInt_inj.mp (by rw [e]; rfl))
      · exact z7 (Int32.toInt_inj.mp (by rw [e]; rfl))
theorem ax_out9 {x : Int32} (z0 : ¬ x = 0) (z1 : ¬ x = 1) (z2 : ¬ x = 2) (z3 : ¬ x = 3) (z4 : ¬ x = 4) (z5 : ¬ x = 5) (z6 : ¬ x = 6) (z7 : ¬ x = 7) (z8 : ¬ x = 8) : x.toInt < 0 ∨ 8 < x.toInt := by
  rcases Int.lt_or_le x.toInt 0 with h | h
  · exact Or.inl h
  · rcases Int.lt_or_le 8 x.toInt with g | g
    · exact Or.inr g
    · exfalso
      have e : x.toInt = 0 ∨ x.toInt = 1 ∨ x.toInt = 2 ∨ x.toInt = 3 ∨ x.toInt = 4 ∨ x.toInt = 5 ∨ x.toInt = 6 ∨ x.toInt = 7 ∨ x.toInt = 8 := by omega
      rcases e with e | e | e | e | e | e | e | e | e
      · exact z0 (Int32.toInt_inj.mp (by rw [e]; rfl))
      · exact z1 (Int32.toInt_inj.mp (by rw [e]; rfl))
      · exact z2 (Int32.toInt_inj.mp (by rw [e]; rfl))
      · exact z3 (Int32.toInt_inj.mp (by rw [e]; rfl))
      · exact z4 (Int32.toInt_inj.mp (by rw [e]; rfl))
      · exact z5 (Int32.toInt_inj.mp (by rw [e]; rfl))
      · exact z6 (Int32.toInt_inj.mp (by rw [e]; rfl))
      · exact z7 (Int32.toInt_inj.mp (by rw [e]; rfl))
      · exact z8 (Int32.toInt_inj.mp (by rw [e]; rfl))
