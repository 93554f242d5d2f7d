abbrev hh_tile : List (Nat × Nat × Nat × Nat) := [(0, 14, 17, 13), (0, 14, 21, 15), (0, 14, 25, 17)]
abbrev hh_byteOf : List (Nat × Nat × Nat × Nat) := [(0, 10, 13, 23), (0, 10, 17, 13), (0, 10, 21, 17)]
abbrev hh_note : List (Nat × Nat × Nat × Nat) := [(0, 12, 15, 23), (0, 12, 19, 13), (0, 12, 23, 17)]
abbrev hh_crop : List (Nat × Nat × Nat × Nat) := [(0, 14, 17, 13)]
abbrev hh_near : List (Nat × Nat × Nat × Nat) := [(0, 9, 12, 23), (0, 9, 15, 15)]
abbrev hh_turn : List (Nat × Nat × Nat × Nat) := [(0, 9, 12, 13)]
abbrev hh_join : List (Nat × Nat × Nat × Nat) := [(0, 9, 12, 23), (0, 9, 15, 15), (0, 9, 18, 17)]
abbrev hh_at : List (Nat × Nat × Nat × Nat) := [(0, 10, 13, 23)]
abbrev hh_byteAt : List (Nat × Nat × Nat × Nat) := [(0, 10, 13, 23)]
abbrev hh_shown : List (Nat × Nat × Nat × Nat) := [(0, 10, 13, 23)]
abbrev hh_noteAt : List (Nat × Nat × Nat × Nat) := [(0, 10, 13, 23)]
abbrev hh_streamAt : List (Nat × Nat × Nat × Nat) := [(0, 9, 12, 23)]
abbrev hh_pointer : List (Nat × Nat × Nat × Nat) := [(0, 9, 12, 23)]
theorem wq_L_8 : Cond.classLink "LossFreeToolsLaw" 8 "LossFreeTools" ∈ ax_tb := ax_tb_in (i := 31) (by decide +kernel) (by decide +kernel)
theorem wq_L_13 : Cond.classLink "LossFreeToolsLaw" 13 "java/lang/IllegalArgumentException" ∈ ax_tb := ax_tb_in (i := 256) (by decide +kernel) (by decide +kernel)
theorem wq_L_15 : Cond.classLink "LossFreeToolsLaw" 15 "java/lang/IllegalStateException" ∈ ax_tb := ax_tb_in (i := 257) (by decide +kernel) (by decide +kernel)
theorem wq_L_17 : Cond.classLink "LossFreeToolsLaw" 17 "java/lang/UnsupportedOperationException" ∈ ax_tb := ax_tb_in (i := 258) (by decide +kernel) (by decide +kernel)
theorem wq_L_23 : Cond.classLink "LossFreeToolsLaw" 23 "java/lang/IndexOutOfBoundsException" ∈ ax_tb := ax_tb_in (i := 387) (by decide +kernel) (by decide +kernel)
theorem wq_L_69 : Cond.classLink "LossFreeToolsLaw" 69 "LossFreeToolsModel" ∈ ax_tb := ax_tb_in (i := 662) (by decide +kernel) (by decide +kernel)
theorem wn_LossFreeToolsLaw : Cond.initialized "LossFreeToolsLaw" ∈ ax_tb := ax_tb_in (i := 16) (by decide +kernel) (by decide +kernel)
theorem wcw_L_tile : Cond.codeWith y_L_tile b_L_tile 7 (some .int) hh_tile ∈ ax_tb := ax_tb_in (i := 255) (by decide +kernel) (by decide +kernel)
theorem wt_L_tile : Cond.static y_L_tile ∈ ax_tb := ax_tb_in (i := 254) (by decide +kernel) (by decide +kernel)
theorem wc_K_tile : Cond.code y_K_tile b_K_tile 5 (some .int) ∈ ax_tb := ax_tb_in (i := 262) (by decide +kernel) (by decide +kernel)
theorem wi_K_tile : Cond.instanceMethod y_K_tile ∈ ax_tb := ax_tb_in (i := 260) (by decide +kernel) (by decide +kernel)
theorem ws_K_tile : Cond.selects "LossFreeTools" y_K_tile y_K_tile ∈ ax_tb := ax_tb_in (i := 261) (by decide +kernel) (by decide +kernel)
theorem wl_L_7 : Cond.methodLink "LossFreeToolsLaw" 7 y_K_tile ∈ ax_tb := ax_tb_in (i := 259) (by decide +kernel) (by decide +kernel)
theorem wcw_L_byteOf : Cond.codeWith y_L_byteOf b_L_byteOf 5 (some .int) hh_byteOf ∈ ax_tb := ax_tb_in (i := 386) (by decide +kernel) (by decide +kernel)
theorem wt_L_byteOf : Cond.static y_L_byteOf ∈ ax_tb := ax_tb_in (i := 385) (by decide +kernel) (by decide +kernel)
theorem wc_K_byteOf : Cond.code y_K_byteOf b_K_byteOf 4 (some .int) ∈ ax_tb := ax_tb_in (i := 391) (by decide +kernel) (by decide +kernel)
theorem wi_K_byteOf : Cond.instanceMethod y_K_byteOf ∈ ax_tb := ax_tb_in (i := 389) (by decide +kernel) (by decide +kernel)
theorem ws_K_byteOf : Cond.selects "LossFreeTools" y_K_byteOf y_K_byteOf ∈ ax_tb := ax_tb_in (i := 390) (by decide +kernel) (by decide +kernel)
theorem wl_L_19 : Cond.methodLink "LossFreeToolsLaw" 19 y_K_byteOf ∈ ax_tb := ax_tb_in (i := 388) (by decide +kernel) (by decide +kernel)
theorem wcw_L_note : Cond.codeWith y_L_note b_L_note 6 (some .int) hh_note ∈ ax_tb := ax_tb_in (i := 423) (by decide +kernel) (by decide +kernel)
theorem wt_L_note : Cond.static y_L_note ∈ ax_tb := ax_tb_in (i := 422) (by decide +kernel) (by decide +kernel)
theorem wc_K_note : Cond.code y_K_note b_K_note 4 (some .int) ∈ ax_tb := ax_tb_in (i := 427) (by decide +kernel) (by decide +kernel)
theorem wi_K_note : Cond.instanceMethod y_K_note ∈ ax_tb := ax_tb_in (i := 425) (by decide +kernel) (by decide +kernel)
theorem ws_K_note : Cond.selects "LossFreeTools" y_K_note y_K_note ∈ ax_tb := ax_tb_in (i := 426) (by decide +kernel) (by decide +kernel)
theorem wl_L_25 : Cond.methodLink "LossFreeToolsLaw" 25 y_K_note ∈ ax_tb := ax_tb_in (i := 424) (by decide +kernel) (by decide +kernel)
theorem wcw_L_crop : Cond.codeWith y_L_crop b_L_crop 7 (some .int) hh_crop ∈ ax_tb := ax_tb_in (i := 444) (by decide +kernel) (by decide +kernel)
theorem wt_L_crop : Cond.static y_L_crop ∈ ax_tb := ax_tb_in (i := 443) (by decide +kernel) (by decide +kernel)
theorem wc_K_crop : Cond.code y_K_crop b_K_crop 5 (some .int) ∈ ax_tb := ax_tb_in (i := 448) (by decide +kernel) (by decide +kernel)
theorem wi_K_crop : Cond.instanceMethod y_K_crop ∈ ax_tb := ax_tb_in (i := 446) (by decide +kernel) (by decide +kernel)
theorem ws_K_crop : Cond.selects "LossFreeTools" y_K_crop y_K_crop ∈ ax_tb := ax_tb_in (i := 447) (by decide +kernel) (by decide +kernel)
theorem wl_L_29 : Cond.methodLink "LossFreeToolsLaw" 29 y_K_crop ∈ ax_tb := ax_tb_in (i := 445) (by decide +kernel) (by decide +kernel)
theorem wcw_L_near : Cond.codeWith y_L_near b_L_near 4 (some .int) hh_near ∈ ax_tb := ax_tb_in (i := 499) (by decide +kernel) (by decide +kernel)
theorem wt_L_near : Cond.static y_L_near ∈ ax_tb := ax_tb_in (i := 498) (by decide +kernel) (by decide +kernel)
theorem wc_K_near : Cond.code y_K_near b_K_near 2 (some .int) ∈ ax_tb := ax_tb_in (i := 503) (by decide +kernel) (by decide +kernel)
theorem wi_K_near : Cond.instanceMethod y_K_near ∈ ax_tb := ax_tb_in (i := 501) (by decide +kernel) (by decide +kernel)
theorem ws_K_near : Cond.selects "LossFreeTools" y_K_near y_K_near ∈ ax_tb := ax_tb_in (i := 502) (by decide +kernel) (by decide +kernel)
theorem wl_L_32 : Cond.methodLink "LossFreeToolsLaw" 32 y_K_near ∈ ax_tb := ax_tb_in (i := 500) (by decide +kernel) (by decide +kernel)
theorem wcw_L_turn : Cond.codeWith y_L_turn b_L_turn 4 (some .int) hh_turn ∈ ax_tb := ax_tb_in (i := 520) (by decide +kernel) (by decide +kernel)
theorem wt_L_turn : Cond.static y_L_turn ∈ ax_tb := ax_tb_in (i := 519) (by decide +kernel) (by decide +kernel)
theorem wc_K_turn : Cond.code y_K_turn b_K_turn 2 (some .int) ∈ ax_tb := ax_tb_in (i := 524) (by decide +kernel) (by decide +kernel)
theorem wi_K_turn : Cond.instanceMethod y_K_turn ∈ ax_tb := ax_tb_in (i := 522) (by decide +kernel) (by decide +kernel)
theorem ws_K_turn : Cond.selects "LossFreeTools" y_K_turn y_K_turn ∈ ax_tb := ax_tb_in (i := 523) (by decide +kernel) (by decide +kernel)
theorem wl_L_36 : Cond.methodLink "LossFreeToolsLaw" 36 y_K_turn ∈ ax_tb := ax_tb_in (i := 521) (by decide +kernel) (by decide +kernel)
theorem wcw_L_join : Cond.codeWith y_L_join b_L_join 4 (some .int) hh_join ∈ ax_tb := ax_tb_in (i := 568) (by decide +kernel) (by decide +kernel)
theorem wt_L_join : Cond.static y_L_join ∈ ax_tb := ax_tb_in (i := 567) (by decide +kernel) (by decide +kernel)
