theorem wl_L_131 : Cond.methodLink "LossFreeToolsLaw" 131 y_K_clear ∈ ax_tb := ax_tb_in (i := 242) (by decide +kernel) (by decide +kernel)
theorem wc_K_clear : Cond.code y_K_clear b_K_clear 1 none ∈ ax_tb := ax_tb_in (i := 245) (by decide +kernel) (by decide +kernel)
theorem wi_K_clear : Cond.instanceMethod y_K_clear ∈ ax_tb := ax_tb_in (i := 243) (by decide +kernel) (by decide +kernel)
theorem ws_K_clear : Cond.selects "LossFreeTools" y_K_clear y_K_clear ∈ ax_tb := ax_tb_in (i := 244) (by decide +kernel) (by decide +kernel)
theorem wl_L_134 : Cond.methodLink "LossFreeToolsLaw" 134 y_M_clear ∈ ax_tb := ax_tb_in (i := 746) (by decide +kernel) (by decide +kernel)
theorem wz_K : Cond.instantiable "LossFreeTools" 8 ∈ ax_tb := ax_tb_in (i := 32) (by decide +kernel) (by decide +kernel)
theorem wl_L_60 : Cond.methodLink "LossFreeToolsLaw" 60 y_L_cell ∈ ax_tb := ax_tb_in (i := 250) (by decide +kernel) (by decide +kernel)
theorem wc_K_init : Cond.code y_K_init b_K_init 3 none ∈ ax_tb := ax_tb_in (i := 35) (by decide +kernel) (by decide +kernel)
theorem wi_K_init : Cond.instanceMethod y_K_init ∈ ax_tb := ax_tb_in (i := 34) (by decide +kernel) (by decide +kernel)
theorem wl_L_66 : Cond.methodLink "LossFreeToolsLaw" 66 y_K_init ∈ ax_tb := ax_tb_in (i := 33) (by decide +kernel) (by decide +kernel)
theorem wz_M : Cond.instantiable "LossFreeToolsModel" 23 ∈ ax_tb := ax_tb_in (i := 663) (by decide +kernel) (by decide +kernel)
theorem wc_M_init : Cond.code y_M_init b_M_init 3 none ∈ ax_tb := ax_tb_in (i := 666) (by decide +kernel) (by decide +kernel)
theorem wi_M_init : Cond.instanceMethod y_M_init ∈ ax_tb := ax_tb_in (i := 665) (by decide +kernel) (by decide +kernel)
theorem wl_L_71 : Cond.methodLink "LossFreeToolsLaw" 71 y_M_init ∈ ax_tb := ax_tb_in (i := 664) (by decide +kernel) (by decide +kernel)
theorem mt_K_tile : ax_mt y_K_tile b_K_tile 5 (some .int) 4 := ⟨wc_K_tile, wn_LossFreeTools, by decide +kernel, by decide +kernel, by decide +kernel⟩
theorem mt_K_byteOf : ax_mt y_K_byteOf b_K_byteOf 4 (some .int) 2 := ⟨wc_K_byteOf, wn_LossFreeTools, by decide +kernel, by decide +kernel, by decide +kernel⟩
theorem mt_K_note : ax_mt y_K_note b_K_note 4 (some .int) 3 := ⟨wc_K_note, wn_LossFreeTools, by decide +kernel, by decide +kernel, by decide +kernel⟩
theorem mt_K_crop : ax_mt y_K_crop b_K_crop 5 (some .int) 4 := ⟨wc_K_crop, wn_LossFreeTools, by decide +kernel, by decide +kernel, by decide +kernel⟩
theorem mt_K_near : ax_mt y_K_near b_K_near 2 (some .int) 1 := ⟨wc_K_near, wn_LossFreeTools, by decide +kernel, by decide +kernel, by decide +kernel⟩
theorem mt_K_turn : ax_mt y_K_turn b_K_turn 2 (some .int) 1 := ⟨wc_K_turn, wn_LossFreeTools, by decide +kernel, by decide +kernel, by decide +kernel⟩
theorem mt_K_join : ax_mt y_K_join b_K_join 3 (some .int) 1 := ⟨wc_K_join, wn_LossFreeTools, by decide +kernel, by decide +kernel, by decide +kernel⟩
theorem mt_K_at : ax_mt y_K_at b_K_at 4 (some .int) 2 := ⟨wc_K_at, wn_LossFreeTools, by decide +kernel, by decide +kernel, by decide +kernel⟩
theorem mt_K_byteAt : ax_mt y_K_byteAt b_K_byteAt 4 (some .int) 2 := ⟨wc_K_byteAt, wn_LossFreeTools, by decide +kernel, by decide +kernel, by decide +kernel⟩
theorem mt_K_shown : ax_mt y_K_shown b_K_shown 4 (some .int) 2 := ⟨wc_K_shown, wn_LossFreeTools, by decide +kernel, by decide +kernel, by decide +kernel⟩
theorem mt_K_noteAt : ax_mt y_K_noteAt b_K_noteAt 4 (some .int) 2 := ⟨wc_K_noteAt, wn_LossFreeTools, by decide +kernel, by decide +kernel, by decide +kernel⟩
theorem mt_K_streamAt : ax_mt y_K_streamAt b_K_streamAt 2 (some .int) 1 := ⟨wc_K_streamAt, wn_LossFreeTools, by decide +kernel, by decide +kernel, by decide +kernel⟩
theorem mt_K_pointer : ax_mt y_K_pointer b_K_pointer 2 (some .int) 1 := ⟨wc_K_pointer, wn_LossFreeTools, by decide +kernel, by decide +kernel, by decide +kernel⟩
theorem mt_L_cell : ax_mt y_L_cell b_L_cell 2 (some .int) 2 := ⟨wc_L_cell, wn_LossFreeToolsLaw, by decide +kernel, by decide +kernel, by decide +kernel⟩
theorem mt_M_tile : ax_mt y_M_tile b_M_tile 8 (some .int) 4 := ⟨wc_M_tile, wn_LossFreeToolsModel, by decide +kernel, by decide +kernel, by decide +kernel⟩
theorem mt_M_thrown : ax_mt y_M_thrown b_M_thrown 1 (some .int) 0 := ⟨wc_M_thrown, wn_LossFreeToolsModel, by decide +kernel, by decide +kernel, by decide +kernel⟩
theorem mt_M_byteOf : ax_mt y_M_byteOf b_M_byteOf 4 (some .int) 2 := ⟨wc_M_byteOf, wn_LossFreeToolsModel, by decide +kernel, by decide +kernel, by decide +kernel⟩
theorem mt_M_note : ax_mt y_M_note b_M_note 5 (some .int) 3 := ⟨wc_M_note, wn_LossFreeToolsModel, by decide +kernel, by decide +kernel, by decide +kernel⟩
theorem mt_M_crop : ax_mt y_M_crop b_M_crop 8 (some .int) 4 := ⟨wc_M_crop, wn_LossFreeToolsModel, by decide +kernel, by decide +kernel, by decide +kernel⟩
theorem mt_M_near : ax_mt y_M_near b_M_near 2 (some .int) 1 := ⟨wc_M_near, wn_LossFreeToolsModel, by decide +kernel, by decide +kernel, by decide +kernel⟩
theorem mt_M_turn : ax_mt y_M_turn b_M_turn 9 (some .int) 1 := ⟨wc_M_turn, wn_LossFreeToolsModel, by decide +kernel, by decide +kernel, by decide +kernel⟩
theorem mt_K_swap : ax_mt y_K_swap b_K_swap 2 (some .int) 0 := ⟨wc_K_swap, wn_LossFreeTools, by decide +kernel, by decide +kernel, by decide +kernel⟩
theorem mt_M_swap : ax_mt y_M_swap b_M_swap 1 (some .int) 0 := ⟨wc_M_swap, wn_LossFreeToolsModel, by decide +kernel, by decide +kernel, by decide +kernel⟩
theorem mt_M_join : ax_mt y_M_join b_M_join 12 (some .int) 1 := ⟨wc_M_join, wn_LossFreeToolsModel, by decide +kernel, by decide +kernel, by decide +kernel⟩
theorem mt_M_at : ax_mt y_M_at b_M_at 5 (some .int) 2 := ⟨wc_M_at, wn_LossFreeToolsModel, by decide +kernel, by decide +kernel, by decide +kernel⟩
theorem mt_M_byteAt : ax_mt y_M_byteAt b_M_byteAt 3 (some .int) 2 := ⟨wc_M_byteAt, wn_LossFreeToolsModel, by decide +kernel, by decide +kernel, by decide +kernel⟩
theorem mt_M_shown : ax_mt y_M_shown b_M_shown 7 (some .int) 2 := ⟨wc_M_shown, wn_LossFreeToolsModel, by decide +kernel, by decide +kernel, by decide +kernel⟩
theorem mt_M_noteAt : ax_mt y_M_noteAt b_M_noteAt 4 (some .int) 2 := ⟨wc_M_noteAt, wn_LossFreeToolsModel, by decide +kernel, by decide +kernel, by decide +kernel⟩
theorem mt_K_write : ax_mt y_K_write b_K_write 3 (some .int) 0 := ⟨wc_K_write, wn_LossFreeTools, by decide +kernel, by decide +kernel, by decide +kernel⟩
theorem mt_M_write : ax_mt y_M_write b_M_write 3 (some .int) 0 := ⟨wc_M_write, wn_LossFreeToolsModel, by decide +kernel, by decide +kernel, by decide +kernel⟩
theorem mt_M_streamAt : ax_mt y_M_streamAt b_M_streamAt 2 (some .int) 1 := ⟨wc_M_streamAt, wn_LossFreeToolsModel, by decide +kernel, by decide +kernel, by decide +kernel⟩
theorem mt_M_pointer : ax_mt y_M_pointer b_M_pointer 2 (some .int) 1 := ⟨wc_M_pointer, wn_LossFreeToolsModel, by decide +kernel, by decide +kernel, by decide +kernel⟩
theorem mt_K_told : ax_mt y_K_told b_K_told 2 (some .int) 1 := ⟨wc_K_told, wn_LossFreeTools, by decide +kernel, by decide +kernel, by decide +kernel⟩
theorem mt_M_told : ax_mt y_M_told b_M_told 3 (some .int) 1 := ⟨wc_M_told, wn_LossFreeToolsModel, by decide +kernel, by decide +kernel, by decide +kernel⟩
theorem mt_K_clear : ax_mt y_K_clear b_K_clear 1 none 0 := ⟨wc_K_clear, wn_LossFreeTools, by decide +kernel, by decide +kernel, by decide +kernel⟩
theorem mt_K_init : ax_mt y_K_init b_K_init 3 none 2 := ⟨wc_K_init, wn_LossFreeTools, by decide +kernel, by decide +kernel, by decide +kernel⟩
theorem mt_M_init : ax_mt y_M_init b_M_init 3 none 2 := ⟨wc_M_init, wn_LossFreeToolsModel, by decide +kernel, by decide +kernel, by decide +kernel⟩
