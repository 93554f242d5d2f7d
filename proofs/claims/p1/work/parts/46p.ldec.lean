theorem dc_L_tile_0 : decode b_L_tile 0 = .ok (.aload 5, 2) := by decide +kernel
theorem dc_L_tile_2 : decode b_L_tile 2 = .ok (.iconst 0, 1) := by decide +kernel
theorem dc_L_tile_3 : decode b_L_tile 3 = .ok (.aload_n 0, 1) := by decide +kernel
theorem dc_L_tile_4 : decode b_L_tile 4 = .ok (.iload_n 1, 1) := by decide +kernel
theorem dc_L_tile_5 : decode b_L_tile 5 = .ok (.iload_n 2, 1) := by decide +kernel
theorem dc_L_tile_6 : decode b_L_tile 6 = .ok (.iload_n 3, 1) := by decide +kernel
theorem dc_L_tile_7 : decode b_L_tile 7 = .ok (.iload 4, 2) := by decide +kernel
theorem dc_L_tile_9 : decode b_L_tile 9 = .ok (.invokevirtual 7, 3) := by decide +kernel
theorem dc_L_tile_12 : decode b_L_tile 12 = .ok (.i2l, 1) := by decide +kernel
theorem dc_L_tile_13 : decode b_L_tile 13 = .ok (.lastore, 1) := by decide +kernel
theorem dc_L_tile_14 : decode b_L_tile 14 = .ok (.goto 15, 3) := by decide +kernel
theorem dc_L_tile_29 : decode b_L_tile 29 = .ok (.iconst 0, 1) := by decide +kernel
theorem dc_L_tile_30 : decode b_L_tile 30 = .ok (.ireturn, 1) := by decide +kernel
theorem dc_L_tile_17 : decode b_L_tile 17 = .ok (.astore 6, 2) := by decide +kernel
theorem dc_L_tile_19 : decode b_L_tile 19 = .ok (.iconst 1, 1) := by decide +kernel
theorem dc_L_tile_20 : decode b_L_tile 20 = .ok (.ireturn, 1) := by decide +kernel
theorem dc_L_tile_21 : decode b_L_tile 21 = .ok (.astore 6, 2) := by decide +kernel
theorem dc_L_tile_23 : decode b_L_tile 23 = .ok (.iconst 2, 1) := by decide +kernel
theorem dc_L_tile_24 : decode b_L_tile 24 = .ok (.ireturn, 1) := by decide +kernel
theorem dc_L_tile_25 : decode b_L_tile 25 = .ok (.astore 6, 2) := by decide +kernel
theorem dc_L_tile_27 : decode b_L_tile 27 = .ok (.iconst 3, 1) := by decide +kernel
theorem dc_L_tile_28 : decode b_L_tile 28 = .ok (.ireturn, 1) := by decide +kernel
theorem dc_L_byteOf_0 : decode b_L_byteOf 0 = .ok (.aload_n 3, 1) := by decide +kernel
theorem dc_L_byteOf_1 : decode b_L_byteOf 1 = .ok (.iconst 0, 1) := by decide +kernel
theorem dc_L_byteOf_2 : decode b_L_byteOf 2 = .ok (.aload_n 0, 1) := by decide +kernel
theorem dc_L_byteOf_3 : decode b_L_byteOf 3 = .ok (.iload_n 1, 1) := by decide +kernel
theorem dc_L_byteOf_4 : decode b_L_byteOf 4 = .ok (.iload_n 2, 1) := by decide +kernel
theorem dc_L_byteOf_5 : decode b_L_byteOf 5 = .ok (.invokevirtual 19, 3) := by decide +kernel
theorem dc_L_byteOf_8 : decode b_L_byteOf 8 = .ok (.i2l, 1) := by decide +kernel
theorem dc_L_byteOf_9 : decode b_L_byteOf 9 = .ok (.lastore, 1) := by decide +kernel
theorem dc_L_byteOf_10 : decode b_L_byteOf 10 = .ok (.goto 15, 3) := by decide +kernel
theorem dc_L_byteOf_25 : decode b_L_byteOf 25 = .ok (.iconst 0, 1) := by decide +kernel
theorem dc_L_byteOf_26 : decode b_L_byteOf 26 = .ok (.ireturn, 1) := by decide +kernel
theorem dc_L_byteOf_13 : decode b_L_byteOf 13 = .ok (.astore 4, 2) := by decide +kernel
theorem dc_L_byteOf_15 : decode b_L_byteOf 15 = .ok (.iconst 1, 1) := by decide +kernel
theorem dc_L_byteOf_16 : decode b_L_byteOf 16 = .ok (.ireturn, 1) := by decide +kernel
theorem dc_L_byteOf_17 : decode b_L_byteOf 17 = .ok (.astore 4, 2) := by decide +kernel
theorem dc_L_byteOf_19 : decode b_L_byteOf 19 = .ok (.iconst 2, 1) := by decide +kernel
theorem dc_L_byteOf_20 : decode b_L_byteOf 20 = .ok (.ireturn, 1) := by decide +kernel
theorem dc_L_byteOf_21 : decode b_L_byteOf 21 = .ok (.astore 4, 2) := by decide +kernel
theorem dc_L_byteOf_23 : decode b_L_byteOf 23 = .ok (.iconst 3, 1) := by decide +kernel
theorem dc_L_byteOf_24 : decode b_L_byteOf 24 = .ok (.ireturn, 1) := by decide +kernel
theorem dc_L_note_0 : decode b_L_note 0 = .ok (.aload 4, 2) := by decide +kernel
theorem dc_L_note_2 : decode b_L_note 2 = .ok (.iconst 0, 1) := by decide +kernel
theorem dc_L_note_3 : decode b_L_note 3 = .ok (.aload_n 0, 1) := by decide +kernel
theorem dc_L_note_4 : decode b_L_note 4 = .ok (.iload_n 1, 1) := by decide +kernel
theorem dc_L_note_5 : decode b_L_note 5 = .ok (.iload_n 2, 1) := by decide +kernel
theorem dc_L_note_6 : decode b_L_note 6 = .ok (.iload_n 3, 1) := by decide +kernel
theorem dc_L_note_7 : decode b_L_note 7 = .ok (.invokevirtual 25, 3) := by decide +kernel
theorem dc_L_note_10 : decode b_L_note 10 = .ok (.i2l, 1) := by decide +kernel
theorem dc_L_note_11 : decode b_L_note 11 = .ok (.lastore, 1) := by decide +kernel
theorem dc_L_note_12 : decode b_L_note 12 = .ok (.goto 15, 3) := by decide +kernel
theorem dc_L_note_27 : decode b_L_note 27 = .ok (.iconst 0, 1) := by decide +kernel
theorem dc_L_note_28 : decode b_L_note 28 = .ok (.ireturn, 1) := by decide +kernel
theorem dc_L_note_15 : decode b_L_note 15 = .ok (.astore 5, 2) := by decide +kernel
theorem dc_L_note_17 : decode b_L_note 17 = .ok (.iconst 1, 1) := by decide +kernel
theorem dc_L_note_18 : decode b_L_note 18 = .ok (.ireturn, 1) := by decide +kernel
theorem dc_L_note_19 : decode b_L_note 19 = .ok (.astore 5, 2) := by decide +kernel
theorem dc_L_note_21 : decode b_L_note 21 = .ok (.iconst 2, 1) := by decide +kernel
theorem dc_L_note_22 : decode b_L_note 22 = .ok (.ireturn, 1) := by decide +kernel
theorem dc_L_note_23 : decode b_L_note 23 = .ok (.astore 5, 2) := by decide +kernel
theorem dc_L_note_25 : decode b_L_note 25 = .ok (.iconst 3, 1) := by decide +kernel
theorem dc_L_note_26 : decode b_L_note 26 = .ok (.ireturn, 1) := by decide +kernel
theorem dc_L_crop_0 : decode b_L_crop 0 = .ok (.aload 5, 2) := by decide +kernel
theorem dc_L_crop_2 : decode b_L_crop 2 = .ok (.iconst 0, 1) := by decide +kernel
theorem dc_L_crop_3 : decode b_L_crop 3 = .ok (.aload_n 0, 1) := by decide +kernel
theorem dc_L_crop_4 : decode b_L_crop 4 = .ok (.iload_n 1, 1) := by decide +kernel
theorem dc_L_crop_5 : decode b_L_crop 5 = .ok (.iload_n 2, 1) := by decide +kernel
theorem dc_L_crop_6 : decode b_L_crop 6 = .ok (.iload_n 3, 1) := by decide +kernel
theorem dc_L_crop_7 : decode b_L_crop 7 = .ok (.iload 4, 2) := by decide +kernel
theorem dc_L_crop_9 : decode b_L_crop 9 = .ok (.invokevirtual 29, 3) := by decide +kernel
theorem dc_L_crop_12 : decode b_L_crop 12 = .ok (.i2l, 1) := by decide +kernel
theorem dc_L_crop_13 : decode b_L_crop 13 = .ok (.lastore, 1) := by decide +kernel
theorem dc_L_crop_14 : decode b_L_crop 14 = .ok (.goto 7, 3) := by decide +kernel
theorem dc_L_crop_21 : decode b_L_crop 21 = .ok (.iconst 0, 1) := by decide +kernel
theorem dc_L_crop_22 : decode b_L_crop 22 = .ok (.ireturn, 1) := by decide +kernel
theorem dc_L_crop_17 : decode b_L_crop 17 = .ok (.astore 6, 2) := by decide +kernel
theorem dc_L_crop_19 : decode b_L_crop 19 = .ok (.iconst 1, 1) := by decide +kernel
theorem dc_L_crop_20 : decode b_L_crop 20 = .ok (.ireturn, 1) := by decide +kernel
theorem dc_L_near_0 : decode b_L_near 0 = .ok (.aload_n 2, 1) := by decide +kernel
theorem dc_L_near_1 : decode b_L_near 1 = .ok (.iconst 0, 1) := by decide +kernel
theorem dc_L_near_2 : decode b_L_near 2 = .ok (.aload_n 0, 1) := by decide +kernel
theorem dc_L_near_3 : decode b_L_near 3 = .ok (.iload_n 1, 1) := by decide +kernel
theorem dc_L_near_4 : decode b_L_near 4 = .ok (.invokevirtual 32, 3) := by decide +kernel
theorem dc_L_near_7 : decode b_L_near 7 = .ok (.i2l, 1) := by decide +kernel
theorem dc_L_near_8 : decode b_L_near 8 = .ok (.lastore, 1) := by decide +kernel
theorem dc_L_near_9 : decode b_L_near 9 = .ok (.goto 9, 3) := by decide +kernel
theorem dc_L_near_18 : decode b_L_near 18 = .ok (.iconst 0, 1) := by decide +kernel
theorem dc_L_near_19 : decode b_L_near 19 = .ok (.ireturn, 1) := by decide +kernel
theorem dc_L_near_12 : decode b_L_near 12 = .ok (.astore_n 3, 1) := by decide +kernel
theorem dc_L_near_13 : decode b_L_near 13 = .ok (.iconst 1, 1) := by decide +kernel
theorem dc_L_near_14 : decode b_L_near 14 = .ok (.ireturn, 1) := by decide +kernel
theorem dc_L_near_15 : decode b_L_near 15 = .ok (.astore_n 3, 1) := by decide +kernel
theorem dc_L_near_16 : decode b_L_near 16 = .ok (.iconst 2, 1) := by decide +kernel
theorem dc_L_near_17 : decode b_L_near 17 = .ok (.ireturn, 1) := by decide +kernel
theorem dc_L_turn_0 : decode b_L_turn 0 = .ok (.aload_n 2, 1) := by decide +kernel
theorem dc_L_turn_1 : decode b_L_turn 1 = .ok (.iconst 0, 1) := by decide +kernel
theorem dc_L_turn_2 : decode b_L_turn 2 = .ok (.aload_n 0, 1) := by decide +kernel
theorem dc_L_turn_3 : decode b_L_turn 3 = .ok (.iload_n 1, 1) := by decide +kernel
theorem dc_L_turn_4 : decode b_L_turn 4 = .ok (.invokevirtual 36, 3) := by decide +kernel
theorem dc_L_turn_7 : decode b_L_turn 7 = .ok (.i2l, 1) := by decide +kernel
theorem dc_L_turn_8 : decode b_L_turn 8 = .ok (.lastore, 1) := by decide +kernel
theorem dc_L_turn_9 : decode b_L_turn 9 = .ok (.goto 6, 3) := by decide +kernel
theorem dc_L_turn_15 : decode b_L_turn 15 = .ok (.iconst 0, 1) := by decide +kernel
theorem dc_L_turn_16 : decode b_L_turn 16 = .ok (.ireturn, 1) := by decide +kernel
theorem dc_L_turn_12 : decode b_L_turn 12 = .ok (.astore_n 3, 1) := by decide +kernel
theorem dc_L_turn_13 : decode b_L_turn 13 = .ok (.iconst 1, 1) := by decide +kernel
theorem dc_L_turn_14 : decode b_L_turn 14 = .ok (.ireturn, 1) := by decide +kernel
theorem dc_L_join_0 : decode b_L_join 0 = .ok (.aload_n 2, 1) := by decide +kernel
theorem dc_L_join_1 : decode b_L_join 1 = .ok (.iconst 0, 1) := by decide +kernel
theorem dc_L_join_2 : decode b_L_join 2 = .ok (.aload_n 0, 1) := by decide +kernel
theorem dc_L_join_3 : decode b_L_join 3 = .ok (.iload_n 1, 1) := by decide +kernel
theorem dc_L_join_4 : decode b_L_join 4 = .ok (.invokevirtual 39, 3) := by decide +kernel
theorem dc_L_join_7 : decode b_L_join 7 = .ok (.i2l, 1) := by decide +kernel
theorem dc_L_join_8 : decode b_L_join 8 = .ok (.lastore, 1) := by decide +kernel
theorem dc_L_join_9 : decode b_L_join 9 = .ok (.goto 12, 3) := by decide +kernel
theorem dc_L_join_21 : decode b_L_join 21 = .ok (.iconst 0, 1) := by decide +kernel
theorem dc_L_join_22 : decode b_L_join 22 = .ok (.ireturn, 1) := by decide +kernel
theorem dc_L_join_12 : decode b_L_join 12 = .ok (.astore_n 3, 1) := by decide +kernel
theorem dc_L_join_13 : decode b_L_join 13 = .ok (.iconst 1, 1) := by decide +kernel
theorem dc_L_join_14 : decode b_L_join 14 = .ok (.ireturn, 1) := by decide +kernel
theorem dc_L_join_15 : decode b_L_join 15 = .ok (.astore_n 3, 1) := by decide +kernel
theorem dc_L_join_16 : decode b_L_join 16 = .ok (.iconst 2, 1) := by decide +kernel
theorem dc_L_join_17 : decode b_L_join 17 = .ok (.ireturn, 1) := by decide +kernel
theorem dc_L_join_18 : decode b_L_join 18 = .ok (.astore_n 3, 1) := by decide +kernel
theorem dc_L_join_19 : decode b_L_join 19 = .ok (.iconst 3, 1) := by decide +kernel
theorem dc_L_join_20 : decode b_L_join 20 = .ok (.ireturn, 1) := by decide +kernel
theorem dc_L_at_0 : decode b_L_at 0 = .ok (.aload_n 3, 1) := by decide +kernel
theorem dc_L_at_1 : decode b_L_at 1 = .ok (.iconst 0, 1) := by decide +kernel
theorem dc_L_at_2 : decode b_L_at 2 = .ok (.aload_n 0, 1) := by decide +kernel
theorem dc_L_at_3 : decode b_L_at 3 = .ok (.iload_n 1, 1) := by decide +kernel
theorem dc_L_at_4 : decode b_L_at 4 = .ok (.iload_n 2, 1) := by decide +kernel
theorem dc_L_at_5 : decode b_L_at 5 = .ok (.invokevirtual 42, 3) := by decide +kernel
theorem dc_L_at_8 : decode b_L_at 8 = .ok (.i2l, 1) := by decide +kernel
theorem dc_L_at_9 : decode b_L_at 9 = .ok (.lastore, 1) := by decide +kernel
theorem dc_L_at_10 : decode b_L_at 10 = .ok (.goto 7, 3) := by decide +kernel
theorem dc_L_at_17 : decode b_L_at 17 = .ok (.iconst 0, 1) := by decide +kernel
theorem dc_L_at_18 : decode b_L_at 18 = .ok (.ireturn, 1) := by decide +kernel
theorem dc_L_at_13 : decode b_L_at 13 = .ok (.astore 4, 2) := by decide +kernel
theorem dc_L_at_15 : decode b_L_at 15 = .ok (.iconst 1, 1) := by decide +kernel
theorem dc_L_at_16 : decode b_L_at 16 = .ok (.ireturn, 1) := by decide +kernel
theorem dc_L_byteAt_0 : decode b_L_byteAt 0 = .ok (.aload_n 3, 1) := by decide +kernel
theorem dc_L_byteAt_1 : decode b_L_byteAt 1 = .ok (.iconst 0, 1) := by decide +kernel
theorem dc_L_byteAt_2 : decode b_L_byteAt 2 = .ok (.aload_n 0, 1) := by decide +kernel
theorem dc_L_byteAt_3 : decode b_L_byteAt 3 = .ok (.iload_n 1, 1) := by decide +kernel
theorem dc_L_byteAt_4 : decode b_L_byteAt 4 = .ok (.iload_n 2, 1) := by decide +kernel
theorem dc_L_byteAt_5 : decode b_L_byteAt 5 = .ok (.invokevirtual 45, 3) := by decide +kernel
theorem dc_L_byteAt_8 : decode b_L_byteAt 8 = .ok (.i2l, 1) := by decide +kernel
theorem dc_L_byteAt_9 : decode b_L_byteAt 9 = .ok (.lastore, 1) := by decide +kernel
theorem dc_L_byteAt_10 : decode b_L_byteAt 10 = .ok (.goto 7, 3) := by decide +kernel
theorem dc_L_byteAt_17 : decode b_L_byteAt 17 = .ok (.iconst 0, 1) := by decide +kernel
theorem dc_L_byteAt_18 : decode b_L_byteAt 18 = .ok (.ireturn, 1) := by decide +kernel
theorem dc_L_byteAt_13 : decode b_L_byteAt 13 = .ok (.astore 4, 2) := by decide +kernel
theorem dc_L_byteAt_15 : decode b_L_byteAt 15 = .ok (.iconst 1, 1) := by decide +kernel
theorem dc_L_byteAt_16 : decode b_L_byteAt 16 = .ok (.ireturn, 1) := by decide +kernel
theorem dc_L_shown_0 : decode b_L_shown 0 = .ok (.aload_n 3, 1) := by decide +kernel
theorem dc_L_shown_1 : decode b_L_shown 1 = .ok (.iconst 0, 1) := by decide +kernel
theorem dc_L_shown_2 : decode b_L_shown 2 = .ok (.aload_n 0, 1) := by decide +kernel
theorem dc_L_shown_3 : decode b_L_shown 3 = .ok (.iload_n 1, 1) := by decide +kernel
theorem dc_L_shown_4 : decode b_L_shown 4 = .ok (.iload_n 2, 1) := by decide +kernel
theorem dc_L_shown_5 : decode b_L_shown 5 = .ok (.invokevirtual 48, 3) := by decide +kernel
theorem dc_L_shown_8 : decode b_L_shown 8 = .ok (.i2l, 1) := by decide +kernel
theorem dc_L_shown_9 : decode b_L_shown 9 = .ok (.lastore, 1) := by decide +kernel
theorem dc_L_shown_10 : decode b_L_shown 10 = .ok (.goto 7, 3) := by decide +kernel
theorem dc_L_shown_17 : decode b_L_shown 17 = .ok (.iconst 0, 1) := by decide +kernel
theorem dc_L_shown_18 : decode b_L_shown 18 = .ok (.ireturn, 1) := by decide +kernel
theorem dc_L_shown_13 : decode b_L_shown 13 = .ok (.astore 4, 2) := by decide +kernel
theorem dc_L_shown_15 : decode b_L_shown 15 = .ok (.iconst 1, 1) := by decide +kernel
theorem dc_L_shown_16 : decode b_L_shown 16 = .ok (.ireturn, 1) := by decide +kernel
theorem dc_L_noteAt_0 : decode b_L_noteAt 0 = .ok (.aload_n 3, 1) := by decide +kernel
theorem dc_L_noteAt_1 : decode b_L_noteAt 1 = .ok (.iconst 0, 1) := by decide +kernel
theorem dc_L_noteAt_2 : decode b_L_noteAt 2 = .ok (.aload_n 0, 1) := by decide +kernel
theorem dc_L_noteAt_3 : decode b_L_noteAt 3 = .ok (.iload_n 1, 1) := by decide +kernel
theorem dc_L_noteAt_4 : decode b_L_noteAt 4 = .ok (.iload_n 2, 1) := by decide +kernel
theorem dc_L_noteAt_5 : decode b_L_noteAt 5 = .ok (.invokevirtual 51, 3) := by decide +kernel
theorem dc_L_noteAt_8 : decode b_L_noteAt 8 = .ok (.i2l, 1) := by decide +kernel
theorem dc_L_noteAt_9 : decode b_L_noteAt 9 = .ok (.lastore, 1) := by decide +kernel
theorem dc_L_noteAt_10 : decode b_L_noteAt 10 = .ok (.goto 7, 3) := by decide +kernel
theorem dc_L_noteAt_17 : decode b_L_noteAt 17 = .ok (.iconst 0, 1) := by decide +kernel
theorem dc_L_noteAt_18 : decode b_L_noteAt 18 = .ok (.ireturn, 1) := by decide +kernel
theorem dc_L_noteAt_13 : decode b_L_noteAt 13 = .ok (.astore 4, 2) := by decide +kernel
theorem dc_L_noteAt_15 : decode b_L_noteAt 15 = .ok (.iconst 1, 1) := by decide +kernel
theorem dc_L_noteAt_16 : decode b_L_noteAt 16 = .ok (.ireturn, 1) := by decide +kernel
theorem dc_L_streamAt_0 : decode b_L_streamAt 0 = .ok (.aload_n 2, 1) := by decide +kernel
theorem dc_L_streamAt_1 : decode b_L_streamAt 1 = .ok (.iconst 0, 1) := by decide +kernel
theorem dc_L_streamAt_2 : decode b_L_streamAt 2 = .ok (.aload_n 0, 1) := by decide +kernel
theorem dc_L_streamAt_3 : decode b_L_streamAt 3 = .ok (.iload_n 1, 1) := by decide +kernel
theorem dc_L_streamAt_4 : decode b_L_streamAt 4 = .ok (.invokevirtual 54, 3) := by decide +kernel
theorem dc_L_streamAt_7 : decode b_L_streamAt 7 = .ok (.i2l, 1) := by decide +kernel
theorem dc_L_streamAt_8 : decode b_L_streamAt 8 = .ok (.lastore, 1) := by decide +kernel
theorem dc_L_streamAt_9 : decode b_L_streamAt 9 = .ok (.goto 6, 3) := by decide +kernel
theorem dc_L_streamAt_15 : decode b_L_streamAt 15 = .ok (.iconst 0, 1) := by decide +kernel
theorem dc_L_streamAt_16 : decode b_L_streamAt 16 = .ok (.ireturn, 1) := by decide +kernel
theorem dc_L_streamAt_12 : decode b_L_streamAt 12 = .ok (.astore_n 3, 1) := by decide +kernel
theorem dc_L_streamAt_13 : decode b_L_streamAt 13 = .ok (.iconst 1, 1) := by decide +kernel
theorem dc_L_streamAt_14 : decode b_L_streamAt 14 = .ok (.ireturn, 1) := by decide +kernel
theorem dc_L_pointer_0 : decode b_L_pointer 0 = .ok (.aload_n 2, 1) := by decide +kernel
theorem dc_L_pointer_1 : decode b_L_pointer 1 = .ok (.iconst 0, 1) := by decide +kernel
theorem dc_L_pointer_2 : decode b_L_pointer 2 = .ok (.aload_n 0, 1) := by decide +kernel
theorem dc_L_pointer_3 : decode b_L_pointer 3 = .ok (.iload_n 1, 1) := by decide +kernel
theorem dc_L_pointer_4 : decode b_L_pointer 4 = .ok (.invokevirtual 57, 3) := by decide +kernel
theorem dc_L_pointer_7 : decode b_L_pointer 7 = .ok (.i2l, 1) := by decide +kernel
theorem dc_L_pointer_8 : decode b_L_pointer 8 = .ok (.lastore, 1) := by decide +kernel
theorem dc_L_pointer_9 : decode b_L_pointer 9 = .ok (.goto 6, 3) := by decide +kernel
theorem dc_L_pointer_15 : decode b_L_pointer 15 = .ok (.iconst 0, 1) := by decide +kernel
theorem dc_L_pointer_16 : decode b_L_pointer 16 = .ok (.ireturn, 1) := by decide +kernel
theorem dc_L_pointer_12 : decode b_L_pointer 12 = .ok (.astore_n 3, 1) := by decide +kernel
theorem dc_L_pointer_13 : decode b_L_pointer 13 = .ok (.iconst 1, 1) := by decide +kernel
theorem dc_L_pointer_14 : decode b_L_pointer 14 = .ok (.ireturn, 1) := by decide +kernel
theorem dc_L_cell_0 : decode b_L_cell 0 = .ok (.iload_n 1, 1) := by decide +kernel
theorem dc_L_cell_1 : decode b_L_cell 1 = .ok (.aload_n 0, 1) := by decide +kernel
theorem dc_L_cell_2 : decode b_L_cell 2 = .ok (.arraylength, 1) := by decide +kernel
theorem dc_L_cell_3 : decode b_L_cell 3 = .ok (.if_icmp .ge 9, 3) := by decide +kernel
theorem dc_L_cell_6 : decode b_L_cell 6 = .ok (.aload_n 0, 1) := by decide +kernel
theorem dc_L_cell_7 : decode b_L_cell 7 = .ok (.iload_n 1, 1) := by decide +kernel
theorem dc_L_cell_8 : decode b_L_cell 8 = .ok (.iaload, 1) := by decide +kernel
theorem dc_L_cell_9 : decode b_L_cell 9 = .ok (.goto 4, 3) := by decide +kernel
theorem dc_L_cell_12 : decode b_L_cell 12 = .ok (.iconst 0, 1) := by decide +kernel
theorem dc_L_cell_13 : decode b_L_cell 13 = .ok (.ireturn, 1) := by decide +kernel
theorem dc_L_law_140 : decode code 140 = .ok (.aload_n 1, 1) := by decide +kernel
