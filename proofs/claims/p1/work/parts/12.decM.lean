theorem dc_M_clear_0 : decode b_M_clear 0 = .ok (.aload_n 0, 1) := by decide +kernel
theorem dc_M_clear_1 : decode b_M_clear 1 = .ok (.iconst 0, 1) := by decide +kernel
theorem dc_M_clear_2 : decode b_M_clear 2 = .ok (.putfield 68, 3) := by decide +kernel
theorem dc_M_clear_5 : decode b_M_clear 5 = .ok (.aload_n 0, 1) := by decide +kernel
theorem dc_M_clear_6 : decode b_M_clear 6 = .ok (.iconst 0, 1) := by decide +kernel
theorem dc_M_clear_7 : decode b_M_clear 7 = .ok (.putfield 71, 3) := by decide +kernel
theorem dc_M_clear_10 : decode b_M_clear 10 = .ok (.iconst 0, 1) := by decide +kernel
theorem dc_M_clear_11 : decode b_M_clear 11 = .ok (.istore_n 1, 1) := by decide +kernel
theorem dc_M_clear_12 : decode b_M_clear 12 = .ok (.iload_n 1, 1) := by decide +kernel
theorem dc_M_clear_13 : decode b_M_clear 13 = .ok (.iconst 2, 1) := by decide +kernel
theorem dc_M_clear_14 : decode b_M_clear 14 = .ok (.if_icmp .ge 43, 3) := by decide +kernel
theorem dc_M_clear_57 : decode b_M_clear 57 = .ok (.aload_n 0, 1) := by decide +kernel
theorem dc_M_clear_58 : decode b_M_clear 58 = .ok (.iconst 0, 1) := by decide +kernel
theorem dc_M_clear_59 : decode b_M_clear 59 = .ok (.putfield 74, 3) := by decide +kernel
theorem dc_M_clear_62 : decode b_M_clear 62 = .ok (.aload_n 0, 1) := by decide +kernel
theorem dc_M_clear_63 : decode b_M_clear 63 = .ok (.iconst 0, 1) := by decide +kernel
theorem dc_M_clear_64 : decode b_M_clear 64 = .ok (.putfield 77, 3) := by decide +kernel
theorem dc_M_clear_67 : decode b_M_clear 67 = .ok (.aload_n 0, 1) := by decide +kernel
theorem dc_M_clear_68 : decode b_M_clear 68 = .ok (.iconst 0, 1) := by decide +kernel
theorem dc_M_clear_69 : decode b_M_clear 69 = .ok (.putfield 81, 3) := by decide +kernel
theorem dc_M_clear_72 : decode b_M_clear 72 = .ok (.return_, 1) := by decide +kernel
theorem dc_M_clear_17 : decode b_M_clear 17 = .ok (.aload_n 0, 1) := by decide +kernel
theorem dc_M_clear_18 : decode b_M_clear 18 = .ok (.getfield 7, 3) := by decide +kernel
theorem dc_M_clear_21 : decode b_M_clear 21 = .ok (.iload_n 1, 1) := by decide +kernel
theorem dc_M_clear_22 : decode b_M_clear 22 = .ok (.aload_n 0, 1) := by decide +kernel
theorem dc_M_clear_23 : decode b_M_clear 23 = .ok (.getfield 58, 3) := by decide +kernel
theorem dc_M_clear_26 : decode b_M_clear 26 = .ok (.iastore, 1) := by decide +kernel
theorem dc_M_clear_27 : decode b_M_clear 27 = .ok (.aload_n 0, 1) := by decide +kernel
theorem dc_M_clear_28 : decode b_M_clear 28 = .ok (.getfield 13, 3) := by decide +kernel
theorem dc_M_clear_31 : decode b_M_clear 31 = .ok (.iload_n 1, 1) := by decide +kernel
theorem dc_M_clear_32 : decode b_M_clear 32 = .ok (.aload_n 0, 1) := by decide +kernel
theorem dc_M_clear_33 : decode b_M_clear 33 = .ok (.getfield 62, 3) := by decide +kernel
theorem dc_M_clear_36 : decode b_M_clear 36 = .ok (.iastore, 1) := by decide +kernel
theorem dc_M_clear_37 : decode b_M_clear 37 = .ok (.aload_n 0, 1) := by decide +kernel
theorem dc_M_clear_38 : decode b_M_clear 38 = .ok (.getfield 16, 3) := by decide +kernel
theorem dc_M_clear_41 : decode b_M_clear 41 = .ok (.iload_n 1, 1) := by decide +kernel
theorem dc_M_clear_42 : decode b_M_clear 42 = .ok (.iconst 0, 1) := by decide +kernel
theorem dc_M_clear_43 : decode b_M_clear 43 = .ok (.iastore, 1) := by decide +kernel
theorem dc_M_clear_44 : decode b_M_clear 44 = .ok (.aload_n 0, 1) := by decide +kernel
theorem dc_M_clear_45 : decode b_M_clear 45 = .ok (.getfield 19, 3) := by decide +kernel
theorem dc_M_clear_48 : decode b_M_clear 48 = .ok (.iload_n 1, 1) := by decide +kernel
theorem dc_M_clear_49 : decode b_M_clear 49 = .ok (.iconst 0, 1) := by decide +kernel
theorem dc_M_clear_50 : decode b_M_clear 50 = .ok (.iastore, 1) := by decide +kernel
theorem dc_M_clear_51 : decode b_M_clear 51 = .ok (.iinc 1 1, 3) := by decide +kernel
theorem dc_M_clear_54 : decode b_M_clear 54 = .ok (.goto (-42), 3) := by decide +kernel
theorem dc_M_thrown_0 : decode b_M_thrown 0 = .ok (.aload_n 0, 1) := by decide +kernel
theorem dc_M_thrown_1 : decode b_M_thrown 1 = .ok (.getfield 68, 3) := by decide +kernel
theorem dc_M_thrown_4 : decode b_M_thrown 4 = .ok (.ireturn, 1) := by decide +kernel
theorem dc_M_in_0 : decode b_M_in 0 = .ok (.iload_n 0, 1) := by decide +kernel
theorem dc_M_in_1 : decode b_M_in 1 = .ok (.iload_n 1, 1) := by decide +kernel
theorem dc_M_in_2 : decode b_M_in 2 = .ok (.if_icmp .lt 12, 3) := by decide +kernel
theorem dc_M_in_14 : decode b_M_in 14 = .ok (.iconst 0, 1) := by decide +kernel
theorem dc_M_in_15 : decode b_M_in 15 = .ok (.ireturn, 1) := by decide +kernel
theorem dc_M_in_5 : decode b_M_in 5 = .ok (.iload_n 0, 1) := by decide +kernel
theorem dc_M_in_6 : decode b_M_in 6 = .ok (.iload_n 2, 1) := by decide +kernel
theorem dc_M_in_7 : decode b_M_in 7 = .ok (.if_icmp .gt 7, 3) := by decide +kernel
theorem dc_M_in_10 : decode b_M_in 10 = .ok (.iconst 1, 1) := by decide +kernel
theorem dc_M_in_11 : decode b_M_in 11 = .ok (.goto 4, 3) := by decide +kernel
theorem dc_M_tileAt_0 : decode b_M_tileAt 0 = .ok (.bipush 40, 2) := by decide +kernel
theorem dc_M_tileAt_2 : decode b_M_tileAt 2 = .ok (.aload_n 0, 1) := by decide +kernel
theorem dc_M_tileAt_3 : decode b_M_tileAt 3 = .ok (.getfield 71, 3) := by decide +kernel
theorem dc_M_tileAt_6 : decode b_M_tileAt 6 = .ok (.imul, 1) := by decide +kernel
theorem dc_M_tileAt_7 : decode b_M_tileAt 7 = .ok (.iload_n 1, 1) := by decide +kernel
theorem dc_M_tileAt_8 : decode b_M_tileAt 8 = .ok (.iadd, 1) := by decide +kernel
theorem dc_M_tileAt_9 : decode b_M_tileAt 9 = .ok (.ireturn, 1) := by decide +kernel
theorem dc_M_lies_0 : decode b_M_lies 0 = .ok (.iload_n 1, 1) := by decide +kernel
theorem dc_M_lies_1 : decode b_M_lies 1 = .ok (.ifCond .lt 42, 3) := by decide +kernel
theorem dc_M_lies_43 : decode b_M_lies 43 = .ok (.iconst 0, 1) := by decide +kernel
theorem dc_M_lies_44 : decode b_M_lies 44 = .ok (.ireturn, 1) := by decide +kernel
theorem dc_M_lies_4 : decode b_M_lies 4 = .ok (.iload_n 2, 1) := by decide +kernel
theorem dc_M_lies_5 : decode b_M_lies 5 = .ok (.ifCond .lt 38, 3) := by decide +kernel
theorem dc_M_lies_8 : decode b_M_lies 8 = .ok (.iload_n 1, 1) := by decide +kernel
theorem dc_M_lies_9 : decode b_M_lies 9 = .ok (.aload_n 0, 1) := by decide +kernel
theorem dc_M_lies_10 : decode b_M_lies 10 = .ok (.getfield 7, 3) := by decide +kernel
theorem dc_M_lies_13 : decode b_M_lies 13 = .ok (.aload_n 0, 1) := by decide +kernel
theorem dc_M_lies_14 : decode b_M_lies 14 = .ok (.getfield 71, 3) := by decide +kernel
theorem dc_M_lies_17 : decode b_M_lies 17 = .ok (.iaload, 1) := by decide +kernel
theorem dc_M_lies_18 : decode b_M_lies 18 = .ok (.iload_n 3, 1) := by decide +kernel
theorem dc_M_lies_19 : decode b_M_lies 19 = .ok (.isub, 1) := by decide +kernel
theorem dc_M_lies_20 : decode b_M_lies 20 = .ok (.if_icmp .gt 23, 3) := by decide +kernel
theorem dc_M_lies_23 : decode b_M_lies 23 = .ok (.iload_n 2, 1) := by decide +kernel
theorem dc_M_lies_24 : decode b_M_lies 24 = .ok (.aload_n 0, 1) := by decide +kernel
theorem dc_M_lies_25 : decode b_M_lies 25 = .ok (.getfield 13, 3) := by decide +kernel
theorem dc_M_lies_28 : decode b_M_lies 28 = .ok (.aload_n 0, 1) := by decide +kernel
theorem dc_M_lies_29 : decode b_M_lies 29 = .ok (.getfield 71, 3) := by decide +kernel
theorem dc_M_lies_32 : decode b_M_lies 32 = .ok (.iaload, 1) := by decide +kernel
theorem dc_M_lies_33 : decode b_M_lies 33 = .ok (.iload 4, 2) := by decide +kernel
theorem dc_M_lies_35 : decode b_M_lies 35 = .ok (.isub, 1) := by decide +kernel
theorem dc_M_lies_36 : decode b_M_lies 36 = .ok (.if_icmp .gt 7, 3) := by decide +kernel
theorem dc_M_lies_39 : decode b_M_lies 39 = .ok (.iconst 1, 1) := by decide +kernel
theorem dc_M_lies_40 : decode b_M_lies 40 = .ok (.goto 4, 3) := by decide +kernel
theorem dc_M_move_0 : decode b_M_move 0 = .ok (.aload_n 0, 1) := by decide +kernel
theorem dc_M_move_1 : decode b_M_move 1 = .ok (.getfield 22, 3) := by decide +kernel
theorem dc_M_move_4 : decode b_M_move 4 = .ok (.iload_n 2, 1) := by decide +kernel
theorem dc_M_move_5 : decode b_M_move 5 = .ok (.aload_n 0, 1) := by decide +kernel
theorem dc_M_move_6 : decode b_M_move 6 = .ok (.getfield 22, 3) := by decide +kernel
theorem dc_M_move_9 : decode b_M_move 9 = .ok (.iload_n 1, 1) := by decide +kernel
theorem dc_M_move_10 : decode b_M_move 10 = .ok (.iaload, 1) := by decide +kernel
theorem dc_M_move_11 : decode b_M_move 11 = .ok (.iastore, 1) := by decide +kernel
theorem dc_M_move_12 : decode b_M_move 12 = .ok (.aload_n 0, 1) := by decide +kernel
theorem dc_M_move_13 : decode b_M_move 13 = .ok (.getfield 25, 3) := by decide +kernel
theorem dc_M_move_16 : decode b_M_move 16 = .ok (.iload_n 2, 1) := by decide +kernel
theorem dc_M_move_17 : decode b_M_move 17 = .ok (.aload_n 0, 1) := by decide +kernel
theorem dc_M_move_18 : decode b_M_move 18 = .ok (.getfield 25, 3) := by decide +kernel
theorem dc_M_move_21 : decode b_M_move 21 = .ok (.iload_n 1, 1) := by decide +kernel
theorem dc_M_move_22 : decode b_M_move 22 = .ok (.iaload, 1) := by decide +kernel
theorem dc_M_move_23 : decode b_M_move 23 = .ok (.iastore, 1) := by decide +kernel
theorem dc_M_move_24 : decode b_M_move 24 = .ok (.aload_n 0, 1) := by decide +kernel
theorem dc_M_move_25 : decode b_M_move 25 = .ok (.getfield 28, 3) := by decide +kernel
theorem dc_M_move_28 : decode b_M_move 28 = .ok (.iload_n 2, 1) := by decide +kernel
theorem dc_M_move_29 : decode b_M_move 29 = .ok (.aload_n 0, 1) := by decide +kernel
theorem dc_M_move_30 : decode b_M_move 30 = .ok (.getfield 28, 3) := by decide +kernel
theorem dc_M_move_33 : decode b_M_move 33 = .ok (.iload_n 1, 1) := by decide +kernel
theorem dc_M_move_34 : decode b_M_move 34 = .ok (.iaload, 1) := by decide +kernel
theorem dc_M_move_35 : decode b_M_move 35 = .ok (.iastore, 1) := by decide +kernel
theorem dc_M_move_36 : decode b_M_move 36 = .ok (.aload_n 0, 1) := by decide +kernel
theorem dc_M_move_37 : decode b_M_move 37 = .ok (.getfield 31, 3) := by decide +kernel
theorem dc_M_move_40 : decode b_M_move 40 = .ok (.iload_n 2, 1) := by decide +kernel
theorem dc_M_move_41 : decode b_M_move 41 = .ok (.aload_n 0, 1) := by decide +kernel
theorem dc_M_move_42 : decode b_M_move 42 = .ok (.getfield 31, 3) := by decide +kernel
theorem dc_M_move_45 : decode b_M_move 45 = .ok (.iload_n 1, 1) := by decide +kernel
theorem dc_M_move_46 : decode b_M_move 46 = .ok (.iaload, 1) := by decide +kernel
theorem dc_M_move_47 : decode b_M_move 47 = .ok (.iastore, 1) := by decide +kernel
theorem dc_M_move_48 : decode b_M_move 48 = .ok (.aload_n 0, 1) := by decide +kernel
theorem dc_M_move_49 : decode b_M_move 49 = .ok (.getfield 34, 3) := by decide +kernel
theorem dc_M_move_52 : decode b_M_move 52 = .ok (.iload_n 2, 1) := by decide +kernel
theorem dc_M_move_53 : decode b_M_move 53 = .ok (.aload_n 0, 1) := by decide +kernel
theorem dc_M_move_54 : decode b_M_move 54 = .ok (.getfield 34, 3) := by decide +kernel
theorem dc_M_move_57 : decode b_M_move 57 = .ok (.iload_n 1, 1) := by decide +kernel
theorem dc_M_move_58 : decode b_M_move 58 = .ok (.iaload, 1) := by decide +kernel
theorem dc_M_move_59 : decode b_M_move 59 = .ok (.iastore, 1) := by decide +kernel
theorem dc_M_move_60 : decode b_M_move 60 = .ok (.aload_n 0, 1) := by decide +kernel
theorem dc_M_move_61 : decode b_M_move 61 = .ok (.getfield 37, 3) := by decide +kernel
theorem dc_M_move_64 : decode b_M_move 64 = .ok (.iload_n 2, 1) := by decide +kernel
theorem dc_M_move_65 : decode b_M_move 65 = .ok (.aload_n 0, 1) := by decide +kernel
theorem dc_M_move_66 : decode b_M_move 66 = .ok (.getfield 37, 3) := by decide +kernel
theorem dc_M_move_69 : decode b_M_move 69 = .ok (.iload_n 1, 1) := by decide +kernel
theorem dc_M_move_70 : decode b_M_move 70 = .ok (.iaload, 1) := by decide +kernel
theorem dc_M_move_71 : decode b_M_move 71 = .ok (.iastore, 1) := by decide +kernel
theorem dc_M_move_72 : decode b_M_move 72 = .ok (.iconst 0, 1) := by decide +kernel
theorem dc_M_move_73 : decode b_M_move 73 = .ok (.istore_n 3, 1) := by decide +kernel
theorem dc_M_move_74 : decode b_M_move 74 = .ok (.iload_n 3, 1) := by decide +kernel
theorem dc_M_move_75 : decode b_M_move 75 = .ok (.bipush 12, 2) := by decide +kernel
theorem dc_M_move_77 : decode b_M_move 77 = .ok (.if_icmp .ge 31, 3) := by decide +kernel
theorem dc_M_move_108 : decode b_M_move 108 = .ok (.return_, 1) := by decide +kernel
theorem dc_M_move_80 : decode b_M_move 80 = .ok (.aload_n 0, 1) := by decide +kernel
theorem dc_M_move_81 : decode b_M_move 81 = .ok (.getfield 40, 3) := by decide +kernel
theorem dc_M_move_84 : decode b_M_move 84 = .ok (.bipush 12, 2) := by decide +kernel
theorem dc_M_move_86 : decode b_M_move 86 = .ok (.iload_n 2, 1) := by decide +kernel
theorem dc_M_move_87 : decode b_M_move 87 = .ok (.imul, 1) := by decide +kernel
theorem dc_M_move_88 : decode b_M_move 88 = .ok (.iload_n 3, 1) := by decide +kernel
theorem dc_M_move_89 : decode b_M_move 89 = .ok (.iadd, 1) := by decide +kernel
theorem dc_M_move_90 : decode b_M_move 90 = .ok (.aload_n 0, 1) := by decide +kernel
theorem dc_M_move_91 : decode b_M_move 91 = .ok (.getfield 40, 3) := by decide +kernel
theorem dc_M_move_94 : decode b_M_move 94 = .ok (.bipush 12, 2) := by decide +kernel
theorem dc_M_move_96 : decode b_M_move 96 = .ok (.iload_n 1, 1) := by decide +kernel
theorem dc_M_move_97 : decode b_M_move 97 = .ok (.imul, 1) := by decide +kernel
theorem dc_M_move_98 : decode b_M_move 98 = .ok (.iload_n 3, 1) := by decide +kernel
theorem dc_M_move_99 : decode b_M_move 99 = .ok (.iadd, 1) := by decide +kernel
theorem dc_M_move_100 : decode b_M_move 100 = .ok (.iaload, 1) := by decide +kernel
theorem dc_M_move_101 : decode b_M_move 101 = .ok (.iastore, 1) := by decide +kernel
theorem dc_M_move_102 : decode b_M_move 102 = .ok (.iinc 3 1, 3) := by decide +kernel
theorem dc_M_move_105 : decode b_M_move 105 = .ok (.goto (-31), 3) := by decide +kernel
theorem dc_M_moveNote_0 : decode b_M_moveNote 0 = .ok (.aload_n 0, 1) := by decide +kernel
theorem dc_M_moveNote_1 : decode b_M_moveNote 1 = .ok (.getfield 43, 3) := by decide +kernel
theorem dc_M_moveNote_4 : decode b_M_moveNote 4 = .ok (.iload_n 2, 1) := by decide +kernel
theorem dc_M_moveNote_5 : decode b_M_moveNote 5 = .ok (.aload_n 0, 1) := by decide +kernel
theorem dc_M_moveNote_6 : decode b_M_moveNote 6 = .ok (.getfield 43, 3) := by decide +kernel
theorem dc_M_moveNote_9 : decode b_M_moveNote 9 = .ok (.iload_n 1, 1) := by decide +kernel
theorem dc_M_moveNote_10 : decode b_M_moveNote 10 = .ok (.iaload, 1) := by decide +kernel
theorem dc_M_moveNote_11 : decode b_M_moveNote 11 = .ok (.iastore, 1) := by decide +kernel
theorem dc_M_moveNote_12 : decode b_M_moveNote 12 = .ok (.aload_n 0, 1) := by decide +kernel
theorem dc_M_moveNote_13 : decode b_M_moveNote 13 = .ok (.getfield 46, 3) := by decide +kernel
theorem dc_M_moveNote_16 : decode b_M_moveNote 16 = .ok (.iload_n 2, 1) := by decide +kernel
theorem dc_M_moveNote_17 : decode b_M_moveNote 17 = .ok (.aload_n 0, 1) := by decide +kernel
theorem dc_M_moveNote_18 : decode b_M_moveNote 18 = .ok (.getfield 46, 3) := by decide +kernel
theorem dc_M_moveNote_21 : decode b_M_moveNote 21 = .ok (.iload_n 1, 1) := by decide +kernel
theorem dc_M_moveNote_22 : decode b_M_moveNote 22 = .ok (.iaload, 1) := by decide +kernel
theorem dc_M_moveNote_23 : decode b_M_moveNote 23 = .ok (.iastore, 1) := by decide +kernel
theorem dc_M_moveNote_24 : decode b_M_moveNote 24 = .ok (.aload_n 0, 1) := by decide +kernel
theorem dc_M_moveNote_25 : decode b_M_moveNote 25 = .ok (.getfield 49, 3) := by decide +kernel
theorem dc_M_moveNote_28 : decode b_M_moveNote 28 = .ok (.iload_n 2, 1) := by decide +kernel
theorem dc_M_moveNote_29 : decode b_M_moveNote 29 = .ok (.aload_n 0, 1) := by decide +kernel
theorem dc_M_moveNote_30 : decode b_M_moveNote 30 = .ok (.getfield 49, 3) := by decide +kernel
theorem dc_M_moveNote_33 : decode b_M_moveNote 33 = .ok (.iload_n 1, 1) := by decide +kernel
theorem dc_M_moveNote_34 : decode b_M_moveNote 34 = .ok (.iaload, 1) := by decide +kernel
theorem dc_M_moveNote_35 : decode b_M_moveNote 35 = .ok (.iastore, 1) := by decide +kernel
theorem dc_M_moveNote_36 : decode b_M_moveNote 36 = .ok (.return_, 1) := by decide +kernel
theorem dc_M_comes_0 : decode b_M_comes 0 = .ok (.iload_n 0, 1) := by decide +kernel
theorem dc_M_comes_1 : decode b_M_comes 1 = .ok (.iconst 4, 1) := by decide +kernel
theorem dc_M_comes_2 : decode b_M_comes 2 = .ok (.if_icmp .lt 11, 3) := by decide +kernel
theorem dc_M_comes_13 : decode b_M_comes 13 = .ok (.iload_n 1, 1) := by decide +kernel
theorem dc_M_comes_5 : decode b_M_comes 5 = .ok (.iload_n 3, 1) := by decide +kernel
theorem dc_M_comes_6 : decode b_M_comes 6 = .ok (.iconst 1, 1) := by decide +kernel
theorem dc_M_comes_7 : decode b_M_comes 7 = .ok (.isub, 1) := by decide +kernel
theorem dc_M_comes_8 : decode b_M_comes 8 = .ok (.iload_n 1, 1) := by decide +kernel
theorem dc_M_comes_9 : decode b_M_comes 9 = .ok (.isub, 1) := by decide +kernel
theorem dc_M_comes_10 : decode b_M_comes 10 = .ok (.goto 4, 3) := by decide +kernel
theorem dc_M_comes_14 : decode b_M_comes 14 = .ok (.istore 5, 2) := by decide +kernel
theorem dc_M_comes_16 : decode b_M_comes 16 = .ok (.iload_n 2, 1) := by decide +kernel
theorem dc_M_comes_17 : decode b_M_comes 17 = .ok (.istore 6, 2) := by decide +kernel
theorem dc_M_comes_19 : decode b_M_comes 19 = .ok (.iload_n 3, 1) := by decide +kernel
theorem dc_M_comes_20 : decode b_M_comes 20 = .ok (.istore 7, 2) := by decide +kernel
theorem dc_M_comes_22 : decode b_M_comes 22 = .ok (.iload 4, 2) := by decide +kernel
theorem dc_M_comes_24 : decode b_M_comes 24 = .ok (.istore 8, 2) := by decide +kernel
theorem dc_M_comes_26 : decode b_M_comes 26 = .ok (.iconst 0, 1) := by decide +kernel
theorem dc_M_comes_27 : decode b_M_comes 27 = .ok (.istore 9, 2) := by decide +kernel
theorem dc_M_comes_29 : decode b_M_comes 29 = .ok (.iload 9, 2) := by decide +kernel
theorem dc_M_comes_31 : decode b_M_comes 31 = .ok (.iload_n 0, 1) := by decide +kernel
theorem dc_M_comes_32 : decode b_M_comes 32 = .ok (.iconst 4, 1) := by decide +kernel
theorem dc_M_comes_33 : decode b_M_comes 33 = .ok (.irem, 1) := by decide +kernel
theorem dc_M_comes_34 : decode b_M_comes 34 = .ok (.if_icmp .ge 38, 3) := by decide +kernel
theorem dc_M_comes_72 : decode b_M_comes 72 = .ok (.sipush 1000, 3) := by decide +kernel
theorem dc_M_comes_75 : decode b_M_comes 75 = .ok (.iload 6, 2) := by decide +kernel
theorem dc_M_comes_77 : decode b_M_comes 77 = .ok (.imul, 1) := by decide +kernel
theorem dc_M_comes_78 : decode b_M_comes 78 = .ok (.iload 5, 2) := by decide +kernel
theorem dc_M_comes_80 : decode b_M_comes 80 = .ok (.iadd, 1) := by decide +kernel
theorem dc_M_comes_81 : decode b_M_comes 81 = .ok (.ireturn, 1) := by decide +kernel
theorem dc_M_comes_37 : decode b_M_comes 37 = .ok (.iload 5, 2) := by decide +kernel
theorem dc_M_comes_39 : decode b_M_comes 39 = .ok (.istore 10, 2) := by decide +kernel
theorem dc_M_comes_41 : decode b_M_comes 41 = .ok (.iload 8, 2) := by decide +kernel
theorem dc_M_comes_43 : decode b_M_comes 43 = .ok (.iconst 1, 1) := by decide +kernel
theorem dc_M_comes_44 : decode b_M_comes 44 = .ok (.isub, 1) := by decide +kernel
theorem dc_M_comes_45 : decode b_M_comes 45 = .ok (.iload 6, 2) := by decide +kernel
theorem dc_M_comes_47 : decode b_M_comes 47 = .ok (.isub, 1) := by decide +kernel
theorem dc_M_comes_48 : decode b_M_comes 48 = .ok (.istore 5, 2) := by decide +kernel
theorem dc_M_comes_50 : decode b_M_comes 50 = .ok (.iload 10, 2) := by decide +kernel
theorem dc_M_comes_52 : decode b_M_comes 52 = .ok (.istore 6, 2) := by decide +kernel
theorem dc_M_comes_54 : decode b_M_comes 54 = .ok (.iload 7, 2) := by decide +kernel
theorem dc_M_comes_56 : decode b_M_comes 56 = .ok (.istore 11, 2) := by decide +kernel
theorem dc_M_comes_58 : decode b_M_comes 58 = .ok (.iload 8, 2) := by decide +kernel
theorem dc_M_comes_60 : decode b_M_comes 60 = .ok (.istore 7, 2) := by decide +kernel
theorem dc_M_comes_62 : decode b_M_comes 62 = .ok (.iload 11, 2) := by decide +kernel
theorem dc_M_comes_64 : decode b_M_comes 64 = .ok (.istore 8, 2) := by decide +kernel
theorem dc_M_comes_66 : decode b_M_comes 66 = .ok (.iinc 9 1, 3) := by decide +kernel
theorem dc_M_comes_69 : decode b_M_comes 69 = .ok (.goto (-40), 3) := by decide +kernel
theorem dc_M_isTurned_0 : decode b_M_isTurned 0 = .ok (.iload_n 0, 1) := by decide +kernel
theorem dc_M_isTurned_1 : decode b_M_isTurned 1 = .ok (.iconst 2, 1) := by decide +kernel
theorem dc_M_isTurned_2 : decode b_M_isTurned 2 = .ok (.irem, 1) := by decide +kernel
theorem dc_M_isTurned_3 : decode b_M_isTurned 3 = .ok (.iconst 1, 1) := by decide +kernel
theorem dc_M_isTurned_4 : decode b_M_isTurned 4 = .ok (.if_icmp .ne 7, 3) := by decide +kernel
theorem dc_M_isTurned_11 : decode b_M_isTurned 11 = .ok (.iconst 0, 1) := by decide +kernel
theorem dc_M_isTurned_12 : decode b_M_isTurned 12 = .ok (.ireturn, 1) := by decide +kernel
theorem dc_M_isTurned_7 : decode b_M_isTurned 7 = .ok (.iconst 1, 1) := by decide +kernel
theorem dc_M_isTurned_8 : decode b_M_isTurned 8 = .ok (.goto 4, 3) := by decide +kernel
theorem dc_M_swap_0 : decode b_M_swap 0 = .ok (.aload_n 0, 1) := by decide +kernel
theorem dc_M_swap_1 : decode b_M_swap 1 = .ok (.iconst 0, 1) := by decide +kernel
theorem dc_M_swap_2 : decode b_M_swap 2 = .ok (.putfield 68, 3) := by decide +kernel
theorem dc_M_swap_5 : decode b_M_swap 5 = .ok (.aload_n 0, 1) := by decide +kernel
theorem dc_M_swap_6 : decode b_M_swap 6 = .ok (.iconst 1, 1) := by decide +kernel
theorem dc_M_swap_7 : decode b_M_swap 7 = .ok (.aload_n 0, 1) := by decide +kernel
theorem dc_M_swap_8 : decode b_M_swap 8 = .ok (.getfield 71, 3) := by decide +kernel
theorem dc_M_swap_11 : decode b_M_swap 11 = .ok (.isub, 1) := by decide +kernel
theorem dc_M_swap_12 : decode b_M_swap 12 = .ok (.putfield 71, 3) := by decide +kernel
theorem dc_M_swap_15 : decode b_M_swap 15 = .ok (.aload_n 0, 1) := by decide +kernel
theorem dc_M_swap_16 : decode b_M_swap 16 = .ok (.iconst 0, 1) := by decide +kernel
theorem dc_M_swap_17 : decode b_M_swap 17 = .ok (.putfield 74, 3) := by decide +kernel
theorem dc_M_swap_20 : decode b_M_swap 20 = .ok (.aload_n 0, 1) := by decide +kernel
theorem dc_M_swap_21 : decode b_M_swap 21 = .ok (.iconst 0, 1) := by decide +kernel
theorem dc_M_swap_22 : decode b_M_swap 22 = .ok (.putfield 77, 3) := by decide +kernel
theorem dc_M_swap_25 : decode b_M_swap 25 = .ok (.aload_n 0, 1) := by decide +kernel
theorem dc_M_swap_26 : decode b_M_swap 26 = .ok (.getfield 16, 3) := by decide +kernel
theorem dc_M_swap_29 : decode b_M_swap 29 = .ok (.aload_n 0, 1) := by decide +kernel
theorem dc_M_swap_30 : decode b_M_swap 30 = .ok (.getfield 71, 3) := by decide +kernel
theorem dc_M_swap_33 : decode b_M_swap 33 = .ok (.iaload, 1) := by decide +kernel
theorem dc_M_swap_34 : decode b_M_swap 34 = .ok (.ireturn, 1) := by decide +kernel
theorem dc_M_tell_0 : decode b_M_tell 0 = .ok (.aload_n 0, 1) := by decide +kernel
theorem dc_M_tell_1 : decode b_M_tell 1 = .ok (.getfield 55, 3) := by decide +kernel
theorem dc_M_tell_4 : decode b_M_tell 4 = .ok (.aload_n 0, 1) := by decide +kernel
theorem dc_M_tell_5 : decode b_M_tell 5 = .ok (.getfield 81, 3) := by decide +kernel
theorem dc_M_tell_8 : decode b_M_tell 8 = .ok (.iload_n 1, 1) := by decide +kernel
theorem dc_M_tell_9 : decode b_M_tell 9 = .ok (.iastore, 1) := by decide +kernel
theorem dc_M_tell_10 : decode b_M_tell 10 = .ok (.aload_n 0, 1) := by decide +kernel
theorem dc_M_tell_11 : decode b_M_tell 11 = .ok (.dup, 1) := by decide +kernel
theorem dc_M_tell_12 : decode b_M_tell 12 = .ok (.getfield 81, 3) := by decide +kernel
theorem dc_M_tell_15 : decode b_M_tell 15 = .ok (.iconst 1, 1) := by decide +kernel
theorem dc_M_tell_16 : decode b_M_tell 16 = .ok (.iadd, 1) := by decide +kernel
theorem dc_M_tell_17 : decode b_M_tell 17 = .ok (.putfield 81, 3) := by decide +kernel
theorem dc_M_tell_20 : decode b_M_tell 20 = .ok (.return_, 1) := by decide +kernel
theorem dc_M_partSize_0 : decode b_M_partSize 0 = .ok (.bipush 12, 2) := by decide +kernel
theorem dc_M_partSize_2 : decode b_M_partSize 2 = .ok (.iload_n 0, 1) := by decide +kernel
theorem dc_M_partSize_3 : decode b_M_partSize 3 = .ok (.iadd, 1) := by decide +kernel
theorem dc_M_partSize_4 : decode b_M_partSize 4 = .ok (.ireturn, 1) := by decide +kernel
theorem dc_M_isBefore_0 : decode b_M_isBefore 0 = .ok (.aload_n 0, 1) := by decide +kernel
theorem dc_M_isBefore_1 : decode b_M_isBefore 1 = .ok (.getfield 25, 3) := by decide +kernel
theorem dc_M_isBefore_4 : decode b_M_isBefore 4 = .ok (.iload_n 1, 1) := by decide +kernel
theorem dc_M_isBefore_5 : decode b_M_isBefore 5 = .ok (.iaload, 1) := by decide +kernel
theorem dc_M_isBefore_6 : decode b_M_isBefore 6 = .ok (.aload_n 0, 1) := by decide +kernel
theorem dc_M_isBefore_7 : decode b_M_isBefore 7 = .ok (.getfield 25, 3) := by decide +kernel
theorem dc_M_isBefore_10 : decode b_M_isBefore 10 = .ok (.iload_n 2, 1) := by decide +kernel
theorem dc_M_isBefore_11 : decode b_M_isBefore 11 = .ok (.iaload, 1) := by decide +kernel
theorem dc_M_isBefore_12 : decode b_M_isBefore 12 = .ok (.if_icmp .lt 33, 3) := by decide +kernel
theorem dc_M_isBefore_15 : decode b_M_isBefore 15 = .ok (.aload_n 0, 1) := by decide +kernel
theorem dc_M_isBefore_16 : decode b_M_isBefore 16 = .ok (.getfield 25, 3) := by decide +kernel
theorem dc_M_isBefore_19 : decode b_M_isBefore 19 = .ok (.iload_n 1, 1) := by decide +kernel
theorem dc_M_isBefore_20 : decode b_M_isBefore 20 = .ok (.iaload, 1) := by decide +kernel
theorem dc_M_isBefore_21 : decode b_M_isBefore 21 = .ok (.aload_n 0, 1) := by decide +kernel
theorem dc_M_isBefore_22 : decode b_M_isBefore 22 = .ok (.getfield 25, 3) := by decide +kernel
theorem dc_M_isBefore_25 : decode b_M_isBefore 25 = .ok (.iload_n 2, 1) := by decide +kernel
theorem dc_M_isBefore_26 : decode b_M_isBefore 26 = .ok (.iaload, 1) := by decide +kernel
theorem dc_M_isBefore_27 : decode b_M_isBefore 27 = .ok (.if_icmp .ne 22, 3) := by decide +kernel
theorem dc_M_isBefore_49 : decode b_M_isBefore 49 = .ok (.iconst 0, 1) := by decide +kernel
theorem dc_M_isBefore_50 : decode b_M_isBefore 50 = .ok (.ireturn, 1) := by decide +kernel
theorem dc_M_isBefore_30 : decode b_M_isBefore 30 = .ok (.aload_n 0, 1) := by decide +kernel
theorem dc_M_isBefore_31 : decode b_M_isBefore 31 = .ok (.getfield 22, 3) := by decide +kernel
theorem dc_M_isBefore_34 : decode b_M_isBefore 34 = .ok (.iload_n 1, 1) := by decide +kernel
theorem dc_M_isBefore_35 : decode b_M_isBefore 35 = .ok (.iaload, 1) := by decide +kernel
theorem dc_M_isBefore_36 : decode b_M_isBefore 36 = .ok (.aload_n 0, 1) := by decide +kernel
theorem dc_M_isBefore_37 : decode b_M_isBefore 37 = .ok (.getfield 22, 3) := by decide +kernel
theorem dc_M_isBefore_40 : decode b_M_isBefore 40 = .ok (.iload_n 2, 1) := by decide +kernel
theorem dc_M_isBefore_41 : decode b_M_isBefore 41 = .ok (.iaload, 1) := by decide +kernel
theorem dc_M_isBefore_42 : decode b_M_isBefore 42 = .ok (.if_icmp .ge 7, 3) := by decide +kernel
theorem dc_M_isBefore_45 : decode b_M_isBefore 45 = .ok (.iconst 1, 1) := by decide +kernel
theorem dc_M_isBefore_46 : decode b_M_isBefore 46 = .ok (.goto 4, 3) := by decide +kernel
theorem dc_M_told_0 : decode b_M_told 0 = .ok (.aload_n 0, 1) := by decide +kernel
theorem dc_M_told_1 : decode b_M_told 1 = .ok (.iconst 0, 1) := by decide +kernel
theorem dc_M_told_2 : decode b_M_told 2 = .ok (.putfield 68, 3) := by decide +kernel
theorem dc_M_told_5 : decode b_M_told 5 = .ok (.iconst 1, 1) := by decide +kernel
theorem dc_M_told_6 : decode b_M_told 6 = .ok (.aload_n 0, 1) := by decide +kernel
theorem dc_M_told_7 : decode b_M_told 7 = .ok (.getfield 71, 3) := by decide +kernel
theorem dc_M_told_10 : decode b_M_told 10 = .ok (.isub, 1) := by decide +kernel
theorem dc_M_told_11 : decode b_M_told 11 = .ok (.istore_n 2, 1) := by decide +kernel
theorem dc_M_told_12 : decode b_M_told 12 = .ok (.iload_n 1, 1) := by decide +kernel
theorem dc_M_told_13 : decode b_M_told 13 = .ok (.tableswitch 124 0 8 #[51, 61, 71, 81, 91, 96, 103, 110, 117], 51) := by decide +kernel
theorem dc_M_told_64 : decode b_M_told 64 = .ok (.aload_n 0, 1) := by decide +kernel
theorem dc_M_told_65 : decode b_M_told 65 = .ok (.getfield 7, 3) := by decide +kernel
theorem dc_M_told_68 : decode b_M_told 68 = .ok (.aload_n 0, 1) := by decide +kernel
theorem dc_M_told_69 : decode b_M_told 69 = .ok (.getfield 71, 3) := by decide +kernel
theorem dc_M_told_72 : decode b_M_told 72 = .ok (.iaload, 1) := by decide +kernel
theorem dc_M_told_73 : decode b_M_told 73 = .ok (.ireturn, 1) := by decide +kernel
theorem dc_M_told_74 : decode b_M_told 74 = .ok (.aload_n 0, 1) := by decide +kernel
theorem dc_M_told_75 : decode b_M_told 75 = .ok (.getfield 13, 3) := by decide +kernel
theorem dc_M_told_78 : decode b_M_told 78 = .ok (.aload_n 0, 1) := by decide +kernel
theorem dc_M_told_79 : decode b_M_told 79 = .ok (.getfield 71, 3) := by decide +kernel
theorem dc_M_told_82 : decode b_M_told 82 = .ok (.iaload, 1) := by decide +kernel
theorem dc_M_told_83 : decode b_M_told 83 = .ok (.ireturn, 1) := by decide +kernel
theorem dc_M_told_84 : decode b_M_told 84 = .ok (.aload_n 0, 1) := by decide +kernel
theorem dc_M_told_85 : decode b_M_told 85 = .ok (.getfield 16, 3) := by decide +kernel
theorem dc_M_told_88 : decode b_M_told 88 = .ok (.aload_n 0, 1) := by decide +kernel
theorem dc_M_told_89 : decode b_M_told 89 = .ok (.getfield 71, 3) := by decide +kernel
theorem dc_M_told_92 : decode b_M_told 92 = .ok (.iaload, 1) := by decide +kernel
theorem dc_M_told_93 : decode b_M_told 93 = .ok (.ireturn, 1) := by decide +kernel
theorem dc_M_told_94 : decode b_M_told 94 = .ok (.aload_n 0, 1) := by decide +kernel
theorem dc_M_told_95 : decode b_M_told 95 = .ok (.getfield 19, 3) := by decide +kernel
theorem dc_M_told_98 : decode b_M_told 98 = .ok (.aload_n 0, 1) := by decide +kernel
theorem dc_M_told_99 : decode b_M_told 99 = .ok (.getfield 71, 3) := by decide +kernel
theorem dc_M_told_102 : decode b_M_told 102 = .ok (.iaload, 1) := by decide +kernel
theorem dc_M_told_103 : decode b_M_told 103 = .ok (.ireturn, 1) := by decide +kernel
theorem dc_M_told_104 : decode b_M_told 104 = .ok (.aload_n 0, 1) := by decide +kernel
theorem dc_M_told_105 : decode b_M_told 105 = .ok (.getfield 81, 3) := by decide +kernel
theorem dc_M_told_108 : decode b_M_told 108 = .ok (.ireturn, 1) := by decide +kernel
theorem dc_M_told_109 : decode b_M_told 109 = .ok (.aload_n 0, 1) := by decide +kernel
theorem dc_M_told_110 : decode b_M_told 110 = .ok (.getfield 7, 3) := by decide +kernel
theorem dc_M_told_113 : decode b_M_told 113 = .ok (.iload_n 2, 1) := by decide +kernel
theorem dc_M_told_114 : decode b_M_told 114 = .ok (.iaload, 1) := by decide +kernel
theorem dc_M_told_115 : decode b_M_told 115 = .ok (.ireturn, 1) := by decide +kernel
theorem dc_M_told_116 : decode b_M_told 116 = .ok (.aload_n 0, 1) := by decide +kernel
theorem dc_M_told_117 : decode b_M_told 117 = .ok (.getfield 13, 3) := by decide +kernel
theorem dc_M_told_120 : decode b_M_told 120 = .ok (.iload_n 2, 1) := by decide +kernel
theorem dc_M_told_121 : decode b_M_told 121 = .ok (.iaload, 1) := by decide +kernel
theorem dc_M_told_122 : decode b_M_told 122 = .ok (.ireturn, 1) := by decide +kernel
theorem dc_M_told_123 : decode b_M_told 123 = .ok (.aload_n 0, 1) := by decide +kernel
theorem dc_M_told_124 : decode b_M_told 124 = .ok (.getfield 16, 3) := by decide +kernel
theorem dc_M_told_127 : decode b_M_told 127 = .ok (.iload_n 2, 1) := by decide +kernel
theorem dc_M_told_128 : decode b_M_told 128 = .ok (.iaload, 1) := by decide +kernel
theorem dc_M_told_129 : decode b_M_told 129 = .ok (.ireturn, 1) := by decide +kernel
theorem dc_M_told_130 : decode b_M_told 130 = .ok (.aload_n 0, 1) := by decide +kernel
theorem dc_M_told_131 : decode b_M_told 131 = .ok (.getfield 19, 3) := by decide +kernel
theorem dc_M_told_134 : decode b_M_told 134 = .ok (.iload_n 2, 1) := by decide +kernel
theorem dc_M_told_135 : decode b_M_told 135 = .ok (.iaload, 1) := by decide +kernel
theorem dc_M_told_136 : decode b_M_told 136 = .ok (.ireturn, 1) := by decide +kernel
theorem dc_M_told_137 : decode b_M_told 137 = .ok (.iconst (-1), 1) := by decide +kernel
theorem dc_M_told_138 : decode b_M_told 138 = .ok (.ireturn, 1) := by decide +kernel
theorem dc_M_isTile_0 : decode b_M_isTile 0 = .ok (.iload_n 1, 1) := by decide +kernel
theorem dc_M_isTile_1 : decode b_M_isTile 1 = .ok (.iconst 0, 1) := by decide +kernel
theorem dc_M_isTile_2 : decode b_M_isTile 2 = .ok (.aload_n 0, 1) := by decide +kernel
theorem dc_M_isTile_3 : decode b_M_isTile 3 = .ok (.getfield 16, 3) := by decide +kernel
theorem dc_M_isTile_6 : decode b_M_isTile 6 = .ok (.aload_n 0, 1) := by decide +kernel
theorem dc_M_isTile_7 : decode b_M_isTile 7 = .ok (.getfield 71, 3) := by decide +kernel
theorem dc_M_isTile_10 : decode b_M_isTile 10 = .ok (.iaload, 1) := by decide +kernel
theorem dc_M_isTile_11 : decode b_M_isTile 11 = .ok (.iconst 1, 1) := by decide +kernel
theorem dc_M_isTile_12 : decode b_M_isTile 12 = .ok (.isub, 1) := by decide +kernel
theorem dc_M_isTile_13 : decode b_M_isTile 13 = .ok (.invokestatic 84, 3) := by decide +kernel
theorem dc_M_isTile_16 : decode b_M_isTile 16 = .ok (.ireturn, 1) := by decide +kernel
theorem dc_M_isSample_0 : decode b_M_isSample 0 = .ok (.iload_n 1, 1) := by decide +kernel
theorem dc_M_isSample_1 : decode b_M_isSample 1 = .ok (.iconst 0, 1) := by decide +kernel
theorem dc_M_isSample_2 : decode b_M_isSample 2 = .ok (.aload_n 0, 1) := by decide +kernel
theorem dc_M_isSample_3 : decode b_M_isSample 3 = .ok (.getfield 7, 3) := by decide +kernel
theorem dc_M_isSample_6 : decode b_M_isSample 6 = .ok (.aload_n 0, 1) := by decide +kernel
theorem dc_M_isSample_7 : decode b_M_isSample 7 = .ok (.getfield 71, 3) := by decide +kernel
theorem dc_M_isSample_10 : decode b_M_isSample 10 = .ok (.iaload, 1) := by decide +kernel
theorem dc_M_isSample_11 : decode b_M_isSample 11 = .ok (.iconst 1, 1) := by decide +kernel
theorem dc_M_isSample_12 : decode b_M_isSample 12 = .ok (.isub, 1) := by decide +kernel
theorem dc_M_isSample_13 : decode b_M_isSample 13 = .ok (.invokestatic 84, 3) := by decide +kernel
theorem dc_M_isSample_16 : decode b_M_isSample 16 = .ok (.ifCond .eq 26, 3) := by decide +kernel
theorem dc_M_isSample_42 : decode b_M_isSample 42 = .ok (.iconst 0, 1) := by decide +kernel
theorem dc_M_isSample_43 : decode b_M_isSample 43 = .ok (.ireturn, 1) := by decide +kernel
theorem dc_M_isSample_19 : decode b_M_isSample 19 = .ok (.iload_n 2, 1) := by decide +kernel
theorem dc_M_isSample_20 : decode b_M_isSample 20 = .ok (.iconst 0, 1) := by decide +kernel
theorem dc_M_isSample_21 : decode b_M_isSample 21 = .ok (.aload_n 0, 1) := by decide +kernel
theorem dc_M_isSample_22 : decode b_M_isSample 22 = .ok (.getfield 13, 3) := by decide +kernel
theorem dc_M_isSample_25 : decode b_M_isSample 25 = .ok (.aload_n 0, 1) := by decide +kernel
theorem dc_M_isSample_26 : decode b_M_isSample 26 = .ok (.getfield 71, 3) := by decide +kernel
theorem dc_M_isSample_29 : decode b_M_isSample 29 = .ok (.iaload, 1) := by decide +kernel
theorem dc_M_isSample_30 : decode b_M_isSample 30 = .ok (.iconst 1, 1) := by decide +kernel
theorem dc_M_isSample_31 : decode b_M_isSample 31 = .ok (.isub, 1) := by decide +kernel
theorem dc_M_isSample_32 : decode b_M_isSample 32 = .ok (.invokestatic 84, 3) := by decide +kernel
theorem dc_M_isSample_35 : decode b_M_isSample 35 = .ok (.ifCond .eq 7, 3) := by decide +kernel
theorem dc_M_isSample_38 : decode b_M_isSample 38 = .ok (.iconst 1, 1) := by decide +kernel
theorem dc_M_isSample_39 : decode b_M_isSample 39 = .ok (.goto 4, 3) := by decide +kernel
theorem dc_M_tile_0 : decode b_M_tile 0 = .ok (.aload_n 0, 1) := by decide +kernel
theorem dc_M_tile_1 : decode b_M_tile 1 = .ok (.iload_n 3, 1) := by decide +kernel
theorem dc_M_tile_2 : decode b_M_tile 2 = .ok (.iconst 1, 1) := by decide +kernel
theorem dc_M_tile_3 : decode b_M_tile 3 = .ok (.bipush 64, 2) := by decide +kernel
theorem dc_M_tile_5 : decode b_M_tile 5 = .ok (.invokestatic 84, 3) := by decide +kernel
theorem dc_M_tile_8 : decode b_M_tile 8 = .ok (.ifCond .eq 26, 3) := by decide +kernel
theorem dc_M_tile_11 : decode b_M_tile 11 = .ok (.iload 4, 2) := by decide +kernel
theorem dc_M_tile_13 : decode b_M_tile 13 = .ok (.iconst 1, 1) := by decide +kernel
theorem dc_M_tile_14 : decode b_M_tile 14 = .ok (.bipush 64, 2) := by decide +kernel
theorem dc_M_tile_16 : decode b_M_tile 16 = .ok (.invokestatic 84, 3) := by decide +kernel
theorem dc_M_tile_19 : decode b_M_tile 19 = .ok (.ifCond .eq 15, 3) := by decide +kernel
theorem dc_M_tile_22 : decode b_M_tile 22 = .ok (.aload_n 0, 1) := by decide +kernel
theorem dc_M_tile_23 : decode b_M_tile 23 = .ok (.iload_n 1, 1) := by decide +kernel
theorem dc_M_tile_24 : decode b_M_tile 24 = .ok (.iload_n 2, 1) := by decide +kernel
theorem dc_M_tile_25 : decode b_M_tile 25 = .ok (.iload_n 3, 1) := by decide +kernel
theorem dc_M_tile_26 : decode b_M_tile 26 = .ok (.iload 4, 2) := by decide +kernel
theorem dc_M_tile_28 : decode b_M_tile 28 = .ok (.invokevirtual 88, 3) := by decide +kernel
theorem dc_M_tile_31 : decode b_M_tile 31 = .ok (.ifCond .ne 7, 3) := by decide +kernel
theorem dc_M_tile_38 : decode b_M_tile 38 = .ok (.iconst 0, 1) := by decide +kernel
theorem dc_M_tile_39 : decode b_M_tile 39 = .ok (.putfield 68, 3) := by decide +kernel
theorem dc_M_tile_42 : decode b_M_tile 42 = .ok (.iconst 0, 1) := by decide +kernel
theorem dc_M_tile_43 : decode b_M_tile 43 = .ok (.istore 5, 2) := by decide +kernel
theorem dc_M_tile_45 : decode b_M_tile 45 = .ok (.iload 5, 2) := by decide +kernel
theorem dc_M_tile_47 : decode b_M_tile 47 = .ok (.aload_n 0, 1) := by decide +kernel
theorem dc_M_tile_48 : decode b_M_tile 48 = .ok (.getfield 16, 3) := by decide +kernel
theorem dc_M_tile_51 : decode b_M_tile 51 = .ok (.aload_n 0, 1) := by decide +kernel
theorem dc_M_tile_52 : decode b_M_tile 52 = .ok (.getfield 71, 3) := by decide +kernel
theorem dc_M_tile_55 : decode b_M_tile 55 = .ok (.iaload, 1) := by decide +kernel
theorem dc_M_tile_56 : decode b_M_tile 56 = .ok (.if_icmp .ge 110, 3) := by decide +kernel
theorem dc_M_tile_59 : decode b_M_tile 59 = .ok (.aload_n 0, 1) := by decide +kernel
theorem dc_M_tile_60 : decode b_M_tile 60 = .ok (.getfield 68, 3) := by decide +kernel
theorem dc_M_tile_63 : decode b_M_tile 63 = .ok (.ifCond .ne 103, 3) := by decide +kernel
theorem dc_M_tile_66 : decode b_M_tile 66 = .ok (.aload_n 0, 1) := by decide +kernel
theorem dc_M_tile_67 : decode b_M_tile 67 = .ok (.iload 5, 2) := by decide +kernel
theorem dc_M_tile_69 : decode b_M_tile 69 = .ok (.invokevirtual 92, 3) := by decide +kernel
theorem dc_M_tile_72 : decode b_M_tile 72 = .ok (.istore 6, 2) := by decide +kernel
theorem dc_M_tile_74 : decode b_M_tile 74 = .ok (.iload_n 1, 1) := by decide +kernel
theorem dc_M_tile_75 : decode b_M_tile 75 = .ok (.iload_n 3, 1) := by decide +kernel
theorem dc_M_tile_76 : decode b_M_tile 76 = .ok (.iadd, 1) := by decide +kernel
theorem dc_M_tile_77 : decode b_M_tile 77 = .ok (.aload_n 0, 1) := by decide +kernel
theorem dc_M_tile_78 : decode b_M_tile 78 = .ok (.getfield 22, 3) := by decide +kernel
theorem dc_M_tile_81 : decode b_M_tile 81 = .ok (.iload 6, 2) := by decide +kernel
theorem dc_M_tile_83 : decode b_M_tile 83 = .ok (.iaload, 1) := by decide +kernel
theorem dc_M_tile_84 : decode b_M_tile 84 = .ok (.if_icmp .le 55, 3) := by decide +kernel
theorem dc_M_tile_87 : decode b_M_tile 87 = .ok (.aload_n 0, 1) := by decide +kernel
theorem dc_M_tile_88 : decode b_M_tile 88 = .ok (.getfield 22, 3) := by decide +kernel
theorem dc_M_tile_91 : decode b_M_tile 91 = .ok (.iload 6, 2) := by decide +kernel
theorem dc_M_tile_93 : decode b_M_tile 93 = .ok (.iaload, 1) := by decide +kernel
theorem dc_M_tile_94 : decode b_M_tile 94 = .ok (.aload_n 0, 1) := by decide +kernel
theorem dc_M_tile_95 : decode b_M_tile 95 = .ok (.getfield 28, 3) := by decide +kernel
theorem dc_M_tile_98 : decode b_M_tile 98 = .ok (.iload 6, 2) := by decide +kernel
theorem dc_M_tile_100 : decode b_M_tile 100 = .ok (.iaload, 1) := by decide +kernel
theorem dc_M_tile_101 : decode b_M_tile 101 = .ok (.iadd, 1) := by decide +kernel
theorem dc_M_tile_102 : decode b_M_tile 102 = .ok (.iload_n 1, 1) := by decide +kernel
theorem dc_M_tile_103 : decode b_M_tile 103 = .ok (.if_icmp .le 36, 3) := by decide +kernel
theorem dc_M_tile_106 : decode b_M_tile 106 = .ok (.iload_n 2, 1) := by decide +kernel
theorem dc_M_tile_107 : decode b_M_tile 107 = .ok (.iload 4, 2) := by decide +kernel
theorem dc_M_tile_109 : decode b_M_tile 109 = .ok (.iadd, 1) := by decide +kernel
theorem dc_M_tile_110 : decode b_M_tile 110 = .ok (.aload_n 0, 1) := by decide +kernel
theorem dc_M_tile_111 : decode b_M_tile 111 = .ok (.getfield 25, 3) := by decide +kernel
theorem dc_M_tile_114 : decode b_M_tile 114 = .ok (.iload 6, 2) := by decide +kernel
theorem dc_M_tile_116 : decode b_M_tile 116 = .ok (.iaload, 1) := by decide +kernel
theorem dc_M_tile_117 : decode b_M_tile 117 = .ok (.if_icmp .le 22, 3) := by decide +kernel
theorem dc_M_tile_120 : decode b_M_tile 120 = .ok (.aload_n 0, 1) := by decide +kernel
theorem dc_M_tile_121 : decode b_M_tile 121 = .ok (.getfield 25, 3) := by decide +kernel
theorem dc_M_tile_124 : decode b_M_tile 124 = .ok (.iload 6, 2) := by decide +kernel
theorem dc_M_tile_126 : decode b_M_tile 126 = .ok (.iaload, 1) := by decide +kernel
theorem dc_M_tile_127 : decode b_M_tile 127 = .ok (.aload_n 0, 1) := by decide +kernel
theorem dc_M_tile_128 : decode b_M_tile 128 = .ok (.getfield 31, 3) := by decide +kernel
theorem dc_M_tile_131 : decode b_M_tile 131 = .ok (.iload 6, 2) := by decide +kernel
theorem dc_M_tile_133 : decode b_M_tile 133 = .ok (.iaload, 1) := by decide +kernel
theorem dc_M_tile_134 : decode b_M_tile 134 = .ok (.iadd, 1) := by decide +kernel
theorem dc_M_tile_135 : decode b_M_tile 135 = .ok (.iload_n 2, 1) := by decide +kernel
theorem dc_M_tile_136 : decode b_M_tile 136 = .ok (.if_icmp .gt 7, 3) := by decide +kernel
theorem dc_M_tile_143 : decode b_M_tile 143 = .ok (.iconst 0, 1) := by decide +kernel
theorem dc_M_tile_144 : decode b_M_tile 144 = .ok (.istore 7, 2) := by decide +kernel
theorem dc_M_tile_146 : decode b_M_tile 146 = .ok (.aload_n 0, 1) := by decide +kernel
theorem dc_M_tile_147 : decode b_M_tile 147 = .ok (.iload 7, 2) := by decide +kernel
theorem dc_M_tile_149 : decode b_M_tile 149 = .ok (.ifCond .eq 7, 3) := by decide +kernel
theorem dc_M_tile_156 : decode b_M_tile 156 = .ok (.iconst 2, 1) := by decide +kernel
theorem dc_M_tile_152 : decode b_M_tile 152 = .ok (.iconst 0, 1) := by decide +kernel
theorem dc_M_tile_153 : decode b_M_tile 153 = .ok (.goto 4, 3) := by decide +kernel
theorem dc_M_tile_157 : decode b_M_tile 157 = .ok (.putfield 68, 3) := by decide +kernel
theorem dc_M_tile_160 : decode b_M_tile 160 = .ok (.iinc 5 1, 3) := by decide +kernel
theorem dc_M_tile_163 : decode b_M_tile 163 = .ok (.goto (-118), 3) := by decide +kernel
theorem dc_M_tile_139 : decode b_M_tile 139 = .ok (.iconst 1, 1) := by decide +kernel
theorem dc_M_tile_140 : decode b_M_tile 140 = .ok (.goto 4, 3) := by decide +kernel
theorem dc_M_tile_166 : decode b_M_tile 166 = .ok (.aload_n 0, 1) := by decide +kernel
theorem dc_M_tile_167 : decode b_M_tile 167 = .ok (.aload_n 0, 1) := by decide +kernel
theorem dc_M_tile_168 : decode b_M_tile 168 = .ok (.getfield 68, 3) := by decide +kernel
theorem dc_M_tile_171 : decode b_M_tile 171 = .ok (.ifCond .ne 21, 3) := by decide +kernel
theorem dc_M_tile_174 : decode b_M_tile 174 = .ok (.aload_n 0, 1) := by decide +kernel
theorem dc_M_tile_175 : decode b_M_tile 175 = .ok (.getfield 16, 3) := by decide +kernel
theorem dc_M_tile_178 : decode b_M_tile 178 = .ok (.aload_n 0, 1) := by decide +kernel
theorem dc_M_tile_179 : decode b_M_tile 179 = .ok (.getfield 71, 3) := by decide +kernel
theorem dc_M_tile_182 : decode b_M_tile 182 = .ok (.iaload, 1) := by decide +kernel
theorem dc_M_tile_183 : decode b_M_tile 183 = .ok (.bipush 40, 2) := by decide +kernel
theorem dc_M_tile_185 : decode b_M_tile 185 = .ok (.if_icmp .ne 7, 3) := by decide +kernel
theorem dc_M_tile_188 : decode b_M_tile 188 = .ok (.iconst 3, 1) := by decide +kernel
theorem dc_M_tile_189 : decode b_M_tile 189 = .ok (.goto 7, 3) := by decide +kernel
theorem dc_M_tile_196 : decode b_M_tile 196 = .ok (.putfield 68, 3) := by decide +kernel
theorem dc_M_tile_199 : decode b_M_tile 199 = .ok (.aload_n 0, 1) := by decide +kernel
theorem dc_M_tile_200 : decode b_M_tile 200 = .ok (.getfield 68, 3) := by decide +kernel
theorem dc_M_tile_203 : decode b_M_tile 203 = .ok (.ifCond .le 5, 3) := by decide +kernel
theorem dc_M_tile_208 : decode b_M_tile 208 = .ok (.aload_n 0, 1) := by decide +kernel
theorem dc_M_tile_209 : decode b_M_tile 209 = .ok (.aload_n 0, 1) := by decide +kernel
theorem dc_M_tile_210 : decode b_M_tile 210 = .ok (.getfield 16, 3) := by decide +kernel
theorem dc_M_tile_213 : decode b_M_tile 213 = .ok (.aload_n 0, 1) := by decide +kernel
theorem dc_M_tile_214 : decode b_M_tile 214 = .ok (.getfield 71, 3) := by decide +kernel
theorem dc_M_tile_217 : decode b_M_tile 217 = .ok (.iaload, 1) := by decide +kernel
theorem dc_M_tile_218 : decode b_M_tile 218 = .ok (.invokevirtual 92, 3) := by decide +kernel
theorem dc_M_tile_221 : decode b_M_tile 221 = .ok (.istore 5, 2) := by decide +kernel
theorem dc_M_tile_223 : decode b_M_tile 223 = .ok (.aload_n 0, 1) := by decide +kernel
theorem dc_M_tile_224 : decode b_M_tile 224 = .ok (.getfield 22, 3) := by decide +kernel
theorem dc_M_tile_227 : decode b_M_tile 227 = .ok (.iload 5, 2) := by decide +kernel
theorem dc_M_tile_229 : decode b_M_tile 229 = .ok (.iload_n 1, 1) := by decide +kernel
theorem dc_M_tile_230 : decode b_M_tile 230 = .ok (.iastore, 1) := by decide +kernel
theorem dc_M_tile_231 : decode b_M_tile 231 = .ok (.aload_n 0, 1) := by decide +kernel
theorem dc_M_tile_232 : decode b_M_tile 232 = .ok (.getfield 25, 3) := by decide +kernel
theorem dc_M_tile_235 : decode b_M_tile 235 = .ok (.iload 5, 2) := by decide +kernel
theorem dc_M_tile_237 : decode b_M_tile 237 = .ok (.iload_n 2, 1) := by decide +kernel
theorem dc_M_tile_238 : decode b_M_tile 238 = .ok (.iastore, 1) := by decide +kernel
theorem dc_M_tile_239 : decode b_M_tile 239 = .ok (.aload_n 0, 1) := by decide +kernel
theorem dc_M_tile_240 : decode b_M_tile 240 = .ok (.getfield 28, 3) := by decide +kernel
theorem dc_M_tile_243 : decode b_M_tile 243 = .ok (.iload 5, 2) := by decide +kernel
theorem dc_M_tile_245 : decode b_M_tile 245 = .ok (.iload_n 3, 1) := by decide +kernel
theorem dc_M_tile_246 : decode b_M_tile 246 = .ok (.iastore, 1) := by decide +kernel
theorem dc_M_tile_247 : decode b_M_tile 247 = .ok (.aload_n 0, 1) := by decide +kernel
theorem dc_M_tile_248 : decode b_M_tile 248 = .ok (.getfield 31, 3) := by decide +kernel
theorem dc_M_tile_251 : decode b_M_tile 251 = .ok (.iload 5, 2) := by decide +kernel
theorem dc_M_tile_253 : decode b_M_tile 253 = .ok (.iload 4, 2) := by decide +kernel
theorem dc_M_tile_255 : decode b_M_tile 255 = .ok (.iastore, 1) := by decide +kernel
theorem dc_M_tile_256 : decode b_M_tile 256 = .ok (.aload_n 0, 1) := by decide +kernel
theorem dc_M_tile_257 : decode b_M_tile 257 = .ok (.getfield 34, 3) := by decide +kernel
theorem dc_M_tile_260 : decode b_M_tile 260 = .ok (.iload 5, 2) := by decide +kernel
theorem dc_M_tile_262 : decode b_M_tile 262 = .ok (.iconst 0, 1) := by decide +kernel
theorem dc_M_tile_263 : decode b_M_tile 263 = .ok (.iastore, 1) := by decide +kernel
theorem dc_M_tile_264 : decode b_M_tile 264 = .ok (.aload_n 0, 1) := by decide +kernel
theorem dc_M_tile_265 : decode b_M_tile 265 = .ok (.getfield 37, 3) := by decide +kernel
theorem dc_M_tile_268 : decode b_M_tile 268 = .ok (.iload 5, 2) := by decide +kernel
theorem dc_M_tile_270 : decode b_M_tile 270 = .ok (.iconst 0, 1) := by decide +kernel
theorem dc_M_tile_271 : decode b_M_tile 271 = .ok (.iastore, 1) := by decide +kernel
theorem dc_M_tile_272 : decode b_M_tile 272 = .ok (.aload_n 0, 1) := by decide +kernel
theorem dc_M_tile_273 : decode b_M_tile 273 = .ok (.getfield 16, 3) := by decide +kernel
theorem dc_M_tile_276 : decode b_M_tile 276 = .ok (.aload_n 0, 1) := by decide +kernel
theorem dc_M_tile_277 : decode b_M_tile 277 = .ok (.getfield 71, 3) := by decide +kernel
theorem dc_M_tile_280 : decode b_M_tile 280 = .ok (.dup2, 1) := by decide +kernel
theorem dc_M_tile_281 : decode b_M_tile 281 = .ok (.iaload, 1) := by decide +kernel
theorem dc_M_tile_282 : decode b_M_tile 282 = .ok (.iconst 1, 1) := by decide +kernel
theorem dc_M_tile_283 : decode b_M_tile 283 = .ok (.iadd, 1) := by decide +kernel
theorem dc_M_tile_284 : decode b_M_tile 284 = .ok (.iastore, 1) := by decide +kernel
theorem dc_M_tile_285 : decode b_M_tile 285 = .ok (.aload_n 0, 1) := by decide +kernel
theorem dc_M_tile_286 : decode b_M_tile 286 = .ok (.iconst 0, 1) := by decide +kernel
theorem dc_M_tile_287 : decode b_M_tile 287 = .ok (.putfield 77, 3) := by decide +kernel
theorem dc_M_tile_290 : decode b_M_tile 290 = .ok (.aload_n 0, 1) := by decide +kernel
theorem dc_M_tile_291 : decode b_M_tile 291 = .ok (.getfield 16, 3) := by decide +kernel
theorem dc_M_tile_294 : decode b_M_tile 294 = .ok (.aload_n 0, 1) := by decide +kernel
theorem dc_M_tile_295 : decode b_M_tile 295 = .ok (.getfield 71, 3) := by decide +kernel
theorem dc_M_tile_298 : decode b_M_tile 298 = .ok (.iaload, 1) := by decide +kernel
theorem dc_M_tile_299 : decode b_M_tile 299 = .ok (.iconst 1, 1) := by decide +kernel
theorem dc_M_tile_300 : decode b_M_tile 300 = .ok (.isub, 1) := by decide +kernel
theorem dc_M_tile_301 : decode b_M_tile 301 = .ok (.ireturn, 1) := by decide +kernel
theorem dc_M_tile_206 : decode b_M_tile 206 = .ok (.iconst 0, 1) := by decide +kernel
theorem dc_M_tile_207 : decode b_M_tile 207 = .ok (.ireturn, 1) := by decide +kernel
theorem dc_M_tile_192 : decode b_M_tile 192 = .ok (.aload_n 0, 1) := by decide +kernel
theorem dc_M_tile_193 : decode b_M_tile 193 = .ok (.getfield 68, 3) := by decide +kernel
theorem dc_M_tile_34 : decode b_M_tile 34 = .ok (.iconst 1, 1) := by decide +kernel
theorem dc_M_tile_35 : decode b_M_tile 35 = .ok (.goto 4, 3) := by decide +kernel
theorem dc_M_fits_0 : decode b_M_fits 0 = .ok (.iconst 1, 1) := by decide +kernel
theorem dc_M_fits_1 : decode b_M_fits 1 = .ok (.istore_n 3, 1) := by decide +kernel
theorem dc_M_fits_2 : decode b_M_fits 2 = .ok (.iconst 0, 1) := by decide +kernel
theorem dc_M_fits_3 : decode b_M_fits 3 = .ok (.istore 4, 2) := by decide +kernel
theorem dc_M_fits_5 : decode b_M_fits 5 = .ok (.iload 4, 2) := by decide +kernel
theorem dc_M_fits_7 : decode b_M_fits 7 = .ok (.aload_n 0, 1) := by decide +kernel
theorem dc_M_fits_8 : decode b_M_fits 8 = .ok (.getfield 16, 3) := by decide +kernel
theorem dc_M_fits_11 : decode b_M_fits 11 = .ok (.aload_n 0, 1) := by decide +kernel
theorem dc_M_fits_12 : decode b_M_fits 12 = .ok (.getfield 71, 3) := by decide +kernel
theorem dc_M_fits_15 : decode b_M_fits 15 = .ok (.iaload, 1) := by decide +kernel
theorem dc_M_fits_16 : decode b_M_fits 16 = .ok (.if_icmp .ge 88, 3) := by decide +kernel
theorem dc_M_fits_104 : decode b_M_fits 104 = .ok (.iload_n 3, 1) := by decide +kernel
theorem dc_M_fits_105 : decode b_M_fits 105 = .ok (.ireturn, 1) := by decide +kernel
theorem dc_M_fits_19 : decode b_M_fits 19 = .ok (.aload_n 0, 1) := by decide +kernel
theorem dc_M_fits_20 : decode b_M_fits 20 = .ok (.iload 4, 2) := by decide +kernel
theorem dc_M_fits_22 : decode b_M_fits 22 = .ok (.invokevirtual 92, 3) := by decide +kernel
theorem dc_M_fits_25 : decode b_M_fits 25 = .ok (.istore 5, 2) := by decide +kernel
theorem dc_M_fits_27 : decode b_M_fits 27 = .ok (.iload_n 1, 1) := by decide +kernel
theorem dc_M_fits_28 : decode b_M_fits 28 = .ok (.ifCond .eq 13, 3) := by decide +kernel
theorem dc_M_fits_41 : decode b_M_fits 41 = .ok (.aload_n 0, 1) := by decide +kernel
theorem dc_M_fits_42 : decode b_M_fits 42 = .ok (.getfield 25, 3) := by decide +kernel
theorem dc_M_fits_45 : decode b_M_fits 45 = .ok (.iload 5, 2) := by decide +kernel
theorem dc_M_fits_47 : decode b_M_fits 47 = .ok (.iaload, 1) := by decide +kernel
theorem dc_M_fits_31 : decode b_M_fits 31 = .ok (.aload_n 0, 1) := by decide +kernel
theorem dc_M_fits_32 : decode b_M_fits 32 = .ok (.getfield 22, 3) := by decide +kernel
theorem dc_M_fits_35 : decode b_M_fits 35 = .ok (.iload 5, 2) := by decide +kernel
theorem dc_M_fits_37 : decode b_M_fits 37 = .ok (.iaload, 1) := by decide +kernel
theorem dc_M_fits_38 : decode b_M_fits 38 = .ok (.goto 10, 3) := by decide +kernel
theorem dc_M_fits_48 : decode b_M_fits 48 = .ok (.istore 6, 2) := by decide +kernel
theorem dc_M_fits_50 : decode b_M_fits 50 = .ok (.iload 6, 2) := by decide +kernel
theorem dc_M_fits_52 : decode b_M_fits 52 = .ok (.iload_n 1, 1) := by decide +kernel
theorem dc_M_fits_53 : decode b_M_fits 53 = .ok (.ifCond .eq 13, 3) := by decide +kernel
theorem dc_M_fits_66 : decode b_M_fits 66 = .ok (.aload_n 0, 1) := by decide +kernel
theorem dc_M_fits_67 : decode b_M_fits 67 = .ok (.getfield 31, 3) := by decide +kernel
theorem dc_M_fits_70 : decode b_M_fits 70 = .ok (.iload 5, 2) := by decide +kernel
theorem dc_M_fits_72 : decode b_M_fits 72 = .ok (.iaload, 1) := by decide +kernel
theorem dc_M_fits_56 : decode b_M_fits 56 = .ok (.aload_n 0, 1) := by decide +kernel
theorem dc_M_fits_57 : decode b_M_fits 57 = .ok (.getfield 28, 3) := by decide +kernel
theorem dc_M_fits_60 : decode b_M_fits 60 = .ok (.iload 5, 2) := by decide +kernel
theorem dc_M_fits_62 : decode b_M_fits 62 = .ok (.iaload, 1) := by decide +kernel
theorem dc_M_fits_63 : decode b_M_fits 63 = .ok (.goto 10, 3) := by decide +kernel
theorem dc_M_fits_73 : decode b_M_fits 73 = .ok (.iadd, 1) := by decide +kernel
theorem dc_M_fits_74 : decode b_M_fits 74 = .ok (.istore 7, 2) := by decide +kernel
theorem dc_M_fits_76 : decode b_M_fits 76 = .ok (.iload_n 3, 1) := by decide +kernel
theorem dc_M_fits_77 : decode b_M_fits 77 = .ok (.ifCond .eq 19, 3) := by decide +kernel
theorem dc_M_fits_80 : decode b_M_fits 80 = .ok (.iload 7, 2) := by decide +kernel
theorem dc_M_fits_82 : decode b_M_fits 82 = .ok (.iload_n 2, 1) := by decide +kernel
theorem dc_M_fits_83 : decode b_M_fits 83 = .ok (.if_icmp .le 9, 3) := by decide +kernel
theorem dc_M_fits_86 : decode b_M_fits 86 = .ok (.iload 6, 2) := by decide +kernel
theorem dc_M_fits_88 : decode b_M_fits 88 = .ok (.iload_n 2, 1) := by decide +kernel
theorem dc_M_fits_89 : decode b_M_fits 89 = .ok (.if_icmp .lt 7, 3) := by decide +kernel
theorem dc_M_fits_92 : decode b_M_fits 92 = .ok (.iconst 1, 1) := by decide +kernel
theorem dc_M_fits_93 : decode b_M_fits 93 = .ok (.goto 4, 3) := by decide +kernel
theorem dc_M_fits_97 : decode b_M_fits 97 = .ok (.istore_n 3, 1) := by decide +kernel
theorem dc_M_fits_98 : decode b_M_fits 98 = .ok (.iinc 4 1, 3) := by decide +kernel
theorem dc_M_fits_101 : decode b_M_fits 101 = .ok (.goto (-96), 3) := by decide +kernel
theorem dc_M_fits_96 : decode b_M_fits 96 = .ok (.iconst 0, 1) := by decide +kernel
theorem dc_M_near_0 : decode b_M_near 0 = .ok (.aload_n 0, 1) := by decide +kernel
theorem dc_M_near_1 : decode b_M_near 1 = .ok (.iload_n 1, 1) := by decide +kernel
theorem dc_M_near_2 : decode b_M_near 2 = .ok (.iconst 0, 1) := by decide +kernel
theorem dc_M_near_3 : decode b_M_near 3 = .ok (.iconst 3, 1) := by decide +kernel
theorem dc_M_near_4 : decode b_M_near 4 = .ok (.invokestatic 84, 3) := by decide +kernel
theorem dc_M_near_7 : decode b_M_near 7 = .ok (.ifCond .ne 7, 3) := by decide +kernel
theorem dc_M_near_14 : decode b_M_near 14 = .ok (.aload_n 0, 1) := by decide +kernel
theorem dc_M_near_15 : decode b_M_near 15 = .ok (.getfield 77, 3) := by decide +kernel
theorem dc_M_near_18 : decode b_M_near 18 = .ok (.ifCond .ne 7, 3) := by decide +kernel
theorem dc_M_near_25 : decode b_M_near 25 = .ok (.iconst 0, 1) := by decide +kernel
theorem dc_M_near_21 : decode b_M_near 21 = .ok (.iconst 2, 1) := by decide +kernel
theorem dc_M_near_22 : decode b_M_near 22 = .ok (.goto 4, 3) := by decide +kernel
theorem dc_M_near_10 : decode b_M_near 10 = .ok (.iconst 1, 1) := by decide +kernel
theorem dc_M_near_11 : decode b_M_near 11 = .ok (.goto 15, 3) := by decide +kernel
theorem dc_M_near_26 : decode b_M_near 26 = .ok (.putfield 68, 3) := by decide +kernel
theorem dc_M_near_29 : decode b_M_near 29 = .ok (.aload_n 0, 1) := by decide +kernel
theorem dc_M_near_30 : decode b_M_near 30 = .ok (.getfield 68, 3) := by decide +kernel
theorem dc_M_near_33 : decode b_M_near 33 = .ok (.ifCond .le 7, 3) := by decide +kernel
theorem dc_M_near_40 : decode b_M_near 40 = .ok (.aload_n 0, 1) := by decide +kernel
theorem dc_M_near_41 : decode b_M_near 41 = .ok (.getfield 52, 3) := by decide +kernel
theorem dc_M_near_44 : decode b_M_near 44 = .ok (.iload_n 1, 1) := by decide +kernel
theorem dc_M_near_45 : decode b_M_near 45 = .ok (.iaload, 1) := by decide +kernel
theorem dc_M_near_46 : decode b_M_near 46 = .ok (.ireturn, 1) := by decide +kernel
theorem dc_M_near_36 : decode b_M_near 36 = .ok (.iconst 0, 1) := by decide +kernel
theorem dc_M_near_37 : decode b_M_near 37 = .ok (.goto 9, 3) := by decide +kernel
theorem dc_M_both_0 : decode b_M_both 0 = .ok (.iconst (-1), 1) := by decide +kernel
theorem dc_M_both_1 : decode b_M_both 1 = .ok (.istore_n 2, 1) := by decide +kernel
theorem dc_M_both_2 : decode b_M_both 2 = .ok (.iconst 0, 1) := by decide +kernel
theorem dc_M_both_3 : decode b_M_both 3 = .ok (.istore_n 3, 1) := by decide +kernel
theorem dc_M_both_4 : decode b_M_both 4 = .ok (.iload_n 3, 1) := by decide +kernel
theorem dc_M_both_5 : decode b_M_both 5 = .ok (.bipush 8, 2) := by decide +kernel
theorem dc_M_both_7 : decode b_M_both 7 = .ok (.if_icmp .ge 151, 3) := by decide +kernel
theorem dc_M_both_158 : decode b_M_both 158 = .ok (.iload_n 2, 1) := by decide +kernel
theorem dc_M_both_159 : decode b_M_both 159 = .ok (.ireturn, 1) := by decide +kernel
theorem dc_M_both_10 : decode b_M_both 10 = .ok (.iconst 1, 1) := by decide +kernel
theorem dc_M_both_11 : decode b_M_both 11 = .ok (.istore 4, 2) := by decide +kernel
theorem dc_M_both_13 : decode b_M_both 13 = .ok (.iconst 0, 1) := by decide +kernel
theorem dc_M_both_14 : decode b_M_both 14 = .ok (.istore 5, 2) := by decide +kernel
theorem dc_M_both_16 : decode b_M_both 16 = .ok (.iload 5, 2) := by decide +kernel
theorem dc_M_both_18 : decode b_M_both 18 = .ok (.bipush 6, 2) := by decide +kernel
theorem dc_M_both_20 : decode b_M_both 20 = .ok (.if_icmp .ge 98, 3) := by decide +kernel
theorem dc_M_both_118 : decode b_M_both 118 = .ok (.iload 4, 2) := by decide +kernel
theorem dc_M_both_120 : decode b_M_both 120 = .ok (.ifCond .eq 30, 3) := by decide +kernel
theorem dc_M_both_123 : decode b_M_both 123 = .ok (.iload_n 0, 1) := by decide +kernel
theorem dc_M_both_124 : decode b_M_both 124 = .ok (.invokestatic 123, 3) := by decide +kernel
theorem dc_M_both_127 : decode b_M_both 127 = .ok (.iload_n 1, 1) := by decide +kernel
theorem dc_M_both_128 : decode b_M_both 128 = .ok (.invokestatic 123, 3) := by decide +kernel
theorem dc_M_both_131 : decode b_M_both 131 = .ok (.if_icmp .eq 7, 3) := by decide +kernel
theorem dc_M_both_138 : decode b_M_both 138 = .ok (.iconst 0, 1) := by decide +kernel
theorem dc_M_both_134 : decode b_M_both 134 = .ok (.iconst 1, 1) := by decide +kernel
theorem dc_M_both_135 : decode b_M_both 135 = .ok (.goto 4, 3) := by decide +kernel
theorem dc_M_both_23 : decode b_M_both 23 = .ok (.iload_n 0, 1) := by decide +kernel
theorem dc_M_both_24 : decode b_M_both 24 = .ok (.iload 5, 2) := by decide +kernel
theorem dc_M_both_26 : decode b_M_both 26 = .ok (.iconst 2, 1) := by decide +kernel
theorem dc_M_both_27 : decode b_M_both 27 = .ok (.irem, 1) := by decide +kernel
theorem dc_M_both_28 : decode b_M_both 28 = .ok (.iload 5, 2) := by decide +kernel
theorem dc_M_both_30 : decode b_M_both 30 = .ok (.iconst 2, 1) := by decide +kernel
theorem dc_M_both_31 : decode b_M_both 31 = .ok (.idiv, 1) := by decide +kernel
theorem dc_M_both_32 : decode b_M_both 32 = .ok (.iconst 2, 1) := by decide +kernel
theorem dc_M_both_33 : decode b_M_both 33 = .ok (.iconst 3, 1) := by decide +kernel
theorem dc_M_both_34 : decode b_M_both 34 = .ok (.invokestatic 119, 3) := by decide +kernel
theorem dc_M_both_37 : decode b_M_both 37 = .ok (.istore 6, 2) := by decide +kernel
theorem dc_M_both_39 : decode b_M_both 39 = .ok (.iload_n 1, 1) := by decide +kernel
theorem dc_M_both_40 : decode b_M_both 40 = .ok (.iload 6, 2) := by decide +kernel
theorem dc_M_both_42 : decode b_M_both 42 = .ok (.sipush 1000, 3) := by decide +kernel
theorem dc_M_both_45 : decode b_M_both 45 = .ok (.irem, 1) := by decide +kernel
theorem dc_M_both_46 : decode b_M_both 46 = .ok (.iload 6, 2) := by decide +kernel
theorem dc_M_both_48 : decode b_M_both 48 = .ok (.sipush 1000, 3) := by decide +kernel
theorem dc_M_both_51 : decode b_M_both 51 = .ok (.idiv, 1) := by decide +kernel
theorem dc_M_both_52 : decode b_M_both 52 = .ok (.iload_n 0, 1) := by decide +kernel
theorem dc_M_both_53 : decode b_M_both 53 = .ok (.invokestatic 123, 3) := by decide +kernel
theorem dc_M_both_56 : decode b_M_both 56 = .ok (.ifCond .eq 7, 3) := by decide +kernel
theorem dc_M_both_63 : decode b_M_both 63 = .ok (.iconst 2, 1) := by decide +kernel
theorem dc_M_both_59 : decode b_M_both 59 = .ok (.iconst 3, 1) := by decide +kernel
theorem dc_M_both_60 : decode b_M_both 60 = .ok (.goto 4, 3) := by decide +kernel
theorem dc_M_both_64 : decode b_M_both 64 = .ok (.iload_n 0, 1) := by decide +kernel
theorem dc_M_both_65 : decode b_M_both 65 = .ok (.invokestatic 123, 3) := by decide +kernel
theorem dc_M_both_68 : decode b_M_both 68 = .ok (.ifCond .eq 7, 3) := by decide +kernel
theorem dc_M_both_75 : decode b_M_both 75 = .ok (.iconst 3, 1) := by decide +kernel
theorem dc_M_both_71 : decode b_M_both 71 = .ok (.iconst 2, 1) := by decide +kernel
theorem dc_M_both_72 : decode b_M_both 72 = .ok (.goto 4, 3) := by decide +kernel
theorem dc_M_both_76 : decode b_M_both 76 = .ok (.invokestatic 119, 3) := by decide +kernel
theorem dc_M_both_79 : decode b_M_both 79 = .ok (.istore 7, 2) := by decide +kernel
theorem dc_M_both_81 : decode b_M_both 81 = .ok (.iload 4, 2) := by decide +kernel
theorem dc_M_both_83 : decode b_M_both 83 = .ok (.ifCond .eq 26, 3) := by decide +kernel
theorem dc_M_both_86 : decode b_M_both 86 = .ok (.iload 7, 2) := by decide +kernel
theorem dc_M_both_88 : decode b_M_both 88 = .ok (.iload_n 3, 1) := by decide +kernel
theorem dc_M_both_89 : decode b_M_both 89 = .ok (.iload 5, 2) := by decide +kernel
theorem dc_M_both_91 : decode b_M_both 91 = .ok (.iconst 2, 1) := by decide +kernel
theorem dc_M_both_92 : decode b_M_both 92 = .ok (.irem, 1) := by decide +kernel
theorem dc_M_both_93 : decode b_M_both 93 = .ok (.iload 5, 2) := by decide +kernel
theorem dc_M_both_95 : decode b_M_both 95 = .ok (.iconst 2, 1) := by decide +kernel
theorem dc_M_both_96 : decode b_M_both 96 = .ok (.idiv, 1) := by decide +kernel
theorem dc_M_both_97 : decode b_M_both 97 = .ok (.iconst 2, 1) := by decide +kernel
theorem dc_M_both_98 : decode b_M_both 98 = .ok (.iconst 3, 1) := by decide +kernel
theorem dc_M_both_99 : decode b_M_both 99 = .ok (.invokestatic 119, 3) := by decide +kernel
theorem dc_M_both_102 : decode b_M_both 102 = .ok (.if_icmp .ne 7, 3) := by decide +kernel
theorem dc_M_both_105 : decode b_M_both 105 = .ok (.iconst 1, 1) := by decide +kernel
theorem dc_M_both_106 : decode b_M_both 106 = .ok (.goto 4, 3) := by decide +kernel
theorem dc_M_both_110 : decode b_M_both 110 = .ok (.istore 4, 2) := by decide +kernel
theorem dc_M_both_112 : decode b_M_both 112 = .ok (.iinc 5 1, 3) := by decide +kernel
theorem dc_M_both_115 : decode b_M_both 115 = .ok (.goto (-99), 3) := by decide +kernel
theorem dc_M_both_109 : decode b_M_both 109 = .ok (.iconst 0, 1) := by decide +kernel
theorem dc_M_both_139 : decode b_M_both 139 = .ok (.iload_n 3, 1) := by decide +kernel
theorem dc_M_both_140 : decode b_M_both 140 = .ok (.invokestatic 123, 3) := by decide +kernel
theorem dc_M_both_143 : decode b_M_both 143 = .ok (.if_icmp .ne 7, 3) := by decide +kernel
theorem dc_M_both_146 : decode b_M_both 146 = .ok (.iload_n 3, 1) := by decide +kernel
theorem dc_M_both_147 : decode b_M_both 147 = .ok (.goto 4, 3) := by decide +kernel
theorem dc_M_both_151 : decode b_M_both 151 = .ok (.istore_n 2, 1) := by decide +kernel
theorem dc_M_both_152 : decode b_M_both 152 = .ok (.iinc 3 1, 3) := by decide +kernel
theorem dc_M_both_155 : decode b_M_both 155 = .ok (.goto (-151), 3) := by decide +kernel
theorem dc_M_both_150 : decode b_M_both 150 = .ok (.iload_n 2, 1) := by decide +kernel
theorem dc_M_join_0 : decode b_M_join 0 = .ok (.iconst 1, 1) := by decide +kernel
theorem dc_M_join_1 : decode b_M_join 1 = .ok (.aload_n 0, 1) := by decide +kernel
theorem dc_M_join_2 : decode b_M_join 2 = .ok (.getfield 71, 3) := by decide +kernel
theorem dc_M_join_5 : decode b_M_join 5 = .ok (.isub, 1) := by decide +kernel
theorem dc_M_join_6 : decode b_M_join 6 = .ok (.istore_n 2, 1) := by decide +kernel
theorem dc_M_join_7 : decode b_M_join 7 = .ok (.iload_n 1, 1) := by decide +kernel
theorem dc_M_join_8 : decode b_M_join 8 = .ok (.ifCond .eq 8, 3) := by decide +kernel
theorem dc_M_join_11 : decode b_M_join 11 = .ok (.iload_n 1, 1) := by decide +kernel
theorem dc_M_join_12 : decode b_M_join 12 = .ok (.iconst 2, 1) := by decide +kernel
theorem dc_M_join_13 : decode b_M_join 13 = .ok (.if_icmp .ne 7, 3) := by decide +kernel
theorem dc_M_join_20 : decode b_M_join 20 = .ok (.iconst 0, 1) := by decide +kernel
theorem dc_M_join_21 : decode b_M_join 21 = .ok (.istore_n 3, 1) := by decide +kernel
theorem dc_M_join_22 : decode b_M_join 22 = .ok (.iload_n 3, 1) := by decide +kernel
theorem dc_M_join_23 : decode b_M_join 23 = .ok (.ifCond .eq 22, 3) := by decide +kernel
theorem dc_M_join_45 : decode b_M_join 45 = .ok (.aload_n 0, 1) := by decide +kernel
theorem dc_M_join_46 : decode b_M_join 46 = .ok (.getfield 13, 3) := by decide +kernel
theorem dc_M_join_49 : decode b_M_join 49 = .ok (.aload_n 0, 1) := by decide +kernel
theorem dc_M_join_50 : decode b_M_join 50 = .ok (.getfield 71, 3) := by decide +kernel
theorem dc_M_join_53 : decode b_M_join 53 = .ok (.iaload, 1) := by decide +kernel
theorem dc_M_join_54 : decode b_M_join 54 = .ok (.aload_n 0, 1) := by decide +kernel
theorem dc_M_join_55 : decode b_M_join 55 = .ok (.getfield 13, 3) := by decide +kernel
theorem dc_M_join_58 : decode b_M_join 58 = .ok (.iload_n 2, 1) := by decide +kernel
theorem dc_M_join_59 : decode b_M_join 59 = .ok (.iaload, 1) := by decide +kernel
theorem dc_M_join_60 : decode b_M_join 60 = .ok (.iadd, 1) := by decide +kernel
theorem dc_M_join_26 : decode b_M_join 26 = .ok (.aload_n 0, 1) := by decide +kernel
theorem dc_M_join_27 : decode b_M_join 27 = .ok (.getfield 7, 3) := by decide +kernel
theorem dc_M_join_30 : decode b_M_join 30 = .ok (.aload_n 0, 1) := by decide +kernel
theorem dc_M_join_31 : decode b_M_join 31 = .ok (.getfield 71, 3) := by decide +kernel
theorem dc_M_join_34 : decode b_M_join 34 = .ok (.iaload, 1) := by decide +kernel
theorem dc_M_join_35 : decode b_M_join 35 = .ok (.aload_n 0, 1) := by decide +kernel
theorem dc_M_join_36 : decode b_M_join 36 = .ok (.getfield 7, 3) := by decide +kernel
theorem dc_M_join_39 : decode b_M_join 39 = .ok (.iload_n 2, 1) := by decide +kernel
theorem dc_M_join_40 : decode b_M_join 40 = .ok (.iaload, 1) := by decide +kernel
theorem dc_M_join_41 : decode b_M_join 41 = .ok (.iadd, 1) := by decide +kernel
theorem dc_M_join_42 : decode b_M_join 42 = .ok (.goto 19, 3) := by decide +kernel
theorem dc_M_join_61 : decode b_M_join 61 = .ok (.istore 4, 2) := by decide +kernel
theorem dc_M_join_63 : decode b_M_join 63 = .ok (.iload_n 3, 1) := by decide +kernel
theorem dc_M_join_64 : decode b_M_join 64 = .ok (.ifCond .eq 29, 3) := by decide +kernel
theorem dc_M_join_93 : decode b_M_join 93 = .ok (.aload_n 0, 1) := by decide +kernel
theorem dc_M_join_94 : decode b_M_join 94 = .ok (.getfield 7, 3) := by decide +kernel
theorem dc_M_join_97 : decode b_M_join 97 = .ok (.aload_n 0, 1) := by decide +kernel
theorem dc_M_join_98 : decode b_M_join 98 = .ok (.getfield 71, 3) := by decide +kernel
theorem dc_M_join_101 : decode b_M_join 101 = .ok (.iaload, 1) := by decide +kernel
theorem dc_M_join_102 : decode b_M_join 102 = .ok (.aload_n 0, 1) := by decide +kernel
theorem dc_M_join_103 : decode b_M_join 103 = .ok (.getfield 7, 3) := by decide +kernel
theorem dc_M_join_106 : decode b_M_join 106 = .ok (.iload_n 2, 1) := by decide +kernel
theorem dc_M_join_107 : decode b_M_join 107 = .ok (.iaload, 1) := by decide +kernel
theorem dc_M_join_108 : decode b_M_join 108 = .ok (.if_icmp .ne 7, 3) := by decide +kernel
theorem dc_M_join_115 : decode b_M_join 115 = .ok (.iconst 0, 1) := by decide +kernel
theorem dc_M_join_111 : decode b_M_join 111 = .ok (.iconst 1, 1) := by decide +kernel
theorem dc_M_join_112 : decode b_M_join 112 = .ok (.goto 4, 3) := by decide +kernel
theorem dc_M_join_67 : decode b_M_join 67 = .ok (.aload_n 0, 1) := by decide +kernel
theorem dc_M_join_68 : decode b_M_join 68 = .ok (.getfield 13, 3) := by decide +kernel
theorem dc_M_join_71 : decode b_M_join 71 = .ok (.aload_n 0, 1) := by decide +kernel
theorem dc_M_join_72 : decode b_M_join 72 = .ok (.getfield 71, 3) := by decide +kernel
theorem dc_M_join_75 : decode b_M_join 75 = .ok (.iaload, 1) := by decide +kernel
theorem dc_M_join_76 : decode b_M_join 76 = .ok (.aload_n 0, 1) := by decide +kernel
theorem dc_M_join_77 : decode b_M_join 77 = .ok (.getfield 13, 3) := by decide +kernel
theorem dc_M_join_80 : decode b_M_join 80 = .ok (.iload_n 2, 1) := by decide +kernel
theorem dc_M_join_81 : decode b_M_join 81 = .ok (.iaload, 1) := by decide +kernel
theorem dc_M_join_82 : decode b_M_join 82 = .ok (.if_icmp .ne 7, 3) := by decide +kernel
theorem dc_M_join_89 : decode b_M_join 89 = .ok (.iconst 0, 1) := by decide +kernel
theorem dc_M_join_90 : decode b_M_join 90 = .ok (.goto 26, 3) := by decide +kernel
theorem dc_M_join_85 : decode b_M_join 85 = .ok (.iconst 1, 1) := by decide +kernel
theorem dc_M_join_86 : decode b_M_join 86 = .ok (.goto 30, 3) := by decide +kernel
theorem dc_M_join_116 : decode b_M_join 116 = .ok (.istore 5, 2) := by decide +kernel
theorem dc_M_join_118 : decode b_M_join 118 = .ok (.aload_n 0, 1) := by decide +kernel
theorem dc_M_join_119 : decode b_M_join 119 = .ok (.iload_n 1, 1) := by decide +kernel
theorem dc_M_join_120 : decode b_M_join 120 = .ok (.iconst 0, 1) := by decide +kernel
theorem dc_M_join_121 : decode b_M_join 121 = .ok (.iconst 3, 1) := by decide +kernel
theorem dc_M_join_122 : decode b_M_join 122 = .ok (.invokestatic 84, 3) := by decide +kernel
theorem dc_M_join_125 : decode b_M_join 125 = .ok (.ifCond .ne 7, 3) := by decide +kernel
theorem dc_M_join_132 : decode b_M_join 132 = .ok (.iload 5, 2) := by decide +kernel
theorem dc_M_join_134 : decode b_M_join 134 = .ok (.ifCond .ne 7, 3) := by decide +kernel
theorem dc_M_join_141 : decode b_M_join 141 = .ok (.iload 4, 2) := by decide +kernel
theorem dc_M_join_143 : decode b_M_join 143 = .ok (.sipush 400, 3) := by decide +kernel
theorem dc_M_join_146 : decode b_M_join 146 = .ok (.if_icmp .gt 45, 3) := by decide +kernel
theorem dc_M_join_149 : decode b_M_join 149 = .ok (.aload_n 0, 1) := by decide +kernel
theorem dc_M_join_150 : decode b_M_join 150 = .ok (.getfield 16, 3) := by decide +kernel
theorem dc_M_join_153 : decode b_M_join 153 = .ok (.aload_n 0, 1) := by decide +kernel
theorem dc_M_join_154 : decode b_M_join 154 = .ok (.getfield 71, 3) := by decide +kernel
theorem dc_M_join_157 : decode b_M_join 157 = .ok (.iaload, 1) := by decide +kernel
theorem dc_M_join_158 : decode b_M_join 158 = .ok (.aload_n 0, 1) := by decide +kernel
theorem dc_M_join_159 : decode b_M_join 159 = .ok (.getfield 16, 3) := by decide +kernel
theorem dc_M_join_162 : decode b_M_join 162 = .ok (.iload_n 2, 1) := by decide +kernel
theorem dc_M_join_163 : decode b_M_join 163 = .ok (.iaload, 1) := by decide +kernel
theorem dc_M_join_164 : decode b_M_join 164 = .ok (.iadd, 1) := by decide +kernel
theorem dc_M_join_165 : decode b_M_join 165 = .ok (.bipush 40, 2) := by decide +kernel
theorem dc_M_join_167 : decode b_M_join 167 = .ok (.if_icmp .gt 24, 3) := by decide +kernel
theorem dc_M_join_170 : decode b_M_join 170 = .ok (.aload_n 0, 1) := by decide +kernel
theorem dc_M_join_171 : decode b_M_join 171 = .ok (.getfield 19, 3) := by decide +kernel
theorem dc_M_join_174 : decode b_M_join 174 = .ok (.aload_n 0, 1) := by decide +kernel
theorem dc_M_join_175 : decode b_M_join 175 = .ok (.getfield 71, 3) := by decide +kernel
theorem dc_M_join_178 : decode b_M_join 178 = .ok (.iaload, 1) := by decide +kernel
theorem dc_M_join_179 : decode b_M_join 179 = .ok (.aload_n 0, 1) := by decide +kernel
theorem dc_M_join_180 : decode b_M_join 180 = .ok (.getfield 19, 3) := by decide +kernel
theorem dc_M_join_183 : decode b_M_join 183 = .ok (.iload_n 2, 1) := by decide +kernel
theorem dc_M_join_184 : decode b_M_join 184 = .ok (.iaload, 1) := by decide +kernel
theorem dc_M_join_185 : decode b_M_join 185 = .ok (.iadd, 1) := by decide +kernel
theorem dc_M_join_186 : decode b_M_join 186 = .ok (.bipush 20, 2) := by decide +kernel
theorem dc_M_join_188 : decode b_M_join 188 = .ok (.if_icmp .le 7, 3) := by decide +kernel
theorem dc_M_join_195 : decode b_M_join 195 = .ok (.iconst 0, 1) := by decide +kernel
theorem dc_M_join_137 : decode b_M_join 137 = .ok (.iconst 2, 1) := by decide +kernel
theorem dc_M_join_138 : decode b_M_join 138 = .ok (.goto 58, 3) := by decide +kernel
theorem dc_M_join_128 : decode b_M_join 128 = .ok (.iconst 1, 1) := by decide +kernel
theorem dc_M_join_129 : decode b_M_join 129 = .ok (.goto 67, 3) := by decide +kernel
theorem dc_M_join_196 : decode b_M_join 196 = .ok (.putfield 68, 3) := by decide +kernel
theorem dc_M_join_199 : decode b_M_join 199 = .ok (.aload_n 0, 1) := by decide +kernel
theorem dc_M_join_200 : decode b_M_join 200 = .ok (.getfield 68, 3) := by decide +kernel
theorem dc_M_join_203 : decode b_M_join 203 = .ok (.ifCond .le 5, 3) := by decide +kernel
theorem dc_M_join_208 : decode b_M_join 208 = .ok (.iload_n 1, 1) := by decide +kernel
theorem dc_M_join_209 : decode b_M_join 209 = .ok (.ifCond .ne 12, 3) := by decide +kernel
theorem dc_M_join_221 : decode b_M_join 221 = .ok (.iconst 0, 1) := by decide +kernel
theorem dc_M_join_212 : decode b_M_join 212 = .ok (.aload_n 0, 1) := by decide +kernel
theorem dc_M_join_213 : decode b_M_join 213 = .ok (.getfield 7, 3) := by decide +kernel
theorem dc_M_join_216 : decode b_M_join 216 = .ok (.iload_n 2, 1) := by decide +kernel
theorem dc_M_join_217 : decode b_M_join 217 = .ok (.iaload, 1) := by decide +kernel
theorem dc_M_join_218 : decode b_M_join 218 = .ok (.goto 4, 3) := by decide +kernel
theorem dc_M_join_206 : decode b_M_join 206 = .ok (.iconst 0, 1) := by decide +kernel
theorem dc_M_join_207 : decode b_M_join 207 = .ok (.ireturn, 1) := by decide +kernel
theorem dc_M_join_222 : decode b_M_join 222 = .ok (.istore 6, 2) := by decide +kernel
theorem dc_M_join_224 : decode b_M_join 224 = .ok (.iload_n 1, 1) := by decide +kernel
theorem dc_M_join_225 : decode b_M_join 225 = .ok (.iconst 1, 1) := by decide +kernel
theorem dc_M_join_226 : decode b_M_join 226 = .ok (.if_icmp .ne 12, 3) := by decide +kernel
theorem dc_M_join_238 : decode b_M_join 238 = .ok (.iconst 0, 1) := by decide +kernel
theorem dc_M_join_229 : decode b_M_join 229 = .ok (.aload_n 0, 1) := by decide +kernel
theorem dc_M_join_230 : decode b_M_join 230 = .ok (.getfield 13, 3) := by decide +kernel
theorem dc_M_join_233 : decode b_M_join 233 = .ok (.iload_n 2, 1) := by decide +kernel
theorem dc_M_join_234 : decode b_M_join 234 = .ok (.iaload, 1) := by decide +kernel
theorem dc_M_join_235 : decode b_M_join 235 = .ok (.goto 4, 3) := by decide +kernel
theorem dc_M_join_239 : decode b_M_join 239 = .ok (.istore 7, 2) := by decide +kernel
theorem dc_M_join_241 : decode b_M_join 241 = .ok (.iload_n 1, 1) := by decide +kernel
theorem dc_M_join_242 : decode b_M_join 242 = .ok (.iconst 2, 1) := by decide +kernel
theorem dc_M_join_243 : decode b_M_join 243 = .ok (.if_icmp .ne 15, 3) := by decide +kernel
theorem dc_M_join_258 : decode b_M_join 258 = .ok (.iconst 0, 1) := by decide +kernel
theorem dc_M_join_246 : decode b_M_join 246 = .ok (.aload_n 0, 1) := by decide +kernel
theorem dc_M_join_247 : decode b_M_join 247 = .ok (.getfield 7, 3) := by decide +kernel
theorem dc_M_join_250 : decode b_M_join 250 = .ok (.aload_n 0, 1) := by decide +kernel
theorem dc_M_join_251 : decode b_M_join 251 = .ok (.getfield 71, 3) := by decide +kernel
theorem dc_M_join_254 : decode b_M_join 254 = .ok (.iaload, 1) := by decide +kernel
theorem dc_M_join_255 : decode b_M_join 255 = .ok (.goto 4, 3) := by decide +kernel
theorem dc_M_join_259 : decode b_M_join 259 = .ok (.istore 8, 2) := by decide +kernel
theorem dc_M_join_261 : decode b_M_join 261 = .ok (.iload_n 1, 1) := by decide +kernel
theorem dc_M_join_262 : decode b_M_join 262 = .ok (.iconst 3, 1) := by decide +kernel
theorem dc_M_join_263 : decode b_M_join 263 = .ok (.if_icmp .ne 15, 3) := by decide +kernel
theorem dc_M_join_278 : decode b_M_join 278 = .ok (.iconst 0, 1) := by decide +kernel
theorem dc_M_join_266 : decode b_M_join 266 = .ok (.aload_n 0, 1) := by decide +kernel
theorem dc_M_join_267 : decode b_M_join 267 = .ok (.getfield 13, 3) := by decide +kernel
theorem dc_M_join_270 : decode b_M_join 270 = .ok (.aload_n 0, 1) := by decide +kernel
theorem dc_M_join_271 : decode b_M_join 271 = .ok (.getfield 71, 3) := by decide +kernel
theorem dc_M_join_274 : decode b_M_join 274 = .ok (.iaload, 1) := by decide +kernel
theorem dc_M_join_275 : decode b_M_join 275 = .ok (.goto 4, 3) := by decide +kernel
theorem dc_M_join_279 : decode b_M_join 279 = .ok (.istore 9, 2) := by decide +kernel
theorem dc_M_join_281 : decode b_M_join 281 = .ok (.iconst 0, 1) := by decide +kernel
theorem dc_M_join_282 : decode b_M_join 282 = .ok (.istore 10, 2) := by decide +kernel
theorem dc_M_join_284 : decode b_M_join 284 = .ok (.iload 10, 2) := by decide +kernel
theorem dc_M_join_286 : decode b_M_join 286 = .ok (.aload_n 0, 1) := by decide +kernel
theorem dc_M_join_287 : decode b_M_join 287 = .ok (.getfield 16, 3) := by decide +kernel
theorem dc_M_join_290 : decode b_M_join 290 = .ok (.aload_n 0, 1) := by decide +kernel
theorem dc_M_join_291 : decode b_M_join 291 = .ok (.getfield 71, 3) := by decide +kernel
theorem dc_M_join_294 : decode b_M_join 294 = .ok (.iaload, 1) := by decide +kernel
theorem dc_M_join_295 : decode b_M_join 295 = .ok (.if_icmp .ge 41, 3) := by decide +kernel
theorem dc_M_join_336 : decode b_M_join 336 = .ok (.bipush 20, 2) := by decide +kernel
theorem dc_M_join_338 : decode b_M_join 338 = .ok (.aload_n 0, 1) := by decide +kernel
theorem dc_M_join_339 : decode b_M_join 339 = .ok (.getfield 71, 3) := by decide +kernel
theorem dc_M_join_342 : decode b_M_join 342 = .ok (.imul, 1) := by decide +kernel
theorem dc_M_join_343 : decode b_M_join 343 = .ok (.istore 10, 2) := by decide +kernel
theorem dc_M_join_298 : decode b_M_join 298 = .ok (.aload_n 0, 1) := by decide +kernel
theorem dc_M_join_299 : decode b_M_join 299 = .ok (.getfield 22, 3) := by decide +kernel
theorem dc_M_join_302 : decode b_M_join 302 = .ok (.aload_n 0, 1) := by decide +kernel
theorem dc_M_join_303 : decode b_M_join 303 = .ok (.iload 10, 2) := by decide +kernel
theorem dc_M_join_305 : decode b_M_join 305 = .ok (.invokevirtual 92, 3) := by decide +kernel
theorem dc_M_join_308 : decode b_M_join 308 = .ok (.dup2, 1) := by decide +kernel
theorem dc_M_join_309 : decode b_M_join 309 = .ok (.iaload, 1) := by decide +kernel
theorem dc_M_join_310 : decode b_M_join 310 = .ok (.iload 6, 2) := by decide +kernel
theorem dc_M_join_312 : decode b_M_join 312 = .ok (.iadd, 1) := by decide +kernel
theorem dc_M_join_313 : decode b_M_join 313 = .ok (.iastore, 1) := by decide +kernel
theorem dc_M_join_314 : decode b_M_join 314 = .ok (.aload_n 0, 1) := by decide +kernel
theorem dc_M_join_315 : decode b_M_join 315 = .ok (.getfield 25, 3) := by decide +kernel
theorem dc_M_join_318 : decode b_M_join 318 = .ok (.aload_n 0, 1) := by decide +kernel
theorem dc_M_join_319 : decode b_M_join 319 = .ok (.iload 10, 2) := by decide +kernel
theorem dc_M_join_321 : decode b_M_join 321 = .ok (.invokevirtual 92, 3) := by decide +kernel
theorem dc_M_join_324 : decode b_M_join 324 = .ok (.dup2, 1) := by decide +kernel
theorem dc_M_join_325 : decode b_M_join 325 = .ok (.iaload, 1) := by decide +kernel
theorem dc_M_join_326 : decode b_M_join 326 = .ok (.iload 7, 2) := by decide +kernel
theorem dc_M_join_328 : decode b_M_join 328 = .ok (.iadd, 1) := by decide +kernel
theorem dc_M_join_329 : decode b_M_join 329 = .ok (.iastore, 1) := by decide +kernel
theorem dc_M_join_330 : decode b_M_join 330 = .ok (.iinc 10 1, 3) := by decide +kernel
theorem dc_M_join_333 : decode b_M_join 333 = .ok (.goto (-49), 3) := by decide +kernel
theorem dc_M_join_345 : decode b_M_join 345 = .ok (.iload 10, 2) := by decide +kernel
theorem dc_M_join_347 : decode b_M_join 347 = .ok (.bipush 20, 2) := by decide +kernel
theorem dc_M_join_349 : decode b_M_join 349 = .ok (.aload_n 0, 1) := by decide +kernel
theorem dc_M_join_350 : decode b_M_join 350 = .ok (.getfield 71, 3) := by decide +kernel
theorem dc_M_join_353 : decode b_M_join 353 = .ok (.imul, 1) := by decide +kernel
theorem dc_M_join_354 : decode b_M_join 354 = .ok (.aload_n 0, 1) := by decide +kernel
theorem dc_M_join_355 : decode b_M_join 355 = .ok (.getfield 19, 3) := by decide +kernel
theorem dc_M_join_358 : decode b_M_join 358 = .ok (.aload_n 0, 1) := by decide +kernel
theorem dc_M_join_359 : decode b_M_join 359 = .ok (.getfield 71, 3) := by decide +kernel
theorem dc_M_join_362 : decode b_M_join 362 = .ok (.iaload, 1) := by decide +kernel
theorem dc_M_join_363 : decode b_M_join 363 = .ok (.iadd, 1) := by decide +kernel
theorem dc_M_join_364 : decode b_M_join 364 = .ok (.if_icmp .ge 33, 3) := by decide +kernel
theorem dc_M_join_397 : decode b_M_join 397 = .ok (.iconst 0, 1) := by decide +kernel
theorem dc_M_join_398 : decode b_M_join 398 = .ok (.istore 10, 2) := by decide +kernel
theorem dc_M_join_367 : decode b_M_join 367 = .ok (.aload_n 0, 1) := by decide +kernel
theorem dc_M_join_368 : decode b_M_join 368 = .ok (.getfield 43, 3) := by decide +kernel
theorem dc_M_join_371 : decode b_M_join 371 = .ok (.iload 10, 2) := by decide +kernel
theorem dc_M_join_373 : decode b_M_join 373 = .ok (.dup2, 1) := by decide +kernel
theorem dc_M_join_374 : decode b_M_join 374 = .ok (.iaload, 1) := by decide +kernel
theorem dc_M_join_375 : decode b_M_join 375 = .ok (.iload 6, 2) := by decide +kernel
theorem dc_M_join_377 : decode b_M_join 377 = .ok (.iadd, 1) := by decide +kernel
theorem dc_M_join_378 : decode b_M_join 378 = .ok (.iastore, 1) := by decide +kernel
theorem dc_M_join_379 : decode b_M_join 379 = .ok (.aload_n 0, 1) := by decide +kernel
theorem dc_M_join_380 : decode b_M_join 380 = .ok (.getfield 46, 3) := by decide +kernel
theorem dc_M_join_383 : decode b_M_join 383 = .ok (.iload 10, 2) := by decide +kernel
theorem dc_M_join_385 : decode b_M_join 385 = .ok (.dup2, 1) := by decide +kernel
theorem dc_M_join_386 : decode b_M_join 386 = .ok (.iaload, 1) := by decide +kernel
theorem dc_M_join_387 : decode b_M_join 387 = .ok (.iload 7, 2) := by decide +kernel
theorem dc_M_join_389 : decode b_M_join 389 = .ok (.iadd, 1) := by decide +kernel
theorem dc_M_join_390 : decode b_M_join 390 = .ok (.iastore, 1) := by decide +kernel
theorem dc_M_join_391 : decode b_M_join 391 = .ok (.iinc 10 1, 3) := by decide +kernel
theorem dc_M_join_394 : decode b_M_join 394 = .ok (.goto (-49), 3) := by decide +kernel
theorem dc_M_join_400 : decode b_M_join 400 = .ok (.iload 10, 2) := by decide +kernel
theorem dc_M_join_402 : decode b_M_join 402 = .ok (.aload_n 0, 1) := by decide +kernel
theorem dc_M_join_403 : decode b_M_join 403 = .ok (.getfield 16, 3) := by decide +kernel
theorem dc_M_join_406 : decode b_M_join 406 = .ok (.iload_n 2, 1) := by decide +kernel
theorem dc_M_join_407 : decode b_M_join 407 = .ok (.iaload, 1) := by decide +kernel
theorem dc_M_join_408 : decode b_M_join 408 = .ok (.if_icmp .ge 74, 3) := by decide +kernel
theorem dc_M_join_482 : decode b_M_join 482 = .ok (.iconst 0, 1) := by decide +kernel
theorem dc_M_join_483 : decode b_M_join 483 = .ok (.istore 10, 2) := by decide +kernel
theorem dc_M_join_411 : decode b_M_join 411 = .ok (.aload_n 0, 1) := by decide +kernel
theorem dc_M_join_412 : decode b_M_join 412 = .ok (.aload_n 0, 1) := by decide +kernel
theorem dc_M_join_413 : decode b_M_join 413 = .ok (.getfield 16, 3) := by decide +kernel
theorem dc_M_join_416 : decode b_M_join 416 = .ok (.aload_n 0, 1) := by decide +kernel
theorem dc_M_join_417 : decode b_M_join 417 = .ok (.getfield 71, 3) := by decide +kernel
theorem dc_M_join_420 : decode b_M_join 420 = .ok (.iaload, 1) := by decide +kernel
theorem dc_M_join_421 : decode b_M_join 421 = .ok (.invokevirtual 92, 3) := by decide +kernel
theorem dc_M_join_424 : decode b_M_join 424 = .ok (.istore 11, 2) := by decide +kernel
theorem dc_M_join_426 : decode b_M_join 426 = .ok (.aload_n 0, 1) := by decide +kernel
theorem dc_M_join_427 : decode b_M_join 427 = .ok (.bipush 40, 2) := by decide +kernel
theorem dc_M_join_429 : decode b_M_join 429 = .ok (.iload_n 2, 1) := by decide +kernel
theorem dc_M_join_430 : decode b_M_join 430 = .ok (.imul, 1) := by decide +kernel
theorem dc_M_join_431 : decode b_M_join 431 = .ok (.iload 10, 2) := by decide +kernel
theorem dc_M_join_433 : decode b_M_join 433 = .ok (.iadd, 1) := by decide +kernel
theorem dc_M_join_434 : decode b_M_join 434 = .ok (.iload 11, 2) := by decide +kernel
theorem dc_M_join_436 : decode b_M_join 436 = .ok (.invokevirtual 112, 3) := by decide +kernel
theorem dc_M_join_439 : decode b_M_join 439 = .ok (.aload_n 0, 1) := by decide +kernel
theorem dc_M_join_440 : decode b_M_join 440 = .ok (.getfield 22, 3) := by decide +kernel
theorem dc_M_join_443 : decode b_M_join 443 = .ok (.iload 11, 2) := by decide +kernel
theorem dc_M_join_445 : decode b_M_join 445 = .ok (.dup2, 1) := by decide +kernel
theorem dc_M_join_446 : decode b_M_join 446 = .ok (.iaload, 1) := by decide +kernel
theorem dc_M_join_447 : decode b_M_join 447 = .ok (.iload 8, 2) := by decide +kernel
theorem dc_M_join_449 : decode b_M_join 449 = .ok (.iadd, 1) := by decide +kernel
theorem dc_M_join_450 : decode b_M_join 450 = .ok (.iastore, 1) := by decide +kernel
theorem dc_M_join_451 : decode b_M_join 451 = .ok (.aload_n 0, 1) := by decide +kernel
theorem dc_M_join_452 : decode b_M_join 452 = .ok (.getfield 25, 3) := by decide +kernel
theorem dc_M_join_455 : decode b_M_join 455 = .ok (.iload 11, 2) := by decide +kernel
theorem dc_M_join_457 : decode b_M_join 457 = .ok (.dup2, 1) := by decide +kernel
theorem dc_M_join_458 : decode b_M_join 458 = .ok (.iaload, 1) := by decide +kernel
theorem dc_M_join_459 : decode b_M_join 459 = .ok (.iload 9, 2) := by decide +kernel
theorem dc_M_join_461 : decode b_M_join 461 = .ok (.iadd, 1) := by decide +kernel
theorem dc_M_join_462 : decode b_M_join 462 = .ok (.iastore, 1) := by decide +kernel
theorem dc_M_join_463 : decode b_M_join 463 = .ok (.aload_n 0, 1) := by decide +kernel
theorem dc_M_join_464 : decode b_M_join 464 = .ok (.getfield 16, 3) := by decide +kernel
theorem dc_M_join_467 : decode b_M_join 467 = .ok (.aload_n 0, 1) := by decide +kernel
theorem dc_M_join_468 : decode b_M_join 468 = .ok (.getfield 71, 3) := by decide +kernel
theorem dc_M_join_471 : decode b_M_join 471 = .ok (.dup2, 1) := by decide +kernel
theorem dc_M_join_472 : decode b_M_join 472 = .ok (.iaload, 1) := by decide +kernel
theorem dc_M_join_473 : decode b_M_join 473 = .ok (.iconst 1, 1) := by decide +kernel
theorem dc_M_join_474 : decode b_M_join 474 = .ok (.iadd, 1) := by decide +kernel
theorem dc_M_join_475 : decode b_M_join 475 = .ok (.iastore, 1) := by decide +kernel
theorem dc_M_join_476 : decode b_M_join 476 = .ok (.iinc 10 1, 3) := by decide +kernel
theorem dc_M_join_479 : decode b_M_join 479 = .ok (.goto (-79), 3) := by decide +kernel
theorem dc_M_join_485 : decode b_M_join 485 = .ok (.iload 10, 2) := by decide +kernel
theorem dc_M_join_487 : decode b_M_join 487 = .ok (.aload_n 0, 1) := by decide +kernel
theorem dc_M_join_488 : decode b_M_join 488 = .ok (.getfield 19, 3) := by decide +kernel
theorem dc_M_join_491 : decode b_M_join 491 = .ok (.iload_n 2, 1) := by decide +kernel
theorem dc_M_join_492 : decode b_M_join 492 = .ok (.iaload, 1) := by decide +kernel
theorem dc_M_join_493 : decode b_M_join 493 = .ok (.if_icmp .ge 78, 3) := by decide +kernel
theorem dc_M_join_571 : decode b_M_join 571 = .ok (.aload_n 0, 1) := by decide +kernel
theorem dc_M_join_572 : decode b_M_join 572 = .ok (.getfield 16, 3) := by decide +kernel
theorem dc_M_join_575 : decode b_M_join 575 = .ok (.iload_n 2, 1) := by decide +kernel
theorem dc_M_join_576 : decode b_M_join 576 = .ok (.iconst 0, 1) := by decide +kernel
theorem dc_M_join_577 : decode b_M_join 577 = .ok (.iastore, 1) := by decide +kernel
theorem dc_M_join_578 : decode b_M_join 578 = .ok (.aload_n 0, 1) := by decide +kernel
theorem dc_M_join_579 : decode b_M_join 579 = .ok (.getfield 19, 3) := by decide +kernel
theorem dc_M_join_582 : decode b_M_join 582 = .ok (.iload_n 2, 1) := by decide +kernel
theorem dc_M_join_583 : decode b_M_join 583 = .ok (.iconst 0, 1) := by decide +kernel
theorem dc_M_join_584 : decode b_M_join 584 = .ok (.iastore, 1) := by decide +kernel
theorem dc_M_join_585 : decode b_M_join 585 = .ok (.aload_n 0, 1) := by decide +kernel
theorem dc_M_join_586 : decode b_M_join 586 = .ok (.getfield 7, 3) := by decide +kernel
theorem dc_M_join_589 : decode b_M_join 589 = .ok (.aload_n 0, 1) := by decide +kernel
theorem dc_M_join_590 : decode b_M_join 590 = .ok (.getfield 71, 3) := by decide +kernel
theorem dc_M_join_593 : decode b_M_join 593 = .ok (.iload_n 3, 1) := by decide +kernel
theorem dc_M_join_594 : decode b_M_join 594 = .ok (.ifCond .eq 8, 3) := by decide +kernel
theorem dc_M_join_602 : decode b_M_join 602 = .ok (.aload_n 0, 1) := by decide +kernel
theorem dc_M_join_603 : decode b_M_join 603 = .ok (.getfield 7, 3) := by decide +kernel
theorem dc_M_join_606 : decode b_M_join 606 = .ok (.aload_n 0, 1) := by decide +kernel
theorem dc_M_join_607 : decode b_M_join 607 = .ok (.getfield 71, 3) := by decide +kernel
theorem dc_M_join_610 : decode b_M_join 610 = .ok (.iaload, 1) := by decide +kernel
theorem dc_M_join_597 : decode b_M_join 597 = .ok (.iload 4, 2) := by decide +kernel
theorem dc_M_join_599 : decode b_M_join 599 = .ok (.goto 12, 3) := by decide +kernel
theorem dc_M_join_496 : decode b_M_join 496 = .ok (.bipush 20, 2) := by decide +kernel
theorem dc_M_join_498 : decode b_M_join 498 = .ok (.aload_n 0, 1) := by decide +kernel
theorem dc_M_join_499 : decode b_M_join 499 = .ok (.getfield 71, 3) := by decide +kernel
theorem dc_M_join_502 : decode b_M_join 502 = .ok (.imul, 1) := by decide +kernel
theorem dc_M_join_503 : decode b_M_join 503 = .ok (.aload_n 0, 1) := by decide +kernel
theorem dc_M_join_504 : decode b_M_join 504 = .ok (.getfield 19, 3) := by decide +kernel
theorem dc_M_join_507 : decode b_M_join 507 = .ok (.aload_n 0, 1) := by decide +kernel
theorem dc_M_join_508 : decode b_M_join 508 = .ok (.getfield 71, 3) := by decide +kernel
theorem dc_M_join_511 : decode b_M_join 511 = .ok (.iaload, 1) := by decide +kernel
theorem dc_M_join_512 : decode b_M_join 512 = .ok (.iadd, 1) := by decide +kernel
theorem dc_M_join_513 : decode b_M_join 513 = .ok (.istore 11, 2) := by decide +kernel
theorem dc_M_join_515 : decode b_M_join 515 = .ok (.aload_n 0, 1) := by decide +kernel
theorem dc_M_join_516 : decode b_M_join 516 = .ok (.bipush 20, 2) := by decide +kernel
theorem dc_M_join_518 : decode b_M_join 518 = .ok (.iload_n 2, 1) := by decide +kernel
theorem dc_M_join_519 : decode b_M_join 519 = .ok (.imul, 1) := by decide +kernel
theorem dc_M_join_520 : decode b_M_join 520 = .ok (.iload 10, 2) := by decide +kernel
theorem dc_M_join_522 : decode b_M_join 522 = .ok (.iadd, 1) := by decide +kernel
theorem dc_M_join_523 : decode b_M_join 523 = .ok (.iload 11, 2) := by decide +kernel
theorem dc_M_join_525 : decode b_M_join 525 = .ok (.invokevirtual 116, 3) := by decide +kernel
theorem dc_M_join_528 : decode b_M_join 528 = .ok (.aload_n 0, 1) := by decide +kernel
theorem dc_M_join_529 : decode b_M_join 529 = .ok (.getfield 43, 3) := by decide +kernel
theorem dc_M_join_532 : decode b_M_join 532 = .ok (.iload 11, 2) := by decide +kernel
theorem dc_M_join_534 : decode b_M_join 534 = .ok (.dup2, 1) := by decide +kernel
theorem dc_M_join_535 : decode b_M_join 535 = .ok (.iaload, 1) := by decide +kernel
theorem dc_M_join_536 : decode b_M_join 536 = .ok (.iload 8, 2) := by decide +kernel
theorem dc_M_join_538 : decode b_M_join 538 = .ok (.iadd, 1) := by decide +kernel
theorem dc_M_join_539 : decode b_M_join 539 = .ok (.iastore, 1) := by decide +kernel
theorem dc_M_join_540 : decode b_M_join 540 = .ok (.aload_n 0, 1) := by decide +kernel
theorem dc_M_join_541 : decode b_M_join 541 = .ok (.getfield 46, 3) := by decide +kernel
theorem dc_M_join_544 : decode b_M_join 544 = .ok (.iload 11, 2) := by decide +kernel
theorem dc_M_join_546 : decode b_M_join 546 = .ok (.dup2, 1) := by decide +kernel
theorem dc_M_join_547 : decode b_M_join 547 = .ok (.iaload, 1) := by decide +kernel
theorem dc_M_join_548 : decode b_M_join 548 = .ok (.iload 9, 2) := by decide +kernel
theorem dc_M_join_550 : decode b_M_join 550 = .ok (.iadd, 1) := by decide +kernel
theorem dc_M_join_551 : decode b_M_join 551 = .ok (.iastore, 1) := by decide +kernel
theorem dc_M_join_552 : decode b_M_join 552 = .ok (.aload_n 0, 1) := by decide +kernel
theorem dc_M_join_553 : decode b_M_join 553 = .ok (.getfield 19, 3) := by decide +kernel
theorem dc_M_join_556 : decode b_M_join 556 = .ok (.aload_n 0, 1) := by decide +kernel
theorem dc_M_join_557 : decode b_M_join 557 = .ok (.getfield 71, 3) := by decide +kernel
theorem dc_M_join_560 : decode b_M_join 560 = .ok (.dup2, 1) := by decide +kernel
theorem dc_M_join_561 : decode b_M_join 561 = .ok (.iaload, 1) := by decide +kernel
theorem dc_M_join_562 : decode b_M_join 562 = .ok (.iconst 1, 1) := by decide +kernel
theorem dc_M_join_563 : decode b_M_join 563 = .ok (.iadd, 1) := by decide +kernel
theorem dc_M_join_564 : decode b_M_join 564 = .ok (.iastore, 1) := by decide +kernel
theorem dc_M_join_565 : decode b_M_join 565 = .ok (.iinc 10 1, 3) := by decide +kernel
theorem dc_M_join_568 : decode b_M_join 568 = .ok (.goto (-83), 3) := by decide +kernel
theorem dc_M_join_611 : decode b_M_join 611 = .ok (.iastore, 1) := by decide +kernel
theorem dc_M_join_612 : decode b_M_join 612 = .ok (.aload_n 0, 1) := by decide +kernel
theorem dc_M_join_613 : decode b_M_join 613 = .ok (.getfield 13, 3) := by decide +kernel
theorem dc_M_join_616 : decode b_M_join 616 = .ok (.aload_n 0, 1) := by decide +kernel
theorem dc_M_join_617 : decode b_M_join 617 = .ok (.getfield 71, 3) := by decide +kernel
theorem dc_M_join_620 : decode b_M_join 620 = .ok (.iload_n 3, 1) := by decide +kernel
theorem dc_M_join_621 : decode b_M_join 621 = .ok (.ifCond .eq 15, 3) := by decide +kernel
theorem dc_M_join_636 : decode b_M_join 636 = .ok (.iload 4, 2) := by decide +kernel
theorem dc_M_join_624 : decode b_M_join 624 = .ok (.aload_n 0, 1) := by decide +kernel
theorem dc_M_join_625 : decode b_M_join 625 = .ok (.getfield 13, 3) := by decide +kernel
theorem dc_M_join_628 : decode b_M_join 628 = .ok (.aload_n 0, 1) := by decide +kernel
theorem dc_M_join_629 : decode b_M_join 629 = .ok (.getfield 71, 3) := by decide +kernel
theorem dc_M_join_632 : decode b_M_join 632 = .ok (.iaload, 1) := by decide +kernel
theorem dc_M_join_633 : decode b_M_join 633 = .ok (.goto 5, 3) := by decide +kernel
theorem dc_M_join_638 : decode b_M_join 638 = .ok (.iastore, 1) := by decide +kernel
theorem dc_M_join_639 : decode b_M_join 639 = .ok (.aload_n 0, 1) := by decide +kernel
theorem dc_M_join_640 : decode b_M_join 640 = .ok (.iconst 0, 1) := by decide +kernel
theorem dc_M_join_641 : decode b_M_join 641 = .ok (.putfield 74, 3) := by decide +kernel
theorem dc_M_join_644 : decode b_M_join 644 = .ok (.aload_n 0, 1) := by decide +kernel
theorem dc_M_join_645 : decode b_M_join 645 = .ok (.iconst 0, 1) := by decide +kernel
theorem dc_M_join_646 : decode b_M_join 646 = .ok (.putfield 77, 3) := by decide +kernel
theorem dc_M_join_649 : decode b_M_join 649 = .ok (.aload_n 0, 1) := by decide +kernel
theorem dc_M_join_650 : decode b_M_join 650 = .ok (.getfield 16, 3) := by decide +kernel
theorem dc_M_join_653 : decode b_M_join 653 = .ok (.aload_n 0, 1) := by decide +kernel
theorem dc_M_join_654 : decode b_M_join 654 = .ok (.getfield 71, 3) := by decide +kernel
theorem dc_M_join_657 : decode b_M_join 657 = .ok (.iaload, 1) := by decide +kernel
theorem dc_M_join_658 : decode b_M_join 658 = .ok (.ireturn, 1) := by decide +kernel
theorem dc_M_join_191 : decode b_M_join 191 = .ok (.iconst 3, 1) := by decide +kernel
theorem dc_M_join_192 : decode b_M_join 192 = .ok (.goto 4, 3) := by decide +kernel
theorem dc_M_join_16 : decode b_M_join 16 = .ok (.iconst 1, 1) := by decide +kernel
theorem dc_M_join_17 : decode b_M_join 17 = .ok (.goto 4, 3) := by decide +kernel
theorem dc_M_ownOf_0 : decode b_M_ownOf 0 = .ok (.iconst (-1), 1) := by decide +kernel
theorem dc_M_ownOf_1 : decode b_M_ownOf 1 = .ok (.istore 5, 2) := by decide +kernel
theorem dc_M_ownOf_3 : decode b_M_ownOf 3 = .ok (.iconst 0, 1) := by decide +kernel
theorem dc_M_ownOf_4 : decode b_M_ownOf 4 = .ok (.istore 6, 2) := by decide +kernel
theorem dc_M_ownOf_6 : decode b_M_ownOf 6 = .ok (.iload 6, 2) := by decide +kernel
theorem dc_M_ownOf_8 : decode b_M_ownOf 8 = .ok (.iload_n 3, 1) := by decide +kernel
theorem dc_M_ownOf_9 : decode b_M_ownOf 9 = .ok (.iload 4, 2) := by decide +kernel
theorem dc_M_ownOf_11 : decode b_M_ownOf 11 = .ok (.imul, 1) := by decide +kernel
theorem dc_M_ownOf_12 : decode b_M_ownOf 12 = .ok (.if_icmp .ge 53, 3) := by decide +kernel
theorem dc_M_ownOf_65 : decode b_M_ownOf 65 = .ok (.iload 5, 2) := by decide +kernel
theorem dc_M_ownOf_67 : decode b_M_ownOf 67 = .ok (.ireturn, 1) := by decide +kernel
theorem dc_M_ownOf_15 : decode b_M_ownOf 15 = .ok (.iload_n 0, 1) := by decide +kernel
theorem dc_M_ownOf_16 : decode b_M_ownOf 16 = .ok (.iload 6, 2) := by decide +kernel
theorem dc_M_ownOf_18 : decode b_M_ownOf 18 = .ok (.iload_n 3, 1) := by decide +kernel
theorem dc_M_ownOf_19 : decode b_M_ownOf 19 = .ok (.irem, 1) := by decide +kernel
theorem dc_M_ownOf_20 : decode b_M_ownOf 20 = .ok (.iload 6, 2) := by decide +kernel
theorem dc_M_ownOf_22 : decode b_M_ownOf 22 = .ok (.iload_n 3, 1) := by decide +kernel
theorem dc_M_ownOf_23 : decode b_M_ownOf 23 = .ok (.idiv, 1) := by decide +kernel
theorem dc_M_ownOf_24 : decode b_M_ownOf 24 = .ok (.iload_n 3, 1) := by decide +kernel
theorem dc_M_ownOf_25 : decode b_M_ownOf 25 = .ok (.iload 4, 2) := by decide +kernel
theorem dc_M_ownOf_27 : decode b_M_ownOf 27 = .ok (.invokestatic 119, 3) := by decide +kernel
theorem dc_M_ownOf_30 : decode b_M_ownOf 30 = .ok (.sipush 1000, 3) := by decide +kernel
theorem dc_M_ownOf_33 : decode b_M_ownOf 33 = .ok (.iload_n 2, 1) := by decide +kernel
theorem dc_M_ownOf_34 : decode b_M_ownOf 34 = .ok (.imul, 1) := by decide +kernel
theorem dc_M_ownOf_35 : decode b_M_ownOf 35 = .ok (.iload_n 1, 1) := by decide +kernel
theorem dc_M_ownOf_36 : decode b_M_ownOf 36 = .ok (.iadd, 1) := by decide +kernel
theorem dc_M_ownOf_37 : decode b_M_ownOf 37 = .ok (.if_icmp .ne 18, 3) := by decide +kernel
theorem dc_M_ownOf_55 : decode b_M_ownOf 55 = .ok (.iload 5, 2) := by decide +kernel
theorem dc_M_ownOf_40 : decode b_M_ownOf 40 = .ok (.bipush 64, 2) := by decide +kernel
theorem dc_M_ownOf_42 : decode b_M_ownOf 42 = .ok (.iload 6, 2) := by decide +kernel
theorem dc_M_ownOf_44 : decode b_M_ownOf 44 = .ok (.iload_n 3, 1) := by decide +kernel
theorem dc_M_ownOf_45 : decode b_M_ownOf 45 = .ok (.idiv, 1) := by decide +kernel
theorem dc_M_ownOf_46 : decode b_M_ownOf 46 = .ok (.imul, 1) := by decide +kernel
theorem dc_M_ownOf_47 : decode b_M_ownOf 47 = .ok (.iload 6, 2) := by decide +kernel
theorem dc_M_ownOf_49 : decode b_M_ownOf 49 = .ok (.iload_n 3, 1) := by decide +kernel
theorem dc_M_ownOf_50 : decode b_M_ownOf 50 = .ok (.irem, 1) := by decide +kernel
theorem dc_M_ownOf_51 : decode b_M_ownOf 51 = .ok (.iadd, 1) := by decide +kernel
theorem dc_M_ownOf_52 : decode b_M_ownOf 52 = .ok (.goto 5, 3) := by decide +kernel
theorem dc_M_ownOf_57 : decode b_M_ownOf 57 = .ok (.istore 5, 2) := by decide +kernel
theorem dc_M_ownOf_59 : decode b_M_ownOf 59 = .ok (.iinc 6 1, 3) := by decide +kernel
theorem dc_M_ownOf_62 : decode b_M_ownOf 62 = .ok (.goto (-56), 3) := by decide +kernel
theorem dc_M_noteAt_0 : decode b_M_noteAt 0 = .ok (.aload_n 0, 1) := by decide +kernel
theorem dc_M_noteAt_1 : decode b_M_noteAt 1 = .ok (.iload_n 1, 1) := by decide +kernel
theorem dc_M_noteAt_2 : decode b_M_noteAt 2 = .ok (.iconst 0, 1) := by decide +kernel
theorem dc_M_noteAt_3 : decode b_M_noteAt 3 = .ok (.aload_n 0, 1) := by decide +kernel
theorem dc_M_noteAt_4 : decode b_M_noteAt 4 = .ok (.getfield 19, 3) := by decide +kernel
theorem dc_M_noteAt_7 : decode b_M_noteAt 7 = .ok (.aload_n 0, 1) := by decide +kernel
theorem dc_M_noteAt_8 : decode b_M_noteAt 8 = .ok (.getfield 71, 3) := by decide +kernel
theorem dc_M_noteAt_11 : decode b_M_noteAt 11 = .ok (.iaload, 1) := by decide +kernel
theorem dc_M_noteAt_12 : decode b_M_noteAt 12 = .ok (.iconst 1, 1) := by decide +kernel
theorem dc_M_noteAt_13 : decode b_M_noteAt 13 = .ok (.isub, 1) := by decide +kernel
theorem dc_M_noteAt_14 : decode b_M_noteAt 14 = .ok (.invokestatic 84, 3) := by decide +kernel
theorem dc_M_noteAt_17 : decode b_M_noteAt 17 = .ok (.ifCond .eq 7, 3) := by decide +kernel
theorem dc_M_noteAt_24 : decode b_M_noteAt 24 = .ok (.iconst 1, 1) := by decide +kernel
theorem dc_M_noteAt_20 : decode b_M_noteAt 20 = .ok (.iconst 0, 1) := by decide +kernel
theorem dc_M_noteAt_21 : decode b_M_noteAt 21 = .ok (.goto 4, 3) := by decide +kernel
theorem dc_M_noteAt_25 : decode b_M_noteAt 25 = .ok (.putfield 68, 3) := by decide +kernel
theorem dc_M_noteAt_28 : decode b_M_noteAt 28 = .ok (.bipush 20, 2) := by decide +kernel
theorem dc_M_noteAt_30 : decode b_M_noteAt 30 = .ok (.aload_n 0, 1) := by decide +kernel
theorem dc_M_noteAt_31 : decode b_M_noteAt 31 = .ok (.getfield 71, 3) := by decide +kernel
theorem dc_M_noteAt_34 : decode b_M_noteAt 34 = .ok (.imul, 1) := by decide +kernel
theorem dc_M_noteAt_35 : decode b_M_noteAt 35 = .ok (.iload_n 1, 1) := by decide +kernel
theorem dc_M_noteAt_36 : decode b_M_noteAt 36 = .ok (.iadd, 1) := by decide +kernel
theorem dc_M_noteAt_37 : decode b_M_noteAt 37 = .ok (.istore_n 3, 1) := by decide +kernel
theorem dc_M_noteAt_38 : decode b_M_noteAt 38 = .ok (.aload_n 0, 1) := by decide +kernel
theorem dc_M_noteAt_39 : decode b_M_noteAt 39 = .ok (.getfield 68, 3) := by decide +kernel
theorem dc_M_noteAt_42 : decode b_M_noteAt 42 = .ok (.ifCond .le 7, 3) := by decide +kernel
theorem dc_M_noteAt_49 : decode b_M_noteAt 49 = .ok (.iload_n 2, 1) := by decide +kernel
theorem dc_M_noteAt_50 : decode b_M_noteAt 50 = .ok (.ifCond .ne 12, 3) := by decide +kernel
theorem dc_M_noteAt_62 : decode b_M_noteAt 62 = .ok (.iload_n 2, 1) := by decide +kernel
theorem dc_M_noteAt_63 : decode b_M_noteAt 63 = .ok (.iconst 1, 1) := by decide +kernel
theorem dc_M_noteAt_64 : decode b_M_noteAt 64 = .ok (.if_icmp .ne 12, 3) := by decide +kernel
theorem dc_M_noteAt_76 : decode b_M_noteAt 76 = .ok (.iload_n 2, 1) := by decide +kernel
theorem dc_M_noteAt_77 : decode b_M_noteAt 77 = .ok (.iconst 2, 1) := by decide +kernel
theorem dc_M_noteAt_78 : decode b_M_noteAt 78 = .ok (.if_icmp .ne 12, 3) := by decide +kernel
theorem dc_M_noteAt_90 : decode b_M_noteAt 90 = .ok (.iconst (-1), 1) := by decide +kernel
theorem dc_M_noteAt_91 : decode b_M_noteAt 91 = .ok (.ireturn, 1) := by decide +kernel
theorem dc_M_noteAt_81 : decode b_M_noteAt 81 = .ok (.aload_n 0, 1) := by decide +kernel
theorem dc_M_noteAt_82 : decode b_M_noteAt 82 = .ok (.getfield 49, 3) := by decide +kernel
theorem dc_M_noteAt_85 : decode b_M_noteAt 85 = .ok (.iload_n 3, 1) := by decide +kernel
theorem dc_M_noteAt_86 : decode b_M_noteAt 86 = .ok (.iaload, 1) := by decide +kernel
theorem dc_M_noteAt_87 : decode b_M_noteAt 87 = .ok (.goto 4, 3) := by decide +kernel
theorem dc_M_noteAt_67 : decode b_M_noteAt 67 = .ok (.aload_n 0, 1) := by decide +kernel
theorem dc_M_noteAt_68 : decode b_M_noteAt 68 = .ok (.getfield 46, 3) := by decide +kernel
theorem dc_M_noteAt_71 : decode b_M_noteAt 71 = .ok (.iload_n 3, 1) := by decide +kernel
theorem dc_M_noteAt_72 : decode b_M_noteAt 72 = .ok (.iaload, 1) := by decide +kernel
theorem dc_M_noteAt_73 : decode b_M_noteAt 73 = .ok (.goto 18, 3) := by decide +kernel
theorem dc_M_noteAt_53 : decode b_M_noteAt 53 = .ok (.aload_n 0, 1) := by decide +kernel
theorem dc_M_noteAt_54 : decode b_M_noteAt 54 = .ok (.getfield 43, 3) := by decide +kernel
theorem dc_M_noteAt_57 : decode b_M_noteAt 57 = .ok (.iload_n 3, 1) := by decide +kernel
theorem dc_M_noteAt_58 : decode b_M_noteAt 58 = .ok (.iaload, 1) := by decide +kernel
theorem dc_M_noteAt_59 : decode b_M_noteAt 59 = .ok (.goto 32, 3) := by decide +kernel
theorem dc_M_noteAt_45 : decode b_M_noteAt 45 = .ok (.iconst 0, 1) := by decide +kernel
theorem dc_M_noteAt_46 : decode b_M_noteAt 46 = .ok (.goto 45, 3) := by decide +kernel
theorem dc_M_tellTwo_0 : decode b_M_tellTwo 0 = .ok (.aload_n 0, 1) := by decide +kernel
theorem dc_M_tellTwo_1 : decode b_M_tellTwo 1 = .ok (.iload_n 1, 1) := by decide +kernel
theorem dc_M_tellTwo_2 : decode b_M_tellTwo 2 = .ok (.sipush 256, 3) := by decide +kernel
theorem dc_M_tellTwo_5 : decode b_M_tellTwo 5 = .ok (.irem, 1) := by decide +kernel
theorem dc_M_tellTwo_6 : decode b_M_tellTwo 6 = .ok (.invokevirtual 133, 3) := by decide +kernel
theorem dc_M_tellTwo_9 : decode b_M_tellTwo 9 = .ok (.aload_n 0, 1) := by decide +kernel
theorem dc_M_tellTwo_10 : decode b_M_tellTwo 10 = .ok (.iload_n 1, 1) := by decide +kernel
theorem dc_M_tellTwo_11 : decode b_M_tellTwo 11 = .ok (.sipush 256, 3) := by decide +kernel
theorem dc_M_tellTwo_14 : decode b_M_tellTwo 14 = .ok (.idiv, 1) := by decide +kernel
theorem dc_M_tellTwo_15 : decode b_M_tellTwo 15 = .ok (.invokevirtual 133, 3) := by decide +kernel
theorem dc_M_tellTwo_18 : decode b_M_tellTwo 18 = .ok (.return_, 1) := by decide +kernel
theorem dc_M_pointerOf_0 : decode b_M_pointerOf 0 = .ok (.bipush 8, 2) := by decide +kernel
theorem dc_M_pointerOf_2 : decode b_M_pointerOf 2 = .ok (.iconst 2, 1) := by decide +kernel
theorem dc_M_pointerOf_3 : decode b_M_pointerOf 3 = .ok (.aload_n 0, 1) := by decide +kernel
theorem dc_M_pointerOf_4 : decode b_M_pointerOf 4 = .ok (.getfield 16, 3) := by decide +kernel
theorem dc_M_pointerOf_7 : decode b_M_pointerOf 7 = .ok (.aload_n 0, 1) := by decide +kernel
theorem dc_M_pointerOf_8 : decode b_M_pointerOf 8 = .ok (.getfield 71, 3) := by decide +kernel
theorem dc_M_pointerOf_11 : decode b_M_pointerOf 11 = .ok (.iaload, 1) := by decide +kernel
theorem dc_M_pointerOf_12 : decode b_M_pointerOf 12 = .ok (.imul, 1) := by decide +kernel
theorem dc_M_pointerOf_13 : decode b_M_pointerOf 13 = .ok (.iadd, 1) := by decide +kernel
theorem dc_M_pointerOf_14 : decode b_M_pointerOf 14 = .ok (.iconst 5, 1) := by decide +kernel
theorem dc_M_pointerOf_15 : decode b_M_pointerOf 15 = .ok (.aload_n 0, 1) := by decide +kernel
theorem dc_M_pointerOf_16 : decode b_M_pointerOf 16 = .ok (.getfield 19, 3) := by decide +kernel
theorem dc_M_pointerOf_19 : decode b_M_pointerOf 19 = .ok (.aload_n 0, 1) := by decide +kernel
theorem dc_M_pointerOf_20 : decode b_M_pointerOf 20 = .ok (.getfield 71, 3) := by decide +kernel
theorem dc_M_pointerOf_23 : decode b_M_pointerOf 23 = .ok (.iaload, 1) := by decide +kernel
theorem dc_M_pointerOf_24 : decode b_M_pointerOf 24 = .ok (.imul, 1) := by decide +kernel
theorem dc_M_pointerOf_25 : decode b_M_pointerOf 25 = .ok (.iadd, 1) := by decide +kernel
theorem dc_M_pointerOf_26 : decode b_M_pointerOf 26 = .ok (.istore_n 2, 1) := by decide +kernel
theorem dc_M_pointerOf_27 : decode b_M_pointerOf 27 = .ok (.iconst 0, 1) := by decide +kernel
theorem dc_M_pointerOf_28 : decode b_M_pointerOf 28 = .ok (.istore_n 3, 1) := by decide +kernel
theorem dc_M_pointerOf_29 : decode b_M_pointerOf 29 = .ok (.iload_n 3, 1) := by decide +kernel
theorem dc_M_pointerOf_30 : decode b_M_pointerOf 30 = .ok (.aload_n 0, 1) := by decide +kernel
theorem dc_M_pointerOf_31 : decode b_M_pointerOf 31 = .ok (.getfield 16, 3) := by decide +kernel
theorem dc_M_pointerOf_34 : decode b_M_pointerOf 34 = .ok (.aload_n 0, 1) := by decide +kernel
theorem dc_M_pointerOf_35 : decode b_M_pointerOf 35 = .ok (.getfield 71, 3) := by decide +kernel
theorem dc_M_pointerOf_38 : decode b_M_pointerOf 38 = .ok (.iaload, 1) := by decide +kernel
theorem dc_M_pointerOf_39 : decode b_M_pointerOf 39 = .ok (.if_icmp .ge 46, 3) := by decide +kernel
theorem dc_M_pointerOf_85 : decode b_M_pointerOf 85 = .ok (.iload_n 2, 1) := by decide +kernel
theorem dc_M_pointerOf_86 : decode b_M_pointerOf 86 = .ok (.ireturn, 1) := by decide +kernel
theorem dc_M_pointerOf_42 : decode b_M_pointerOf 42 = .ok (.iload_n 2, 1) := by decide +kernel
theorem dc_M_pointerOf_43 : decode b_M_pointerOf 43 = .ok (.aload_n 0, 1) := by decide +kernel
theorem dc_M_pointerOf_44 : decode b_M_pointerOf 44 = .ok (.aload_n 0, 1) := by decide +kernel
theorem dc_M_pointerOf_45 : decode b_M_pointerOf 45 = .ok (.iload_n 3, 1) := by decide +kernel
theorem dc_M_pointerOf_46 : decode b_M_pointerOf 46 = .ok (.invokevirtual 92, 3) := by decide +kernel
theorem dc_M_pointerOf_49 : decode b_M_pointerOf 49 = .ok (.aload_n 0, 1) := by decide +kernel
theorem dc_M_pointerOf_50 : decode b_M_pointerOf 50 = .ok (.iload_n 1, 1) := by decide +kernel
theorem dc_M_pointerOf_51 : decode b_M_pointerOf 51 = .ok (.invokevirtual 92, 3) := by decide +kernel
theorem dc_M_pointerOf_54 : decode b_M_pointerOf 54 = .ok (.invokevirtual 137, 3) := by decide +kernel
theorem dc_M_pointerOf_57 : decode b_M_pointerOf 57 = .ok (.ifCond .eq 19, 3) := by decide +kernel
theorem dc_M_pointerOf_76 : decode b_M_pointerOf 76 = .ok (.iconst 0, 1) := by decide +kernel
theorem dc_M_pointerOf_60 : decode b_M_pointerOf 60 = .ok (.aload_n 0, 1) := by decide +kernel
theorem dc_M_pointerOf_61 : decode b_M_pointerOf 61 = .ok (.getfield 37, 3) := by decide +kernel
theorem dc_M_pointerOf_64 : decode b_M_pointerOf 64 = .ok (.aload_n 0, 1) := by decide +kernel
theorem dc_M_pointerOf_65 : decode b_M_pointerOf 65 = .ok (.iload_n 3, 1) := by decide +kernel
theorem dc_M_pointerOf_66 : decode b_M_pointerOf 66 = .ok (.invokevirtual 92, 3) := by decide +kernel
theorem dc_M_pointerOf_69 : decode b_M_pointerOf 69 = .ok (.iaload, 1) := by decide +kernel
theorem dc_M_pointerOf_70 : decode b_M_pointerOf 70 = .ok (.invokestatic 140, 3) := by decide +kernel
theorem dc_M_pointerOf_73 : decode b_M_pointerOf 73 = .ok (.goto 4, 3) := by decide +kernel
theorem dc_M_pointerOf_77 : decode b_M_pointerOf 77 = .ok (.iadd, 1) := by decide +kernel
theorem dc_M_pointerOf_78 : decode b_M_pointerOf 78 = .ok (.istore_n 2, 1) := by decide +kernel
theorem dc_M_pointerOf_79 : decode b_M_pointerOf 79 = .ok (.iinc 3 1, 3) := by decide +kernel
theorem dc_M_pointerOf_82 : decode b_M_pointerOf 82 = .ok (.goto (-53), 3) := by decide +kernel
theorem dc_M_streamAt_0 : decode b_M_streamAt 0 = .ok (.aload_n 0, 1) := by decide +kernel
theorem dc_M_streamAt_1 : decode b_M_streamAt 1 = .ok (.iload_n 1, 1) := by decide +kernel
theorem dc_M_streamAt_2 : decode b_M_streamAt 2 = .ok (.iconst 0, 1) := by decide +kernel
theorem dc_M_streamAt_3 : decode b_M_streamAt 3 = .ok (.aload_n 0, 1) := by decide +kernel
theorem dc_M_streamAt_4 : decode b_M_streamAt 4 = .ok (.getfield 81, 3) := by decide +kernel
theorem dc_M_streamAt_7 : decode b_M_streamAt 7 = .ok (.iconst 1, 1) := by decide +kernel
theorem dc_M_streamAt_8 : decode b_M_streamAt 8 = .ok (.isub, 1) := by decide +kernel
theorem dc_M_streamAt_9 : decode b_M_streamAt 9 = .ok (.invokestatic 84, 3) := by decide +kernel
theorem dc_M_streamAt_12 : decode b_M_streamAt 12 = .ok (.ifCond .eq 7, 3) := by decide +kernel
theorem dc_M_streamAt_19 : decode b_M_streamAt 19 = .ok (.iconst 1, 1) := by decide +kernel
theorem dc_M_streamAt_15 : decode b_M_streamAt 15 = .ok (.iconst 0, 1) := by decide +kernel
theorem dc_M_streamAt_16 : decode b_M_streamAt 16 = .ok (.goto 4, 3) := by decide +kernel
theorem dc_M_streamAt_20 : decode b_M_streamAt 20 = .ok (.putfield 68, 3) := by decide +kernel
theorem dc_M_streamAt_23 : decode b_M_streamAt 23 = .ok (.aload_n 0, 1) := by decide +kernel
theorem dc_M_streamAt_24 : decode b_M_streamAt 24 = .ok (.getfield 68, 3) := by decide +kernel
theorem dc_M_streamAt_27 : decode b_M_streamAt 27 = .ok (.ifCond .le 7, 3) := by decide +kernel
theorem dc_M_streamAt_34 : decode b_M_streamAt 34 = .ok (.aload_n 0, 1) := by decide +kernel
theorem dc_M_streamAt_35 : decode b_M_streamAt 35 = .ok (.getfield 55, 3) := by decide +kernel
theorem dc_M_streamAt_38 : decode b_M_streamAt 38 = .ok (.iload_n 1, 1) := by decide +kernel
theorem dc_M_streamAt_39 : decode b_M_streamAt 39 = .ok (.iaload, 1) := by decide +kernel
theorem dc_M_streamAt_40 : decode b_M_streamAt 40 = .ok (.ireturn, 1) := by decide +kernel
theorem dc_M_streamAt_30 : decode b_M_streamAt 30 = .ok (.iconst 0, 1) := by decide +kernel
theorem dc_M_streamAt_31 : decode b_M_streamAt 31 = .ok (.goto 9, 3) := by decide +kernel
theorem dc_M_byteOf_0 : decode b_M_byteOf 0 = .ok (.aload_n 0, 1) := by decide +kernel
theorem dc_M_byteOf_1 : decode b_M_byteOf 1 = .ok (.aload_n 0, 1) := by decide +kernel
theorem dc_M_byteOf_2 : decode b_M_byteOf 2 = .ok (.iload_n 1, 1) := by decide +kernel
theorem dc_M_byteOf_3 : decode b_M_byteOf 3 = .ok (.invokevirtual 96, 3) := by decide +kernel
theorem dc_M_byteOf_6 : decode b_M_byteOf 6 = .ok (.ifCond .ne 7, 3) := by decide +kernel
theorem dc_M_byteOf_13 : decode b_M_byteOf 13 = .ok (.iload_n 2, 1) := by decide +kernel
theorem dc_M_byteOf_14 : decode b_M_byteOf 14 = .ok (.iconst 0, 1) := by decide +kernel
theorem dc_M_byteOf_15 : decode b_M_byteOf 15 = .ok (.sipush 255, 3) := by decide +kernel
theorem dc_M_byteOf_18 : decode b_M_byteOf 18 = .ok (.invokestatic 84, 3) := by decide +kernel
theorem dc_M_byteOf_21 : decode b_M_byteOf 21 = .ok (.ifCond .ne 7, 3) := by decide +kernel
theorem dc_M_byteOf_28 : decode b_M_byteOf 28 = .ok (.aload_n 0, 1) := by decide +kernel
theorem dc_M_byteOf_29 : decode b_M_byteOf 29 = .ok (.getfield 37, 3) := by decide +kernel
theorem dc_M_byteOf_32 : decode b_M_byteOf 32 = .ok (.aload_n 0, 1) := by decide +kernel
theorem dc_M_byteOf_33 : decode b_M_byteOf 33 = .ok (.iload_n 1, 1) := by decide +kernel
theorem dc_M_byteOf_34 : decode b_M_byteOf 34 = .ok (.invokevirtual 92, 3) := by decide +kernel
theorem dc_M_byteOf_37 : decode b_M_byteOf 37 = .ok (.iaload, 1) := by decide +kernel
theorem dc_M_byteOf_38 : decode b_M_byteOf 38 = .ok (.bipush 12, 2) := by decide +kernel
theorem dc_M_byteOf_40 : decode b_M_byteOf 40 = .ok (.if_icmp .ne 7, 3) := by decide +kernel
theorem dc_M_byteOf_47 : decode b_M_byteOf 47 = .ok (.iconst 0, 1) := by decide +kernel
theorem dc_M_byteOf_43 : decode b_M_byteOf 43 = .ok (.iconst 3, 1) := by decide +kernel
theorem dc_M_byteOf_44 : decode b_M_byteOf 44 = .ok (.goto 4, 3) := by decide +kernel
theorem dc_M_byteOf_24 : decode b_M_byteOf 24 = .ok (.iconst 2, 1) := by decide +kernel
theorem dc_M_byteOf_25 : decode b_M_byteOf 25 = .ok (.goto 23, 3) := by decide +kernel
theorem dc_M_byteOf_9 : decode b_M_byteOf 9 = .ok (.iconst 1, 1) := by decide +kernel
theorem dc_M_byteOf_10 : decode b_M_byteOf 10 = .ok (.goto 38, 3) := by decide +kernel
theorem dc_M_byteOf_48 : decode b_M_byteOf 48 = .ok (.putfield 68, 3) := by decide +kernel
theorem dc_M_byteOf_51 : decode b_M_byteOf 51 = .ok (.aload_n 0, 1) := by decide +kernel
theorem dc_M_byteOf_52 : decode b_M_byteOf 52 = .ok (.getfield 68, 3) := by decide +kernel
theorem dc_M_byteOf_55 : decode b_M_byteOf 55 = .ok (.ifCond .le 5, 3) := by decide +kernel
theorem dc_M_byteOf_60 : decode b_M_byteOf 60 = .ok (.aload_n 0, 1) := by decide +kernel
theorem dc_M_byteOf_61 : decode b_M_byteOf 61 = .ok (.iload_n 1, 1) := by decide +kernel
theorem dc_M_byteOf_62 : decode b_M_byteOf 62 = .ok (.invokevirtual 92, 3) := by decide +kernel
theorem dc_M_byteOf_65 : decode b_M_byteOf 65 = .ok (.istore_n 3, 1) := by decide +kernel
theorem dc_M_byteOf_66 : decode b_M_byteOf 66 = .ok (.aload_n 0, 1) := by decide +kernel
theorem dc_M_byteOf_67 : decode b_M_byteOf 67 = .ok (.getfield 40, 3) := by decide +kernel
theorem dc_M_byteOf_70 : decode b_M_byteOf 70 = .ok (.bipush 12, 2) := by decide +kernel
theorem dc_M_byteOf_72 : decode b_M_byteOf 72 = .ok (.iload_n 3, 1) := by decide +kernel
theorem dc_M_byteOf_73 : decode b_M_byteOf 73 = .ok (.imul, 1) := by decide +kernel
theorem dc_M_byteOf_74 : decode b_M_byteOf 74 = .ok (.aload_n 0, 1) := by decide +kernel
theorem dc_M_byteOf_75 : decode b_M_byteOf 75 = .ok (.getfield 37, 3) := by decide +kernel
theorem dc_M_byteOf_78 : decode b_M_byteOf 78 = .ok (.iload_n 3, 1) := by decide +kernel
theorem dc_M_byteOf_79 : decode b_M_byteOf 79 = .ok (.iaload, 1) := by decide +kernel
theorem dc_M_byteOf_80 : decode b_M_byteOf 80 = .ok (.iadd, 1) := by decide +kernel
theorem dc_M_byteOf_81 : decode b_M_byteOf 81 = .ok (.iload_n 2, 1) := by decide +kernel
theorem dc_M_byteOf_82 : decode b_M_byteOf 82 = .ok (.iastore, 1) := by decide +kernel
theorem dc_M_byteOf_83 : decode b_M_byteOf 83 = .ok (.aload_n 0, 1) := by decide +kernel
theorem dc_M_byteOf_84 : decode b_M_byteOf 84 = .ok (.getfield 37, 3) := by decide +kernel
theorem dc_M_byteOf_87 : decode b_M_byteOf 87 = .ok (.iload_n 3, 1) := by decide +kernel
theorem dc_M_byteOf_88 : decode b_M_byteOf 88 = .ok (.dup2, 1) := by decide +kernel
theorem dc_M_byteOf_89 : decode b_M_byteOf 89 = .ok (.iaload, 1) := by decide +kernel
theorem dc_M_byteOf_90 : decode b_M_byteOf 90 = .ok (.iconst 1, 1) := by decide +kernel
theorem dc_M_byteOf_91 : decode b_M_byteOf 91 = .ok (.iadd, 1) := by decide +kernel
theorem dc_M_byteOf_92 : decode b_M_byteOf 92 = .ok (.iastore, 1) := by decide +kernel
theorem dc_M_byteOf_93 : decode b_M_byteOf 93 = .ok (.aload_n 0, 1) := by decide +kernel
theorem dc_M_byteOf_94 : decode b_M_byteOf 94 = .ok (.getfield 37, 3) := by decide +kernel
theorem dc_M_byteOf_97 : decode b_M_byteOf 97 = .ok (.iload_n 3, 1) := by decide +kernel
theorem dc_M_byteOf_98 : decode b_M_byteOf 98 = .ok (.iaload, 1) := by decide +kernel
theorem dc_M_byteOf_99 : decode b_M_byteOf 99 = .ok (.ireturn, 1) := by decide +kernel
theorem dc_M_byteOf_58 : decode b_M_byteOf 58 = .ok (.iconst 0, 1) := by decide +kernel
theorem dc_M_byteOf_59 : decode b_M_byteOf 59 = .ok (.ireturn, 1) := by decide +kernel
theorem dc_M_note_0 : decode b_M_note 0 = .ok (.aload_n 0, 1) := by decide +kernel
theorem dc_M_note_1 : decode b_M_note 1 = .ok (.aload_n 0, 1) := by decide +kernel
theorem dc_M_note_2 : decode b_M_note 2 = .ok (.iload_n 1, 1) := by decide +kernel
theorem dc_M_note_3 : decode b_M_note 3 = .ok (.iload_n 2, 1) := by decide +kernel
theorem dc_M_note_4 : decode b_M_note 4 = .ok (.invokevirtual 100, 3) := by decide +kernel
theorem dc_M_note_7 : decode b_M_note 7 = .ok (.ifCond .ne 7, 3) := by decide +kernel
theorem dc_M_note_14 : decode b_M_note 14 = .ok (.iload_n 3, 1) := by decide +kernel
theorem dc_M_note_15 : decode b_M_note 15 = .ok (.iconst 0, 1) := by decide +kernel
theorem dc_M_note_16 : decode b_M_note 16 = .ok (.sipush 255, 3) := by decide +kernel
theorem dc_M_note_19 : decode b_M_note 19 = .ok (.invokestatic 84, 3) := by decide +kernel
theorem dc_M_note_22 : decode b_M_note 22 = .ok (.ifCond .ne 7, 3) := by decide +kernel
theorem dc_M_note_29 : decode b_M_note 29 = .ok (.aload_n 0, 1) := by decide +kernel
theorem dc_M_note_30 : decode b_M_note 30 = .ok (.getfield 19, 3) := by decide +kernel
theorem dc_M_note_33 : decode b_M_note 33 = .ok (.aload_n 0, 1) := by decide +kernel
theorem dc_M_note_34 : decode b_M_note 34 = .ok (.getfield 71, 3) := by decide +kernel
theorem dc_M_note_37 : decode b_M_note 37 = .ok (.iaload, 1) := by decide +kernel
theorem dc_M_note_38 : decode b_M_note 38 = .ok (.bipush 20, 2) := by decide +kernel
theorem dc_M_note_40 : decode b_M_note 40 = .ok (.if_icmp .ne 7, 3) := by decide +kernel
theorem dc_M_note_47 : decode b_M_note 47 = .ok (.iconst 0, 1) := by decide +kernel
theorem dc_M_note_43 : decode b_M_note 43 = .ok (.iconst 3, 1) := by decide +kernel
theorem dc_M_note_44 : decode b_M_note 44 = .ok (.goto 4, 3) := by decide +kernel
theorem dc_M_note_25 : decode b_M_note 25 = .ok (.iconst 2, 1) := by decide +kernel
theorem dc_M_note_26 : decode b_M_note 26 = .ok (.goto 22, 3) := by decide +kernel
theorem dc_M_note_10 : decode b_M_note 10 = .ok (.iconst 1, 1) := by decide +kernel
theorem dc_M_note_11 : decode b_M_note 11 = .ok (.goto 37, 3) := by decide +kernel
theorem dc_M_note_48 : decode b_M_note 48 = .ok (.putfield 68, 3) := by decide +kernel
theorem dc_M_note_51 : decode b_M_note 51 = .ok (.aload_n 0, 1) := by decide +kernel
theorem dc_M_note_52 : decode b_M_note 52 = .ok (.getfield 68, 3) := by decide +kernel
theorem dc_M_note_55 : decode b_M_note 55 = .ok (.ifCond .le 5, 3) := by decide +kernel
theorem dc_M_note_60 : decode b_M_note 60 = .ok (.bipush 20, 2) := by decide +kernel
theorem dc_M_note_62 : decode b_M_note 62 = .ok (.aload_n 0, 1) := by decide +kernel
theorem dc_M_note_63 : decode b_M_note 63 = .ok (.getfield 71, 3) := by decide +kernel
theorem dc_M_note_66 : decode b_M_note 66 = .ok (.imul, 1) := by decide +kernel
theorem dc_M_note_67 : decode b_M_note 67 = .ok (.aload_n 0, 1) := by decide +kernel
theorem dc_M_note_68 : decode b_M_note 68 = .ok (.getfield 19, 3) := by decide +kernel
theorem dc_M_note_71 : decode b_M_note 71 = .ok (.aload_n 0, 1) := by decide +kernel
theorem dc_M_note_72 : decode b_M_note 72 = .ok (.getfield 71, 3) := by decide +kernel
theorem dc_M_note_75 : decode b_M_note 75 = .ok (.iaload, 1) := by decide +kernel
theorem dc_M_note_76 : decode b_M_note 76 = .ok (.iadd, 1) := by decide +kernel
theorem dc_M_note_77 : decode b_M_note 77 = .ok (.istore 4, 2) := by decide +kernel
theorem dc_M_note_79 : decode b_M_note 79 = .ok (.aload_n 0, 1) := by decide +kernel
theorem dc_M_note_80 : decode b_M_note 80 = .ok (.getfield 43, 3) := by decide +kernel
theorem dc_M_note_83 : decode b_M_note 83 = .ok (.iload 4, 2) := by decide +kernel
theorem dc_M_note_85 : decode b_M_note 85 = .ok (.iload_n 1, 1) := by decide +kernel
theorem dc_M_note_86 : decode b_M_note 86 = .ok (.iastore, 1) := by decide +kernel
theorem dc_M_note_87 : decode b_M_note 87 = .ok (.aload_n 0, 1) := by decide +kernel
theorem dc_M_note_88 : decode b_M_note 88 = .ok (.getfield 46, 3) := by decide +kernel
theorem dc_M_note_91 : decode b_M_note 91 = .ok (.iload 4, 2) := by decide +kernel
theorem dc_M_note_93 : decode b_M_note 93 = .ok (.iload_n 2, 1) := by decide +kernel
theorem dc_M_note_94 : decode b_M_note 94 = .ok (.iastore, 1) := by decide +kernel
theorem dc_M_note_95 : decode b_M_note 95 = .ok (.aload_n 0, 1) := by decide +kernel
theorem dc_M_note_96 : decode b_M_note 96 = .ok (.getfield 49, 3) := by decide +kernel
theorem dc_M_note_99 : decode b_M_note 99 = .ok (.iload 4, 2) := by decide +kernel
theorem dc_M_note_101 : decode b_M_note 101 = .ok (.iload_n 3, 1) := by decide +kernel
theorem dc_M_note_102 : decode b_M_note 102 = .ok (.iastore, 1) := by decide +kernel
theorem dc_M_note_103 : decode b_M_note 103 = .ok (.aload_n 0, 1) := by decide +kernel
theorem dc_M_note_104 : decode b_M_note 104 = .ok (.getfield 19, 3) := by decide +kernel
theorem dc_M_note_107 : decode b_M_note 107 = .ok (.aload_n 0, 1) := by decide +kernel
theorem dc_M_note_108 : decode b_M_note 108 = .ok (.getfield 71, 3) := by decide +kernel
theorem dc_M_note_111 : decode b_M_note 111 = .ok (.dup2, 1) := by decide +kernel
theorem dc_M_note_112 : decode b_M_note 112 = .ok (.iaload, 1) := by decide +kernel
theorem dc_M_note_113 : decode b_M_note 113 = .ok (.iconst 1, 1) := by decide +kernel
theorem dc_M_note_114 : decode b_M_note 114 = .ok (.iadd, 1) := by decide +kernel
theorem dc_M_note_115 : decode b_M_note 115 = .ok (.iastore, 1) := by decide +kernel
theorem dc_M_note_116 : decode b_M_note 116 = .ok (.aload_n 0, 1) := by decide +kernel
theorem dc_M_note_117 : decode b_M_note 117 = .ok (.getfield 19, 3) := by decide +kernel
theorem dc_M_note_120 : decode b_M_note 120 = .ok (.aload_n 0, 1) := by decide +kernel
theorem dc_M_note_121 : decode b_M_note 121 = .ok (.getfield 71, 3) := by decide +kernel
theorem dc_M_note_124 : decode b_M_note 124 = .ok (.iaload, 1) := by decide +kernel
theorem dc_M_note_125 : decode b_M_note 125 = .ok (.ireturn, 1) := by decide +kernel
theorem dc_M_note_58 : decode b_M_note 58 = .ok (.iconst 0, 1) := by decide +kernel
theorem dc_M_note_59 : decode b_M_note 59 = .ok (.ireturn, 1) := by decide +kernel
theorem dc_M_nearest_0 : decode b_M_nearest 0 = .ok (.iload_n 1, 1) := by decide +kernel
theorem dc_M_nearest_1 : decode b_M_nearest 1 = .ok (.ifCond .eq 15, 3) := by decide +kernel
theorem dc_M_nearest_16 : decode b_M_nearest 16 = .ok (.aload_n 0, 1) := by decide +kernel
theorem dc_M_nearest_17 : decode b_M_nearest 17 = .ok (.getfield 13, 3) := by decide +kernel
theorem dc_M_nearest_20 : decode b_M_nearest 20 = .ok (.aload_n 0, 1) := by decide +kernel
theorem dc_M_nearest_21 : decode b_M_nearest 21 = .ok (.getfield 71, 3) := by decide +kernel
theorem dc_M_nearest_24 : decode b_M_nearest 24 = .ok (.iaload, 1) := by decide +kernel
theorem dc_M_nearest_4 : decode b_M_nearest 4 = .ok (.aload_n 0, 1) := by decide +kernel
theorem dc_M_nearest_5 : decode b_M_nearest 5 = .ok (.getfield 7, 3) := by decide +kernel
theorem dc_M_nearest_8 : decode b_M_nearest 8 = .ok (.aload_n 0, 1) := by decide +kernel
theorem dc_M_nearest_9 : decode b_M_nearest 9 = .ok (.getfield 71, 3) := by decide +kernel
theorem dc_M_nearest_12 : decode b_M_nearest 12 = .ok (.iaload, 1) := by decide +kernel
theorem dc_M_nearest_13 : decode b_M_nearest 13 = .ok (.goto 12, 3) := by decide +kernel
theorem dc_M_nearest_25 : decode b_M_nearest 25 = .ok (.istore_n 3, 1) := by decide +kernel
theorem dc_M_nearest_26 : decode b_M_nearest 26 = .ok (.iconst 0, 1) := by decide +kernel
theorem dc_M_nearest_27 : decode b_M_nearest 27 = .ok (.istore 4, 2) := by decide +kernel
theorem dc_M_nearest_29 : decode b_M_nearest 29 = .ok (.iconst 0, 1) := by decide +kernel
theorem dc_M_nearest_30 : decode b_M_nearest 30 = .ok (.istore 5, 2) := by decide +kernel
theorem dc_M_nearest_32 : decode b_M_nearest 32 = .ok (.iload 5, 2) := by decide +kernel
theorem dc_M_nearest_34 : decode b_M_nearest 34 = .ok (.iload_n 3, 1) := by decide +kernel
theorem dc_M_nearest_35 : decode b_M_nearest 35 = .ok (.if_icmp .gt 73, 3) := by decide +kernel
theorem dc_M_nearest_108 : decode b_M_nearest 108 = .ok (.iload 4, 2) := by decide +kernel
theorem dc_M_nearest_110 : decode b_M_nearest 110 = .ok (.ireturn, 1) := by decide +kernel
theorem dc_M_nearest_38 : decode b_M_nearest 38 = .ok (.iload 5, 2) := by decide +kernel
theorem dc_M_nearest_40 : decode b_M_nearest 40 = .ok (.iload_n 2, 1) := by decide +kernel
theorem dc_M_nearest_41 : decode b_M_nearest 41 = .ok (.if_icmp .ge 10, 3) := by decide +kernel
theorem dc_M_nearest_51 : decode b_M_nearest 51 = .ok (.iload 5, 2) := by decide +kernel
theorem dc_M_nearest_53 : decode b_M_nearest 53 = .ok (.iload_n 2, 1) := by decide +kernel
theorem dc_M_nearest_54 : decode b_M_nearest 54 = .ok (.isub, 1) := by decide +kernel
theorem dc_M_nearest_44 : decode b_M_nearest 44 = .ok (.iload_n 2, 1) := by decide +kernel
theorem dc_M_nearest_45 : decode b_M_nearest 45 = .ok (.iload 5, 2) := by decide +kernel
theorem dc_M_nearest_47 : decode b_M_nearest 47 = .ok (.isub, 1) := by decide +kernel
theorem dc_M_nearest_48 : decode b_M_nearest 48 = .ok (.goto 7, 3) := by decide +kernel
theorem dc_M_nearest_55 : decode b_M_nearest 55 = .ok (.istore 6, 2) := by decide +kernel
theorem dc_M_nearest_57 : decode b_M_nearest 57 = .ok (.iload 4, 2) := by decide +kernel
theorem dc_M_nearest_59 : decode b_M_nearest 59 = .ok (.iload_n 2, 1) := by decide +kernel
theorem dc_M_nearest_60 : decode b_M_nearest 60 = .ok (.if_icmp .ge 10, 3) := by decide +kernel
theorem dc_M_nearest_70 : decode b_M_nearest 70 = .ok (.iload 4, 2) := by decide +kernel
theorem dc_M_nearest_72 : decode b_M_nearest 72 = .ok (.iload_n 2, 1) := by decide +kernel
theorem dc_M_nearest_73 : decode b_M_nearest 73 = .ok (.isub, 1) := by decide +kernel
theorem dc_M_nearest_63 : decode b_M_nearest 63 = .ok (.iload_n 2, 1) := by decide +kernel
theorem dc_M_nearest_64 : decode b_M_nearest 64 = .ok (.iload 4, 2) := by decide +kernel
theorem dc_M_nearest_66 : decode b_M_nearest 66 = .ok (.isub, 1) := by decide +kernel
theorem dc_M_nearest_67 : decode b_M_nearest 67 = .ok (.goto 7, 3) := by decide +kernel
theorem dc_M_nearest_74 : decode b_M_nearest 74 = .ok (.istore 7, 2) := by decide +kernel
theorem dc_M_nearest_76 : decode b_M_nearest 76 = .ok (.aload_n 0, 1) := by decide +kernel
theorem dc_M_nearest_77 : decode b_M_nearest 77 = .ok (.iload_n 1, 1) := by decide +kernel
theorem dc_M_nearest_78 : decode b_M_nearest 78 = .ok (.iload 5, 2) := by decide +kernel
theorem dc_M_nearest_80 : decode b_M_nearest 80 = .ok (.invokevirtual 104, 3) := by decide +kernel
theorem dc_M_nearest_83 : decode b_M_nearest 83 = .ok (.ifCond .eq 15, 3) := by decide +kernel
theorem dc_M_nearest_86 : decode b_M_nearest 86 = .ok (.iload 6, 2) := by decide +kernel
theorem dc_M_nearest_88 : decode b_M_nearest 88 = .ok (.iload 7, 2) := by decide +kernel
theorem dc_M_nearest_90 : decode b_M_nearest 90 = .ok (.if_icmp .ge 8, 3) := by decide +kernel
theorem dc_M_nearest_93 : decode b_M_nearest 93 = .ok (.iload 5, 2) := by decide +kernel
theorem dc_M_nearest_95 : decode b_M_nearest 95 = .ok (.goto 5, 3) := by decide +kernel
theorem dc_M_nearest_100 : decode b_M_nearest 100 = .ok (.istore 4, 2) := by decide +kernel
theorem dc_M_nearest_102 : decode b_M_nearest 102 = .ok (.iinc 5 1, 3) := by decide +kernel
theorem dc_M_nearest_105 : decode b_M_nearest 105 = .ok (.goto (-73), 3) := by decide +kernel
theorem dc_M_nearest_98 : decode b_M_nearest 98 = .ok (.iload 4, 2) := by decide +kernel
theorem dc_M_turn_0 : decode b_M_turn 0 = .ok (.aload_n 0, 1) := by decide +kernel
theorem dc_M_turn_1 : decode b_M_turn 1 = .ok (.iload_n 1, 1) := by decide +kernel
theorem dc_M_turn_2 : decode b_M_turn 2 = .ok (.iconst 0, 1) := by decide +kernel
theorem dc_M_turn_3 : decode b_M_turn 3 = .ok (.bipush 7, 2) := by decide +kernel
theorem dc_M_turn_5 : decode b_M_turn 5 = .ok (.invokestatic 84, 3) := by decide +kernel
theorem dc_M_turn_8 : decode b_M_turn 8 = .ok (.ifCond .eq 7, 3) := by decide +kernel
theorem dc_M_turn_15 : decode b_M_turn 15 = .ok (.iconst 1, 1) := by decide +kernel
theorem dc_M_turn_11 : decode b_M_turn 11 = .ok (.iconst 0, 1) := by decide +kernel
theorem dc_M_turn_12 : decode b_M_turn 12 = .ok (.goto 4, 3) := by decide +kernel
theorem dc_M_turn_16 : decode b_M_turn 16 = .ok (.putfield 68, 3) := by decide +kernel
theorem dc_M_turn_19 : decode b_M_turn 19 = .ok (.aload_n 0, 1) := by decide +kernel
theorem dc_M_turn_20 : decode b_M_turn 20 = .ok (.getfield 68, 3) := by decide +kernel
theorem dc_M_turn_23 : decode b_M_turn 23 = .ok (.ifCond .le 5, 3) := by decide +kernel
theorem dc_M_turn_28 : decode b_M_turn 28 = .ok (.aload_n 0, 1) := by decide +kernel
theorem dc_M_turn_29 : decode b_M_turn 29 = .ok (.getfield 7, 3) := by decide +kernel
theorem dc_M_turn_32 : decode b_M_turn 32 = .ok (.aload_n 0, 1) := by decide +kernel
theorem dc_M_turn_33 : decode b_M_turn 33 = .ok (.getfield 71, 3) := by decide +kernel
theorem dc_M_turn_36 : decode b_M_turn 36 = .ok (.iaload, 1) := by decide +kernel
theorem dc_M_turn_37 : decode b_M_turn 37 = .ok (.istore_n 2, 1) := by decide +kernel
theorem dc_M_turn_38 : decode b_M_turn 38 = .ok (.aload_n 0, 1) := by decide +kernel
theorem dc_M_turn_39 : decode b_M_turn 39 = .ok (.getfield 13, 3) := by decide +kernel
theorem dc_M_turn_42 : decode b_M_turn 42 = .ok (.aload_n 0, 1) := by decide +kernel
theorem dc_M_turn_43 : decode b_M_turn 43 = .ok (.getfield 71, 3) := by decide +kernel
theorem dc_M_turn_46 : decode b_M_turn 46 = .ok (.iaload, 1) := by decide +kernel
theorem dc_M_turn_47 : decode b_M_turn 47 = .ok (.istore_n 3, 1) := by decide +kernel
theorem dc_M_turn_48 : decode b_M_turn 48 = .ok (.iconst 0, 1) := by decide +kernel
theorem dc_M_turn_49 : decode b_M_turn 49 = .ok (.istore 4, 2) := by decide +kernel
theorem dc_M_turn_26 : decode b_M_turn 26 = .ok (.iconst 0, 1) := by decide +kernel
theorem dc_M_turn_27 : decode b_M_turn 27 = .ok (.ireturn, 1) := by decide +kernel
theorem dc_M_turn_51 : decode b_M_turn 51 = .ok (.iload 4, 2) := by decide +kernel
theorem dc_M_turn_53 : decode b_M_turn 53 = .ok (.aload_n 0, 1) := by decide +kernel
theorem dc_M_turn_54 : decode b_M_turn 54 = .ok (.getfield 16, 3) := by decide +kernel
theorem dc_M_turn_57 : decode b_M_turn 57 = .ok (.aload_n 0, 1) := by decide +kernel
theorem dc_M_turn_58 : decode b_M_turn 58 = .ok (.getfield 71, 3) := by decide +kernel
theorem dc_M_turn_61 : decode b_M_turn 61 = .ok (.iaload, 1) := by decide +kernel
theorem dc_M_turn_62 : decode b_M_turn 62 = .ok (.if_icmp .ge 234, 3) := by decide +kernel
theorem dc_M_turn_296 : decode b_M_turn 296 = .ok (.bipush 20, 2) := by decide +kernel
theorem dc_M_turn_298 : decode b_M_turn 298 = .ok (.aload_n 0, 1) := by decide +kernel
theorem dc_M_turn_299 : decode b_M_turn 299 = .ok (.getfield 71, 3) := by decide +kernel
theorem dc_M_turn_302 : decode b_M_turn 302 = .ok (.imul, 1) := by decide +kernel
theorem dc_M_turn_303 : decode b_M_turn 303 = .ok (.istore 4, 2) := by decide +kernel
theorem dc_M_turn_65 : decode b_M_turn 65 = .ok (.aload_n 0, 1) := by decide +kernel
theorem dc_M_turn_66 : decode b_M_turn 66 = .ok (.iload 4, 2) := by decide +kernel
theorem dc_M_turn_68 : decode b_M_turn 68 = .ok (.invokevirtual 92, 3) := by decide +kernel
theorem dc_M_turn_71 : decode b_M_turn 71 = .ok (.istore 5, 2) := by decide +kernel
theorem dc_M_turn_73 : decode b_M_turn 73 = .ok (.iload_n 1, 1) := by decide +kernel
theorem dc_M_turn_74 : decode b_M_turn 74 = .ok (.aload_n 0, 1) := by decide +kernel
theorem dc_M_turn_75 : decode b_M_turn 75 = .ok (.getfield 22, 3) := by decide +kernel
theorem dc_M_turn_78 : decode b_M_turn 78 = .ok (.iload 5, 2) := by decide +kernel
theorem dc_M_turn_80 : decode b_M_turn 80 = .ok (.iaload, 1) := by decide +kernel
theorem dc_M_turn_81 : decode b_M_turn 81 = .ok (.aload_n 0, 1) := by decide +kernel
theorem dc_M_turn_82 : decode b_M_turn 82 = .ok (.getfield 25, 3) := by decide +kernel
theorem dc_M_turn_85 : decode b_M_turn 85 = .ok (.iload 5, 2) := by decide +kernel
theorem dc_M_turn_87 : decode b_M_turn 87 = .ok (.iaload, 1) := by decide +kernel
theorem dc_M_turn_88 : decode b_M_turn 88 = .ok (.iload_n 2, 1) := by decide +kernel
theorem dc_M_turn_89 : decode b_M_turn 89 = .ok (.iload_n 3, 1) := by decide +kernel
theorem dc_M_turn_90 : decode b_M_turn 90 = .ok (.invokestatic 119, 3) := by decide +kernel
theorem dc_M_turn_93 : decode b_M_turn 93 = .ok (.istore 6, 2) := by decide +kernel
theorem dc_M_turn_95 : decode b_M_turn 95 = .ok (.iload_n 1, 1) := by decide +kernel
theorem dc_M_turn_96 : decode b_M_turn 96 = .ok (.aload_n 0, 1) := by decide +kernel
theorem dc_M_turn_97 : decode b_M_turn 97 = .ok (.getfield 22, 3) := by decide +kernel
theorem dc_M_turn_100 : decode b_M_turn 100 = .ok (.iload 5, 2) := by decide +kernel
theorem dc_M_turn_102 : decode b_M_turn 102 = .ok (.iaload, 1) := by decide +kernel
theorem dc_M_turn_103 : decode b_M_turn 103 = .ok (.aload_n 0, 1) := by decide +kernel
theorem dc_M_turn_104 : decode b_M_turn 104 = .ok (.getfield 28, 3) := by decide +kernel
theorem dc_M_turn_107 : decode b_M_turn 107 = .ok (.iload 5, 2) := by decide +kernel
theorem dc_M_turn_109 : decode b_M_turn 109 = .ok (.iaload, 1) := by decide +kernel
theorem dc_M_turn_110 : decode b_M_turn 110 = .ok (.iadd, 1) := by decide +kernel
theorem dc_M_turn_111 : decode b_M_turn 111 = .ok (.iconst 1, 1) := by decide +kernel
theorem dc_M_turn_112 : decode b_M_turn 112 = .ok (.isub, 1) := by decide +kernel
theorem dc_M_turn_113 : decode b_M_turn 113 = .ok (.aload_n 0, 1) := by decide +kernel
theorem dc_M_turn_114 : decode b_M_turn 114 = .ok (.getfield 25, 3) := by decide +kernel
theorem dc_M_turn_117 : decode b_M_turn 117 = .ok (.iload 5, 2) := by decide +kernel
theorem dc_M_turn_119 : decode b_M_turn 119 = .ok (.iaload, 1) := by decide +kernel
theorem dc_M_turn_120 : decode b_M_turn 120 = .ok (.aload_n 0, 1) := by decide +kernel
theorem dc_M_turn_121 : decode b_M_turn 121 = .ok (.getfield 31, 3) := by decide +kernel
theorem dc_M_turn_124 : decode b_M_turn 124 = .ok (.iload 5, 2) := by decide +kernel
theorem dc_M_turn_126 : decode b_M_turn 126 = .ok (.iaload, 1) := by decide +kernel
theorem dc_M_turn_127 : decode b_M_turn 127 = .ok (.iadd, 1) := by decide +kernel
theorem dc_M_turn_128 : decode b_M_turn 128 = .ok (.iconst 1, 1) := by decide +kernel
theorem dc_M_turn_129 : decode b_M_turn 129 = .ok (.isub, 1) := by decide +kernel
theorem dc_M_turn_130 : decode b_M_turn 130 = .ok (.iload_n 2, 1) := by decide +kernel
theorem dc_M_turn_131 : decode b_M_turn 131 = .ok (.iload_n 3, 1) := by decide +kernel
theorem dc_M_turn_132 : decode b_M_turn 132 = .ok (.invokestatic 119, 3) := by decide +kernel
theorem dc_M_turn_135 : decode b_M_turn 135 = .ok (.istore 7, 2) := by decide +kernel
theorem dc_M_turn_137 : decode b_M_turn 137 = .ok (.aload_n 0, 1) := by decide +kernel
theorem dc_M_turn_138 : decode b_M_turn 138 = .ok (.getfield 22, 3) := by decide +kernel
theorem dc_M_turn_141 : decode b_M_turn 141 = .ok (.iload 5, 2) := by decide +kernel
theorem dc_M_turn_143 : decode b_M_turn 143 = .ok (.iload 6, 2) := by decide +kernel
theorem dc_M_turn_145 : decode b_M_turn 145 = .ok (.sipush 1000, 3) := by decide +kernel
theorem dc_M_turn_148 : decode b_M_turn 148 = .ok (.irem, 1) := by decide +kernel
theorem dc_M_turn_149 : decode b_M_turn 149 = .ok (.iload 7, 2) := by decide +kernel
theorem dc_M_turn_151 : decode b_M_turn 151 = .ok (.sipush 1000, 3) := by decide +kernel
theorem dc_M_turn_154 : decode b_M_turn 154 = .ok (.irem, 1) := by decide +kernel
theorem dc_M_turn_155 : decode b_M_turn 155 = .ok (.if_icmp .ge 12, 3) := by decide +kernel
theorem dc_M_turn_167 : decode b_M_turn 167 = .ok (.iload 7, 2) := by decide +kernel
theorem dc_M_turn_169 : decode b_M_turn 169 = .ok (.sipush 1000, 3) := by decide +kernel
theorem dc_M_turn_172 : decode b_M_turn 172 = .ok (.irem, 1) := by decide +kernel
theorem dc_M_turn_158 : decode b_M_turn 158 = .ok (.iload 6, 2) := by decide +kernel
theorem dc_M_turn_160 : decode b_M_turn 160 = .ok (.sipush 1000, 3) := by decide +kernel
theorem dc_M_turn_163 : decode b_M_turn 163 = .ok (.irem, 1) := by decide +kernel
theorem dc_M_turn_164 : decode b_M_turn 164 = .ok (.goto 9, 3) := by decide +kernel
theorem dc_M_turn_173 : decode b_M_turn 173 = .ok (.iastore, 1) := by decide +kernel
theorem dc_M_turn_174 : decode b_M_turn 174 = .ok (.aload_n 0, 1) := by decide +kernel
theorem dc_M_turn_175 : decode b_M_turn 175 = .ok (.getfield 25, 3) := by decide +kernel
theorem dc_M_turn_178 : decode b_M_turn 178 = .ok (.iload 5, 2) := by decide +kernel
theorem dc_M_turn_180 : decode b_M_turn 180 = .ok (.iload 6, 2) := by decide +kernel
theorem dc_M_turn_182 : decode b_M_turn 182 = .ok (.sipush 1000, 3) := by decide +kernel
theorem dc_M_turn_185 : decode b_M_turn 185 = .ok (.idiv, 1) := by decide +kernel
theorem dc_M_turn_186 : decode b_M_turn 186 = .ok (.iload 7, 2) := by decide +kernel
theorem dc_M_turn_188 : decode b_M_turn 188 = .ok (.sipush 1000, 3) := by decide +kernel
theorem dc_M_turn_191 : decode b_M_turn 191 = .ok (.idiv, 1) := by decide +kernel
theorem dc_M_turn_192 : decode b_M_turn 192 = .ok (.if_icmp .ge 12, 3) := by decide +kernel
theorem dc_M_turn_204 : decode b_M_turn 204 = .ok (.iload 7, 2) := by decide +kernel
theorem dc_M_turn_206 : decode b_M_turn 206 = .ok (.sipush 1000, 3) := by decide +kernel
theorem dc_M_turn_209 : decode b_M_turn 209 = .ok (.idiv, 1) := by decide +kernel
theorem dc_M_turn_195 : decode b_M_turn 195 = .ok (.iload 6, 2) := by decide +kernel
theorem dc_M_turn_197 : decode b_M_turn 197 = .ok (.sipush 1000, 3) := by decide +kernel
theorem dc_M_turn_200 : decode b_M_turn 200 = .ok (.idiv, 1) := by decide +kernel
theorem dc_M_turn_201 : decode b_M_turn 201 = .ok (.goto 9, 3) := by decide +kernel
theorem dc_M_turn_210 : decode b_M_turn 210 = .ok (.iastore, 1) := by decide +kernel
theorem dc_M_turn_211 : decode b_M_turn 211 = .ok (.aload_n 0, 1) := by decide +kernel
theorem dc_M_turn_212 : decode b_M_turn 212 = .ok (.getfield 28, 3) := by decide +kernel
theorem dc_M_turn_215 : decode b_M_turn 215 = .ok (.iload 5, 2) := by decide +kernel
theorem dc_M_turn_217 : decode b_M_turn 217 = .ok (.iaload, 1) := by decide +kernel
theorem dc_M_turn_218 : decode b_M_turn 218 = .ok (.istore 8, 2) := by decide +kernel
theorem dc_M_turn_220 : decode b_M_turn 220 = .ok (.aload_n 0, 1) := by decide +kernel
theorem dc_M_turn_221 : decode b_M_turn 221 = .ok (.getfield 28, 3) := by decide +kernel
theorem dc_M_turn_224 : decode b_M_turn 224 = .ok (.iload 5, 2) := by decide +kernel
theorem dc_M_turn_226 : decode b_M_turn 226 = .ok (.iload_n 1, 1) := by decide +kernel
theorem dc_M_turn_227 : decode b_M_turn 227 = .ok (.invokestatic 123, 3) := by decide +kernel
theorem dc_M_turn_230 : decode b_M_turn 230 = .ok (.ifCond .eq 13, 3) := by decide +kernel
theorem dc_M_turn_243 : decode b_M_turn 243 = .ok (.iload 8, 2) := by decide +kernel
theorem dc_M_turn_233 : decode b_M_turn 233 = .ok (.aload_n 0, 1) := by decide +kernel
theorem dc_M_turn_234 : decode b_M_turn 234 = .ok (.getfield 31, 3) := by decide +kernel
theorem dc_M_turn_237 : decode b_M_turn 237 = .ok (.iload 5, 2) := by decide +kernel
theorem dc_M_turn_239 : decode b_M_turn 239 = .ok (.iaload, 1) := by decide +kernel
theorem dc_M_turn_240 : decode b_M_turn 240 = .ok (.goto 5, 3) := by decide +kernel
theorem dc_M_turn_245 : decode b_M_turn 245 = .ok (.iastore, 1) := by decide +kernel
theorem dc_M_turn_246 : decode b_M_turn 246 = .ok (.aload_n 0, 1) := by decide +kernel
theorem dc_M_turn_247 : decode b_M_turn 247 = .ok (.getfield 31, 3) := by decide +kernel
theorem dc_M_turn_250 : decode b_M_turn 250 = .ok (.iload 5, 2) := by decide +kernel
theorem dc_M_turn_252 : decode b_M_turn 252 = .ok (.iload_n 1, 1) := by decide +kernel
theorem dc_M_turn_253 : decode b_M_turn 253 = .ok (.invokestatic 123, 3) := by decide +kernel
theorem dc_M_turn_256 : decode b_M_turn 256 = .ok (.ifCond .eq 8, 3) := by decide +kernel
theorem dc_M_turn_264 : decode b_M_turn 264 = .ok (.aload_n 0, 1) := by decide +kernel
theorem dc_M_turn_265 : decode b_M_turn 265 = .ok (.getfield 31, 3) := by decide +kernel
theorem dc_M_turn_268 : decode b_M_turn 268 = .ok (.iload 5, 2) := by decide +kernel
theorem dc_M_turn_270 : decode b_M_turn 270 = .ok (.iaload, 1) := by decide +kernel
theorem dc_M_turn_259 : decode b_M_turn 259 = .ok (.iload 8, 2) := by decide +kernel
theorem dc_M_turn_261 : decode b_M_turn 261 = .ok (.goto 10, 3) := by decide +kernel
theorem dc_M_turn_271 : decode b_M_turn 271 = .ok (.iastore, 1) := by decide +kernel
theorem dc_M_turn_272 : decode b_M_turn 272 = .ok (.aload_n 0, 1) := by decide +kernel
theorem dc_M_turn_273 : decode b_M_turn 273 = .ok (.getfield 34, 3) := by decide +kernel
theorem dc_M_turn_276 : decode b_M_turn 276 = .ok (.iload 5, 2) := by decide +kernel
theorem dc_M_turn_278 : decode b_M_turn 278 = .ok (.aload_n 0, 1) := by decide +kernel
theorem dc_M_turn_279 : decode b_M_turn 279 = .ok (.getfield 34, 3) := by decide +kernel
theorem dc_M_turn_282 : decode b_M_turn 282 = .ok (.iload 5, 2) := by decide +kernel
theorem dc_M_turn_284 : decode b_M_turn 284 = .ok (.iaload, 1) := by decide +kernel
theorem dc_M_turn_285 : decode b_M_turn 285 = .ok (.iload_n 1, 1) := by decide +kernel
theorem dc_M_turn_286 : decode b_M_turn 286 = .ok (.invokestatic 126, 3) := by decide +kernel
theorem dc_M_turn_289 : decode b_M_turn 289 = .ok (.iastore, 1) := by decide +kernel
theorem dc_M_turn_290 : decode b_M_turn 290 = .ok (.iinc 4 1, 3) := by decide +kernel
theorem dc_M_turn_293 : decode b_M_turn 293 = .ok (.goto (-242), 3) := by decide +kernel
theorem dc_M_turn_305 : decode b_M_turn 305 = .ok (.iload 4, 2) := by decide +kernel
theorem dc_M_turn_307 : decode b_M_turn 307 = .ok (.bipush 20, 2) := by decide +kernel
theorem dc_M_turn_309 : decode b_M_turn 309 = .ok (.aload_n 0, 1) := by decide +kernel
theorem dc_M_turn_310 : decode b_M_turn 310 = .ok (.getfield 71, 3) := by decide +kernel
theorem dc_M_turn_313 : decode b_M_turn 313 = .ok (.imul, 1) := by decide +kernel
theorem dc_M_turn_314 : decode b_M_turn 314 = .ok (.aload_n 0, 1) := by decide +kernel
theorem dc_M_turn_315 : decode b_M_turn 315 = .ok (.getfield 19, 3) := by decide +kernel
theorem dc_M_turn_318 : decode b_M_turn 318 = .ok (.aload_n 0, 1) := by decide +kernel
theorem dc_M_turn_319 : decode b_M_turn 319 = .ok (.getfield 71, 3) := by decide +kernel
theorem dc_M_turn_322 : decode b_M_turn 322 = .ok (.iaload, 1) := by decide +kernel
theorem dc_M_turn_323 : decode b_M_turn 323 = .ok (.iadd, 1) := by decide +kernel
theorem dc_M_turn_324 : decode b_M_turn 324 = .ok (.if_icmp .ge 57, 3) := by decide +kernel
theorem dc_M_turn_381 : decode b_M_turn 381 = .ok (.aload_n 0, 1) := by decide +kernel
theorem dc_M_turn_382 : decode b_M_turn 382 = .ok (.getfield 7, 3) := by decide +kernel
theorem dc_M_turn_385 : decode b_M_turn 385 = .ok (.aload_n 0, 1) := by decide +kernel
theorem dc_M_turn_386 : decode b_M_turn 386 = .ok (.getfield 71, 3) := by decide +kernel
theorem dc_M_turn_389 : decode b_M_turn 389 = .ok (.iload_n 1, 1) := by decide +kernel
theorem dc_M_turn_390 : decode b_M_turn 390 = .ok (.invokestatic 123, 3) := by decide +kernel
theorem dc_M_turn_393 : decode b_M_turn 393 = .ok (.ifCond .eq 7, 3) := by decide +kernel
theorem dc_M_turn_400 : decode b_M_turn 400 = .ok (.iload_n 2, 1) := by decide +kernel
theorem dc_M_turn_396 : decode b_M_turn 396 = .ok (.iload_n 3, 1) := by decide +kernel
theorem dc_M_turn_397 : decode b_M_turn 397 = .ok (.goto 4, 3) := by decide +kernel
theorem dc_M_turn_327 : decode b_M_turn 327 = .ok (.iload_n 1, 1) := by decide +kernel
theorem dc_M_turn_328 : decode b_M_turn 328 = .ok (.aload_n 0, 1) := by decide +kernel
theorem dc_M_turn_329 : decode b_M_turn 329 = .ok (.getfield 43, 3) := by decide +kernel
theorem dc_M_turn_332 : decode b_M_turn 332 = .ok (.iload 4, 2) := by decide +kernel
theorem dc_M_turn_334 : decode b_M_turn 334 = .ok (.iaload, 1) := by decide +kernel
theorem dc_M_turn_335 : decode b_M_turn 335 = .ok (.aload_n 0, 1) := by decide +kernel
theorem dc_M_turn_336 : decode b_M_turn 336 = .ok (.getfield 46, 3) := by decide +kernel
theorem dc_M_turn_339 : decode b_M_turn 339 = .ok (.iload 4, 2) := by decide +kernel
theorem dc_M_turn_341 : decode b_M_turn 341 = .ok (.iaload, 1) := by decide +kernel
theorem dc_M_turn_342 : decode b_M_turn 342 = .ok (.iload_n 2, 1) := by decide +kernel
theorem dc_M_turn_343 : decode b_M_turn 343 = .ok (.iload_n 3, 1) := by decide +kernel
theorem dc_M_turn_344 : decode b_M_turn 344 = .ok (.invokestatic 119, 3) := by decide +kernel
theorem dc_M_turn_347 : decode b_M_turn 347 = .ok (.istore 5, 2) := by decide +kernel
theorem dc_M_turn_349 : decode b_M_turn 349 = .ok (.aload_n 0, 1) := by decide +kernel
theorem dc_M_turn_350 : decode b_M_turn 350 = .ok (.getfield 43, 3) := by decide +kernel
theorem dc_M_turn_353 : decode b_M_turn 353 = .ok (.iload 4, 2) := by decide +kernel
theorem dc_M_turn_355 : decode b_M_turn 355 = .ok (.iload 5, 2) := by decide +kernel
theorem dc_M_turn_357 : decode b_M_turn 357 = .ok (.sipush 1000, 3) := by decide +kernel
theorem dc_M_turn_360 : decode b_M_turn 360 = .ok (.irem, 1) := by decide +kernel
theorem dc_M_turn_361 : decode b_M_turn 361 = .ok (.iastore, 1) := by decide +kernel
theorem dc_M_turn_362 : decode b_M_turn 362 = .ok (.aload_n 0, 1) := by decide +kernel
theorem dc_M_turn_363 : decode b_M_turn 363 = .ok (.getfield 46, 3) := by decide +kernel
theorem dc_M_turn_366 : decode b_M_turn 366 = .ok (.iload 4, 2) := by decide +kernel
theorem dc_M_turn_368 : decode b_M_turn 368 = .ok (.iload 5, 2) := by decide +kernel
theorem dc_M_turn_370 : decode b_M_turn 370 = .ok (.sipush 1000, 3) := by decide +kernel
theorem dc_M_turn_373 : decode b_M_turn 373 = .ok (.idiv, 1) := by decide +kernel
theorem dc_M_turn_374 : decode b_M_turn 374 = .ok (.iastore, 1) := by decide +kernel
theorem dc_M_turn_375 : decode b_M_turn 375 = .ok (.iinc 4 1, 3) := by decide +kernel
theorem dc_M_turn_378 : decode b_M_turn 378 = .ok (.goto (-73), 3) := by decide +kernel
theorem dc_M_turn_401 : decode b_M_turn 401 = .ok (.iastore, 1) := by decide +kernel
theorem dc_M_turn_402 : decode b_M_turn 402 = .ok (.aload_n 0, 1) := by decide +kernel
theorem dc_M_turn_403 : decode b_M_turn 403 = .ok (.getfield 13, 3) := by decide +kernel
theorem dc_M_turn_406 : decode b_M_turn 406 = .ok (.aload_n 0, 1) := by decide +kernel
theorem dc_M_turn_407 : decode b_M_turn 407 = .ok (.getfield 71, 3) := by decide +kernel
theorem dc_M_turn_410 : decode b_M_turn 410 = .ok (.iload_n 1, 1) := by decide +kernel
theorem dc_M_turn_411 : decode b_M_turn 411 = .ok (.invokestatic 123, 3) := by decide +kernel
theorem dc_M_turn_414 : decode b_M_turn 414 = .ok (.ifCond .eq 7, 3) := by decide +kernel
theorem dc_M_turn_421 : decode b_M_turn 421 = .ok (.iload_n 3, 1) := by decide +kernel
theorem dc_M_turn_417 : decode b_M_turn 417 = .ok (.iload_n 2, 1) := by decide +kernel
theorem dc_M_turn_418 : decode b_M_turn 418 = .ok (.goto 4, 3) := by decide +kernel
theorem dc_M_turn_422 : decode b_M_turn 422 = .ok (.iastore, 1) := by decide +kernel
theorem dc_M_turn_423 : decode b_M_turn 423 = .ok (.aload_n 0, 1) := by decide +kernel
theorem dc_M_turn_424 : decode b_M_turn 424 = .ok (.aload_n 0, 1) := by decide +kernel
theorem dc_M_turn_425 : decode b_M_turn 425 = .ok (.getfield 74, 3) := by decide +kernel
theorem dc_M_turn_428 : decode b_M_turn 428 = .ok (.iload_n 1, 1) := by decide +kernel
theorem dc_M_turn_429 : decode b_M_turn 429 = .ok (.invokestatic 126, 3) := by decide +kernel
theorem dc_M_turn_432 : decode b_M_turn 432 = .ok (.putfield 74, 3) := by decide +kernel
theorem dc_M_turn_435 : decode b_M_turn 435 = .ok (.aload_n 0, 1) := by decide +kernel
theorem dc_M_turn_436 : decode b_M_turn 436 = .ok (.iconst 0, 1) := by decide +kernel
theorem dc_M_turn_437 : decode b_M_turn 437 = .ok (.putfield 77, 3) := by decide +kernel
theorem dc_M_turn_440 : decode b_M_turn 440 = .ok (.aload_n 0, 1) := by decide +kernel
theorem dc_M_turn_441 : decode b_M_turn 441 = .ok (.getfield 74, 3) := by decide +kernel
theorem dc_M_turn_444 : decode b_M_turn 444 = .ok (.ireturn, 1) := by decide +kernel
theorem dc_M_at_0 : decode b_M_at 0 = .ok (.aload_n 0, 1) := by decide +kernel
theorem dc_M_at_1 : decode b_M_at 1 = .ok (.aload_n 0, 1) := by decide +kernel
theorem dc_M_at_2 : decode b_M_at 2 = .ok (.iload_n 1, 1) := by decide +kernel
theorem dc_M_at_3 : decode b_M_at 3 = .ok (.invokevirtual 96, 3) := by decide +kernel
theorem dc_M_at_6 : decode b_M_at 6 = .ok (.ifCond .eq 7, 3) := by decide +kernel
theorem dc_M_at_13 : decode b_M_at 13 = .ok (.iconst 1, 1) := by decide +kernel
theorem dc_M_at_9 : decode b_M_at 9 = .ok (.iconst 0, 1) := by decide +kernel
theorem dc_M_at_10 : decode b_M_at 10 = .ok (.goto 4, 3) := by decide +kernel
theorem dc_M_at_14 : decode b_M_at 14 = .ok (.putfield 68, 3) := by decide +kernel
theorem dc_M_at_17 : decode b_M_at 17 = .ok (.aload_n 0, 1) := by decide +kernel
theorem dc_M_at_18 : decode b_M_at 18 = .ok (.getfield 68, 3) := by decide +kernel
theorem dc_M_at_21 : decode b_M_at 21 = .ok (.ifCond .le 5, 3) := by decide +kernel
theorem dc_M_at_26 : decode b_M_at 26 = .ok (.aload_n 0, 1) := by decide +kernel
theorem dc_M_at_27 : decode b_M_at 27 = .ok (.iload_n 1, 1) := by decide +kernel
theorem dc_M_at_28 : decode b_M_at 28 = .ok (.invokevirtual 92, 3) := by decide +kernel
theorem dc_M_at_31 : decode b_M_at 31 = .ok (.istore_n 3, 1) := by decide +kernel
theorem dc_M_at_32 : decode b_M_at 32 = .ok (.aload_n 0, 1) := by decide +kernel
theorem dc_M_at_33 : decode b_M_at 33 = .ok (.getfield 34, 3) := by decide +kernel
theorem dc_M_at_36 : decode b_M_at 36 = .ok (.iload_n 3, 1) := by decide +kernel
theorem dc_M_at_37 : decode b_M_at 37 = .ok (.iaload, 1) := by decide +kernel
theorem dc_M_at_38 : decode b_M_at 38 = .ok (.invokestatic 123, 3) := by decide +kernel
theorem dc_M_at_41 : decode b_M_at 41 = .ok (.istore 4, 2) := by decide +kernel
theorem dc_M_at_43 : decode b_M_at 43 = .ok (.iload_n 2, 1) := by decide +kernel
theorem dc_M_at_44 : decode b_M_at 44 = .ok (.tableswitch 132 0 7 #[48, 55, 62, 69, 76, 83, 90, 111], 48) := by decide +kernel
theorem dc_M_at_92 : decode b_M_at 92 = .ok (.aload_n 0, 1) := by decide +kernel
theorem dc_M_at_93 : decode b_M_at 93 = .ok (.getfield 22, 3) := by decide +kernel
theorem dc_M_at_96 : decode b_M_at 96 = .ok (.iload_n 3, 1) := by decide +kernel
theorem dc_M_at_97 : decode b_M_at 97 = .ok (.iaload, 1) := by decide +kernel
theorem dc_M_at_98 : decode b_M_at 98 = .ok (.ireturn, 1) := by decide +kernel
theorem dc_M_at_99 : decode b_M_at 99 = .ok (.aload_n 0, 1) := by decide +kernel
theorem dc_M_at_100 : decode b_M_at 100 = .ok (.getfield 25, 3) := by decide +kernel
theorem dc_M_at_103 : decode b_M_at 103 = .ok (.iload_n 3, 1) := by decide +kernel
theorem dc_M_at_104 : decode b_M_at 104 = .ok (.iaload, 1) := by decide +kernel
theorem dc_M_at_105 : decode b_M_at 105 = .ok (.ireturn, 1) := by decide +kernel
theorem dc_M_at_106 : decode b_M_at 106 = .ok (.aload_n 0, 1) := by decide +kernel
theorem dc_M_at_107 : decode b_M_at 107 = .ok (.getfield 28, 3) := by decide +kernel
theorem dc_M_at_110 : decode b_M_at 110 = .ok (.iload_n 3, 1) := by decide +kernel
theorem dc_M_at_111 : decode b_M_at 111 = .ok (.iaload, 1) := by decide +kernel
theorem dc_M_at_112 : decode b_M_at 112 = .ok (.ireturn, 1) := by decide +kernel
theorem dc_M_at_113 : decode b_M_at 113 = .ok (.aload_n 0, 1) := by decide +kernel
theorem dc_M_at_114 : decode b_M_at 114 = .ok (.getfield 31, 3) := by decide +kernel
theorem dc_M_at_117 : decode b_M_at 117 = .ok (.iload_n 3, 1) := by decide +kernel
theorem dc_M_at_118 : decode b_M_at 118 = .ok (.iaload, 1) := by decide +kernel
theorem dc_M_at_119 : decode b_M_at 119 = .ok (.ireturn, 1) := by decide +kernel
theorem dc_M_at_120 : decode b_M_at 120 = .ok (.aload_n 0, 1) := by decide +kernel
theorem dc_M_at_121 : decode b_M_at 121 = .ok (.getfield 34, 3) := by decide +kernel
theorem dc_M_at_124 : decode b_M_at 124 = .ok (.iload_n 3, 1) := by decide +kernel
theorem dc_M_at_125 : decode b_M_at 125 = .ok (.iaload, 1) := by decide +kernel
theorem dc_M_at_126 : decode b_M_at 126 = .ok (.ireturn, 1) := by decide +kernel
theorem dc_M_at_127 : decode b_M_at 127 = .ok (.aload_n 0, 1) := by decide +kernel
theorem dc_M_at_128 : decode b_M_at 128 = .ok (.getfield 37, 3) := by decide +kernel
theorem dc_M_at_131 : decode b_M_at 131 = .ok (.iload_n 3, 1) := by decide +kernel
theorem dc_M_at_132 : decode b_M_at 132 = .ok (.iaload, 1) := by decide +kernel
theorem dc_M_at_133 : decode b_M_at 133 = .ok (.ireturn, 1) := by decide +kernel
theorem dc_M_at_134 : decode b_M_at 134 = .ok (.iload 4, 2) := by decide +kernel
theorem dc_M_at_136 : decode b_M_at 136 = .ok (.ifCond .eq 12, 3) := by decide +kernel
theorem dc_M_at_148 : decode b_M_at 148 = .ok (.aload_n 0, 1) := by decide +kernel
theorem dc_M_at_149 : decode b_M_at 149 = .ok (.getfield 28, 3) := by decide +kernel
theorem dc_M_at_152 : decode b_M_at 152 = .ok (.iload_n 3, 1) := by decide +kernel
theorem dc_M_at_153 : decode b_M_at 153 = .ok (.iaload, 1) := by decide +kernel
theorem dc_M_at_154 : decode b_M_at 154 = .ok (.ireturn, 1) := by decide +kernel
theorem dc_M_at_139 : decode b_M_at 139 = .ok (.aload_n 0, 1) := by decide +kernel
theorem dc_M_at_140 : decode b_M_at 140 = .ok (.getfield 31, 3) := by decide +kernel
theorem dc_M_at_143 : decode b_M_at 143 = .ok (.iload_n 3, 1) := by decide +kernel
theorem dc_M_at_144 : decode b_M_at 144 = .ok (.iaload, 1) := by decide +kernel
theorem dc_M_at_145 : decode b_M_at 145 = .ok (.goto 9, 3) := by decide +kernel
theorem dc_M_at_155 : decode b_M_at 155 = .ok (.iload 4, 2) := by decide +kernel
theorem dc_M_at_157 : decode b_M_at 157 = .ok (.ifCond .eq 12, 3) := by decide +kernel
theorem dc_M_at_169 : decode b_M_at 169 = .ok (.aload_n 0, 1) := by decide +kernel
theorem dc_M_at_170 : decode b_M_at 170 = .ok (.getfield 31, 3) := by decide +kernel
theorem dc_M_at_173 : decode b_M_at 173 = .ok (.iload_n 3, 1) := by decide +kernel
theorem dc_M_at_174 : decode b_M_at 174 = .ok (.iaload, 1) := by decide +kernel
theorem dc_M_at_175 : decode b_M_at 175 = .ok (.ireturn, 1) := by decide +kernel
theorem dc_M_at_160 : decode b_M_at 160 = .ok (.aload_n 0, 1) := by decide +kernel
theorem dc_M_at_161 : decode b_M_at 161 = .ok (.getfield 28, 3) := by decide +kernel
theorem dc_M_at_164 : decode b_M_at 164 = .ok (.iload_n 3, 1) := by decide +kernel
theorem dc_M_at_165 : decode b_M_at 165 = .ok (.iaload, 1) := by decide +kernel
theorem dc_M_at_166 : decode b_M_at 166 = .ok (.goto 9, 3) := by decide +kernel
theorem dc_M_at_176 : decode b_M_at 176 = .ok (.iconst (-1), 1) := by decide +kernel
theorem dc_M_at_177 : decode b_M_at 177 = .ok (.ireturn, 1) := by decide +kernel
theorem dc_M_at_24 : decode b_M_at 24 = .ok (.iconst 0, 1) := by decide +kernel
theorem dc_M_at_25 : decode b_M_at 25 = .ok (.ireturn, 1) := by decide +kernel
theorem dc_M_byteAt_0 : decode b_M_byteAt 0 = .ok (.aload_n 0, 1) := by decide +kernel
theorem dc_M_byteAt_1 : decode b_M_byteAt 1 = .ok (.aload_n 0, 1) := by decide +kernel
theorem dc_M_byteAt_2 : decode b_M_byteAt 2 = .ok (.iload_n 1, 1) := by decide +kernel
theorem dc_M_byteAt_3 : decode b_M_byteAt 3 = .ok (.invokevirtual 96, 3) := by decide +kernel
theorem dc_M_byteAt_6 : decode b_M_byteAt 6 = .ok (.ifCond .eq 23, 3) := by decide +kernel
theorem dc_M_byteAt_9 : decode b_M_byteAt 9 = .ok (.iload_n 2, 1) := by decide +kernel
theorem dc_M_byteAt_10 : decode b_M_byteAt 10 = .ok (.iconst 0, 1) := by decide +kernel
theorem dc_M_byteAt_11 : decode b_M_byteAt 11 = .ok (.aload_n 0, 1) := by decide +kernel
theorem dc_M_byteAt_12 : decode b_M_byteAt 12 = .ok (.getfield 37, 3) := by decide +kernel
theorem dc_M_byteAt_15 : decode b_M_byteAt 15 = .ok (.aload_n 0, 1) := by decide +kernel
theorem dc_M_byteAt_16 : decode b_M_byteAt 16 = .ok (.iload_n 1, 1) := by decide +kernel
theorem dc_M_byteAt_17 : decode b_M_byteAt 17 = .ok (.invokevirtual 92, 3) := by decide +kernel
theorem dc_M_byteAt_20 : decode b_M_byteAt 20 = .ok (.iaload, 1) := by decide +kernel
theorem dc_M_byteAt_21 : decode b_M_byteAt 21 = .ok (.iconst 1, 1) := by decide +kernel
theorem dc_M_byteAt_22 : decode b_M_byteAt 22 = .ok (.isub, 1) := by decide +kernel
theorem dc_M_byteAt_23 : decode b_M_byteAt 23 = .ok (.invokestatic 84, 3) := by decide +kernel
theorem dc_M_byteAt_26 : decode b_M_byteAt 26 = .ok (.ifCond .ne 7, 3) := by decide +kernel
theorem dc_M_byteAt_33 : decode b_M_byteAt 33 = .ok (.iconst 0, 1) := by decide +kernel
theorem dc_M_byteAt_34 : decode b_M_byteAt 34 = .ok (.putfield 68, 3) := by decide +kernel
theorem dc_M_byteAt_37 : decode b_M_byteAt 37 = .ok (.aload_n 0, 1) := by decide +kernel
theorem dc_M_byteAt_38 : decode b_M_byteAt 38 = .ok (.getfield 68, 3) := by decide +kernel
theorem dc_M_byteAt_41 : decode b_M_byteAt 41 = .ok (.ifCond .le 7, 3) := by decide +kernel
theorem dc_M_byteAt_48 : decode b_M_byteAt 48 = .ok (.aload_n 0, 1) := by decide +kernel
theorem dc_M_byteAt_49 : decode b_M_byteAt 49 = .ok (.getfield 40, 3) := by decide +kernel
theorem dc_M_byteAt_52 : decode b_M_byteAt 52 = .ok (.bipush 12, 2) := by decide +kernel
theorem dc_M_byteAt_54 : decode b_M_byteAt 54 = .ok (.aload_n 0, 1) := by decide +kernel
theorem dc_M_byteAt_55 : decode b_M_byteAt 55 = .ok (.iload_n 1, 1) := by decide +kernel
theorem dc_M_byteAt_56 : decode b_M_byteAt 56 = .ok (.invokevirtual 92, 3) := by decide +kernel
theorem dc_M_byteAt_59 : decode b_M_byteAt 59 = .ok (.imul, 1) := by decide +kernel
theorem dc_M_byteAt_60 : decode b_M_byteAt 60 = .ok (.iload_n 2, 1) := by decide +kernel
theorem dc_M_byteAt_61 : decode b_M_byteAt 61 = .ok (.iadd, 1) := by decide +kernel
theorem dc_M_byteAt_62 : decode b_M_byteAt 62 = .ok (.iaload, 1) := by decide +kernel
theorem dc_M_byteAt_63 : decode b_M_byteAt 63 = .ok (.ireturn, 1) := by decide +kernel
theorem dc_M_byteAt_44 : decode b_M_byteAt 44 = .ok (.iconst 0, 1) := by decide +kernel
theorem dc_M_byteAt_45 : decode b_M_byteAt 45 = .ok (.goto 18, 3) := by decide +kernel
theorem dc_M_byteAt_29 : decode b_M_byteAt 29 = .ok (.iconst 1, 1) := by decide +kernel
theorem dc_M_byteAt_30 : decode b_M_byteAt 30 = .ok (.goto 4, 3) := by decide +kernel
theorem dc_M_shown_0 : decode b_M_shown 0 = .ok (.aload_n 0, 1) := by decide +kernel
theorem dc_M_shown_1 : decode b_M_shown 1 = .ok (.aload_n 0, 1) := by decide +kernel
theorem dc_M_shown_2 : decode b_M_shown 2 = .ok (.iload_n 1, 1) := by decide +kernel
theorem dc_M_shown_3 : decode b_M_shown 3 = .ok (.iload_n 2, 1) := by decide +kernel
theorem dc_M_shown_4 : decode b_M_shown 4 = .ok (.invokevirtual 100, 3) := by decide +kernel
theorem dc_M_shown_7 : decode b_M_shown 7 = .ok (.ifCond .eq 7, 3) := by decide +kernel
theorem dc_M_shown_14 : decode b_M_shown 14 = .ok (.iconst 1, 1) := by decide +kernel
theorem dc_M_shown_10 : decode b_M_shown 10 = .ok (.iconst 0, 1) := by decide +kernel
theorem dc_M_shown_11 : decode b_M_shown 11 = .ok (.goto 4, 3) := by decide +kernel
theorem dc_M_shown_15 : decode b_M_shown 15 = .ok (.putfield 68, 3) := by decide +kernel
theorem dc_M_shown_18 : decode b_M_shown 18 = .ok (.iconst 0, 1) := by decide +kernel
theorem dc_M_shown_19 : decode b_M_shown 19 = .ok (.istore_n 3, 1) := by decide +kernel
theorem dc_M_shown_20 : decode b_M_shown 20 = .ok (.iload_n 3, 1) := by decide +kernel
theorem dc_M_shown_21 : decode b_M_shown 21 = .ok (.aload_n 0, 1) := by decide +kernel
theorem dc_M_shown_22 : decode b_M_shown 22 = .ok (.getfield 16, 3) := by decide +kernel
theorem dc_M_shown_25 : decode b_M_shown 25 = .ok (.aload_n 0, 1) := by decide +kernel
theorem dc_M_shown_26 : decode b_M_shown 26 = .ok (.getfield 71, 3) := by decide +kernel
theorem dc_M_shown_29 : decode b_M_shown 29 = .ok (.iaload, 1) := by decide +kernel
theorem dc_M_shown_30 : decode b_M_shown 30 = .ok (.if_icmp .ge 188, 3) := by decide +kernel
theorem dc_M_shown_33 : decode b_M_shown 33 = .ok (.aload_n 0, 1) := by decide +kernel
theorem dc_M_shown_34 : decode b_M_shown 34 = .ok (.getfield 68, 3) := by decide +kernel
theorem dc_M_shown_37 : decode b_M_shown 37 = .ok (.ifCond .ne 181, 3) := by decide +kernel
theorem dc_M_shown_40 : decode b_M_shown 40 = .ok (.aload_n 0, 1) := by decide +kernel
theorem dc_M_shown_41 : decode b_M_shown 41 = .ok (.iload_n 3, 1) := by decide +kernel
theorem dc_M_shown_42 : decode b_M_shown 42 = .ok (.invokevirtual 92, 3) := by decide +kernel
theorem dc_M_shown_45 : decode b_M_shown 45 = .ok (.istore 4, 2) := by decide +kernel
theorem dc_M_shown_47 : decode b_M_shown 47 = .ok (.iload_n 1, 1) := by decide +kernel
theorem dc_M_shown_48 : decode b_M_shown 48 = .ok (.aload_n 0, 1) := by decide +kernel
theorem dc_M_shown_49 : decode b_M_shown 49 = .ok (.getfield 22, 3) := by decide +kernel
theorem dc_M_shown_52 : decode b_M_shown 52 = .ok (.iload 4, 2) := by decide +kernel
theorem dc_M_shown_54 : decode b_M_shown 54 = .ok (.iaload, 1) := by decide +kernel
theorem dc_M_shown_55 : decode b_M_shown 55 = .ok (.aload_n 0, 1) := by decide +kernel
theorem dc_M_shown_56 : decode b_M_shown 56 = .ok (.getfield 22, 3) := by decide +kernel
theorem dc_M_shown_59 : decode b_M_shown 59 = .ok (.iload 4, 2) := by decide +kernel
theorem dc_M_shown_61 : decode b_M_shown 61 = .ok (.iaload, 1) := by decide +kernel
theorem dc_M_shown_62 : decode b_M_shown 62 = .ok (.aload_n 0, 1) := by decide +kernel
theorem dc_M_shown_63 : decode b_M_shown 63 = .ok (.getfield 28, 3) := by decide +kernel
theorem dc_M_shown_66 : decode b_M_shown 66 = .ok (.iload 4, 2) := by decide +kernel
theorem dc_M_shown_68 : decode b_M_shown 68 = .ok (.iaload, 1) := by decide +kernel
theorem dc_M_shown_69 : decode b_M_shown 69 = .ok (.iadd, 1) := by decide +kernel
theorem dc_M_shown_70 : decode b_M_shown 70 = .ok (.iconst 1, 1) := by decide +kernel
theorem dc_M_shown_71 : decode b_M_shown 71 = .ok (.isub, 1) := by decide +kernel
theorem dc_M_shown_72 : decode b_M_shown 72 = .ok (.invokestatic 84, 3) := by decide +kernel
theorem dc_M_shown_75 : decode b_M_shown 75 = .ok (.ifCond .eq 137, 3) := by decide +kernel
theorem dc_M_shown_78 : decode b_M_shown 78 = .ok (.iload_n 2, 1) := by decide +kernel
theorem dc_M_shown_79 : decode b_M_shown 79 = .ok (.aload_n 0, 1) := by decide +kernel
theorem dc_M_shown_80 : decode b_M_shown 80 = .ok (.getfield 25, 3) := by decide +kernel
theorem dc_M_shown_83 : decode b_M_shown 83 = .ok (.iload 4, 2) := by decide +kernel
theorem dc_M_shown_85 : decode b_M_shown 85 = .ok (.iaload, 1) := by decide +kernel
theorem dc_M_shown_86 : decode b_M_shown 86 = .ok (.aload_n 0, 1) := by decide +kernel
theorem dc_M_shown_87 : decode b_M_shown 87 = .ok (.getfield 25, 3) := by decide +kernel
theorem dc_M_shown_90 : decode b_M_shown 90 = .ok (.iload 4, 2) := by decide +kernel
theorem dc_M_shown_92 : decode b_M_shown 92 = .ok (.iaload, 1) := by decide +kernel
theorem dc_M_shown_93 : decode b_M_shown 93 = .ok (.aload_n 0, 1) := by decide +kernel
theorem dc_M_shown_94 : decode b_M_shown 94 = .ok (.getfield 31, 3) := by decide +kernel
theorem dc_M_shown_97 : decode b_M_shown 97 = .ok (.iload 4, 2) := by decide +kernel
theorem dc_M_shown_99 : decode b_M_shown 99 = .ok (.iaload, 1) := by decide +kernel
theorem dc_M_shown_100 : decode b_M_shown 100 = .ok (.iadd, 1) := by decide +kernel
theorem dc_M_shown_101 : decode b_M_shown 101 = .ok (.iconst 1, 1) := by decide +kernel
theorem dc_M_shown_102 : decode b_M_shown 102 = .ok (.isub, 1) := by decide +kernel
theorem dc_M_shown_103 : decode b_M_shown 103 = .ok (.invokestatic 84, 3) := by decide +kernel
theorem dc_M_shown_106 : decode b_M_shown 106 = .ok (.ifCond .eq 106, 3) := by decide +kernel
theorem dc_M_shown_109 : decode b_M_shown 109 = .ok (.aload_n 0, 1) := by decide +kernel
theorem dc_M_shown_110 : decode b_M_shown 110 = .ok (.getfield 34, 3) := by decide +kernel
theorem dc_M_shown_113 : decode b_M_shown 113 = .ok (.iload 4, 2) := by decide +kernel
theorem dc_M_shown_115 : decode b_M_shown 115 = .ok (.iaload, 1) := by decide +kernel
theorem dc_M_shown_116 : decode b_M_shown 116 = .ok (.invokestatic 123, 3) := by decide +kernel
theorem dc_M_shown_119 : decode b_M_shown 119 = .ok (.ifCond .eq 13, 3) := by decide +kernel
theorem dc_M_shown_132 : decode b_M_shown 132 = .ok (.aload_n 0, 1) := by decide +kernel
theorem dc_M_shown_133 : decode b_M_shown 133 = .ok (.getfield 28, 3) := by decide +kernel
theorem dc_M_shown_136 : decode b_M_shown 136 = .ok (.iload 4, 2) := by decide +kernel
theorem dc_M_shown_138 : decode b_M_shown 138 = .ok (.iaload, 1) := by decide +kernel
theorem dc_M_shown_122 : decode b_M_shown 122 = .ok (.aload_n 0, 1) := by decide +kernel
theorem dc_M_shown_123 : decode b_M_shown 123 = .ok (.getfield 31, 3) := by decide +kernel
theorem dc_M_shown_126 : decode b_M_shown 126 = .ok (.iload 4, 2) := by decide +kernel
theorem dc_M_shown_128 : decode b_M_shown 128 = .ok (.iaload, 1) := by decide +kernel
theorem dc_M_shown_129 : decode b_M_shown 129 = .ok (.goto 10, 3) := by decide +kernel
theorem dc_M_shown_139 : decode b_M_shown 139 = .ok (.istore 5, 2) := by decide +kernel
theorem dc_M_shown_141 : decode b_M_shown 141 = .ok (.aload_n 0, 1) := by decide +kernel
theorem dc_M_shown_142 : decode b_M_shown 142 = .ok (.getfield 34, 3) := by decide +kernel
theorem dc_M_shown_145 : decode b_M_shown 145 = .ok (.iload 4, 2) := by decide +kernel
theorem dc_M_shown_147 : decode b_M_shown 147 = .ok (.iaload, 1) := by decide +kernel
theorem dc_M_shown_148 : decode b_M_shown 148 = .ok (.invokestatic 123, 3) := by decide +kernel
theorem dc_M_shown_151 : decode b_M_shown 151 = .ok (.ifCond .eq 13, 3) := by decide +kernel
theorem dc_M_shown_164 : decode b_M_shown 164 = .ok (.aload_n 0, 1) := by decide +kernel
theorem dc_M_shown_165 : decode b_M_shown 165 = .ok (.getfield 31, 3) := by decide +kernel
theorem dc_M_shown_168 : decode b_M_shown 168 = .ok (.iload 4, 2) := by decide +kernel
theorem dc_M_shown_170 : decode b_M_shown 170 = .ok (.iaload, 1) := by decide +kernel
theorem dc_M_shown_154 : decode b_M_shown 154 = .ok (.aload_n 0, 1) := by decide +kernel
theorem dc_M_shown_155 : decode b_M_shown 155 = .ok (.getfield 28, 3) := by decide +kernel
theorem dc_M_shown_158 : decode b_M_shown 158 = .ok (.iload 4, 2) := by decide +kernel
theorem dc_M_shown_160 : decode b_M_shown 160 = .ok (.iaload, 1) := by decide +kernel
theorem dc_M_shown_161 : decode b_M_shown 161 = .ok (.goto 10, 3) := by decide +kernel
theorem dc_M_shown_171 : decode b_M_shown 171 = .ok (.istore 6, 2) := by decide +kernel
theorem dc_M_shown_173 : decode b_M_shown 173 = .ok (.sipush 4096, 3) := by decide +kernel
theorem dc_M_shown_176 : decode b_M_shown 176 = .ok (.iload_n 3, 1) := by decide +kernel
theorem dc_M_shown_177 : decode b_M_shown 177 = .ok (.imul, 1) := by decide +kernel
theorem dc_M_shown_178 : decode b_M_shown 178 = .ok (.aload_n 0, 1) := by decide +kernel
theorem dc_M_shown_179 : decode b_M_shown 179 = .ok (.getfield 34, 3) := by decide +kernel
theorem dc_M_shown_182 : decode b_M_shown 182 = .ok (.iload 4, 2) := by decide +kernel
theorem dc_M_shown_184 : decode b_M_shown 184 = .ok (.iaload, 1) := by decide +kernel
theorem dc_M_shown_185 : decode b_M_shown 185 = .ok (.iload_n 1, 1) := by decide +kernel
theorem dc_M_shown_186 : decode b_M_shown 186 = .ok (.aload_n 0, 1) := by decide +kernel
theorem dc_M_shown_187 : decode b_M_shown 187 = .ok (.getfield 22, 3) := by decide +kernel
theorem dc_M_shown_190 : decode b_M_shown 190 = .ok (.iload 4, 2) := by decide +kernel
theorem dc_M_shown_192 : decode b_M_shown 192 = .ok (.iaload, 1) := by decide +kernel
theorem dc_M_shown_193 : decode b_M_shown 193 = .ok (.isub, 1) := by decide +kernel
theorem dc_M_shown_194 : decode b_M_shown 194 = .ok (.iload_n 2, 1) := by decide +kernel
theorem dc_M_shown_195 : decode b_M_shown 195 = .ok (.aload_n 0, 1) := by decide +kernel
theorem dc_M_shown_196 : decode b_M_shown 196 = .ok (.getfield 25, 3) := by decide +kernel
theorem dc_M_shown_199 : decode b_M_shown 199 = .ok (.iload 4, 2) := by decide +kernel
theorem dc_M_shown_201 : decode b_M_shown 201 = .ok (.iaload, 1) := by decide +kernel
theorem dc_M_shown_202 : decode b_M_shown 202 = .ok (.isub, 1) := by decide +kernel
theorem dc_M_shown_203 : decode b_M_shown 203 = .ok (.iload 5, 2) := by decide +kernel
theorem dc_M_shown_205 : decode b_M_shown 205 = .ok (.iload 6, 2) := by decide +kernel
theorem dc_M_shown_207 : decode b_M_shown 207 = .ok (.invokestatic 130, 3) := by decide +kernel
theorem dc_M_shown_210 : decode b_M_shown 210 = .ok (.iadd, 1) := by decide +kernel
theorem dc_M_shown_211 : decode b_M_shown 211 = .ok (.ireturn, 1) := by decide +kernel
theorem dc_M_shown_212 : decode b_M_shown 212 = .ok (.iinc 3 1, 3) := by decide +kernel
theorem dc_M_shown_215 : decode b_M_shown 215 = .ok (.goto (-195), 3) := by decide +kernel
theorem dc_M_shown_218 : decode b_M_shown 218 = .ok (.aload_n 0, 1) := by decide +kernel
theorem dc_M_shown_219 : decode b_M_shown 219 = .ok (.getfield 68, 3) := by decide +kernel
theorem dc_M_shown_222 : decode b_M_shown 222 = .ok (.ifCond .le 7, 3) := by decide +kernel
theorem dc_M_shown_229 : decode b_M_shown 229 = .ok (.iconst (-1), 1) := by decide +kernel
theorem dc_M_shown_230 : decode b_M_shown 230 = .ok (.ireturn, 1) := by decide +kernel
theorem dc_M_shown_225 : decode b_M_shown 225 = .ok (.iconst 0, 1) := by decide +kernel
theorem dc_M_shown_226 : decode b_M_shown 226 = .ok (.goto 4, 3) := by decide +kernel
theorem dc_M_pointer_0 : decode b_M_pointer 0 = .ok (.aload_n 0, 1) := by decide +kernel
theorem dc_M_pointer_1 : decode b_M_pointer 1 = .ok (.aload_n 0, 1) := by decide +kernel
theorem dc_M_pointer_2 : decode b_M_pointer 2 = .ok (.iload_n 1, 1) := by decide +kernel
theorem dc_M_pointer_3 : decode b_M_pointer 3 = .ok (.invokevirtual 96, 3) := by decide +kernel
theorem dc_M_pointer_6 : decode b_M_pointer 6 = .ok (.ifCond .eq 7, 3) := by decide +kernel
theorem dc_M_pointer_13 : decode b_M_pointer 13 = .ok (.iconst 1, 1) := by decide +kernel
theorem dc_M_pointer_9 : decode b_M_pointer 9 = .ok (.iconst 0, 1) := by decide +kernel
theorem dc_M_pointer_10 : decode b_M_pointer 10 = .ok (.goto 4, 3) := by decide +kernel
theorem dc_M_pointer_14 : decode b_M_pointer 14 = .ok (.putfield 68, 3) := by decide +kernel
theorem dc_M_pointer_17 : decode b_M_pointer 17 = .ok (.aload_n 0, 1) := by decide +kernel
theorem dc_M_pointer_18 : decode b_M_pointer 18 = .ok (.getfield 68, 3) := by decide +kernel
theorem dc_M_pointer_21 : decode b_M_pointer 21 = .ok (.ifCond .le 7, 3) := by decide +kernel
theorem dc_M_pointer_28 : decode b_M_pointer 28 = .ok (.aload_n 0, 1) := by decide +kernel
theorem dc_M_pointer_29 : decode b_M_pointer 29 = .ok (.iload_n 1, 1) := by decide +kernel
theorem dc_M_pointer_30 : decode b_M_pointer 30 = .ok (.invokevirtual 143, 3) := by decide +kernel
theorem dc_M_pointer_33 : decode b_M_pointer 33 = .ok (.ireturn, 1) := by decide +kernel
theorem dc_M_pointer_24 : decode b_M_pointer 24 = .ok (.iconst 0, 1) := by decide +kernel
theorem dc_M_pointer_25 : decode b_M_pointer 25 = .ok (.goto 8, 3) := by decide +kernel
theorem dc_M_tellPart_0 : decode b_M_tellPart 0 = .ok (.aload_n 0, 1) := by decide +kernel
theorem dc_M_tellPart_1 : decode b_M_tellPart 1 = .ok (.getfield 81, 3) := by decide +kernel
theorem dc_M_tellPart_4 : decode b_M_tellPart 4 = .ok (.istore_n 2, 1) := by decide +kernel
theorem dc_M_tellPart_5 : decode b_M_tellPart 5 = .ok (.aload_n 0, 1) := by decide +kernel
theorem dc_M_tellPart_6 : decode b_M_tellPart 6 = .ok (.aload_n 0, 1) := by decide +kernel
theorem dc_M_tellPart_7 : decode b_M_tellPart 7 = .ok (.getfield 22, 3) := by decide +kernel
theorem dc_M_tellPart_10 : decode b_M_tellPart 10 = .ok (.iload_n 1, 1) := by decide +kernel
theorem dc_M_tellPart_11 : decode b_M_tellPart 11 = .ok (.iaload, 1) := by decide +kernel
theorem dc_M_tellPart_12 : decode b_M_tellPart 12 = .ok (.invokevirtual 146, 3) := by decide +kernel
theorem dc_M_tellPart_15 : decode b_M_tellPart 15 = .ok (.aload_n 0, 1) := by decide +kernel
theorem dc_M_tellPart_16 : decode b_M_tellPart 16 = .ok (.aload_n 0, 1) := by decide +kernel
theorem dc_M_tellPart_17 : decode b_M_tellPart 17 = .ok (.getfield 25, 3) := by decide +kernel
theorem dc_M_tellPart_20 : decode b_M_tellPart 20 = .ok (.iload_n 1, 1) := by decide +kernel
theorem dc_M_tellPart_21 : decode b_M_tellPart 21 = .ok (.iaload, 1) := by decide +kernel
theorem dc_M_tellPart_22 : decode b_M_tellPart 22 = .ok (.invokevirtual 146, 3) := by decide +kernel
theorem dc_M_tellPart_25 : decode b_M_tellPart 25 = .ok (.aload_n 0, 1) := by decide +kernel
theorem dc_M_tellPart_26 : decode b_M_tellPart 26 = .ok (.aload_n 0, 1) := by decide +kernel
theorem dc_M_tellPart_27 : decode b_M_tellPart 27 = .ok (.getfield 28, 3) := by decide +kernel
theorem dc_M_tellPart_30 : decode b_M_tellPart 30 = .ok (.iload_n 1, 1) := by decide +kernel
theorem dc_M_tellPart_31 : decode b_M_tellPart 31 = .ok (.iaload, 1) := by decide +kernel
theorem dc_M_tellPart_32 : decode b_M_tellPart 32 = .ok (.invokevirtual 146, 3) := by decide +kernel
theorem dc_M_tellPart_35 : decode b_M_tellPart 35 = .ok (.aload_n 0, 1) := by decide +kernel
theorem dc_M_tellPart_36 : decode b_M_tellPart 36 = .ok (.aload_n 0, 1) := by decide +kernel
theorem dc_M_tellPart_37 : decode b_M_tellPart 37 = .ok (.getfield 31, 3) := by decide +kernel
theorem dc_M_tellPart_40 : decode b_M_tellPart 40 = .ok (.iload_n 1, 1) := by decide +kernel
theorem dc_M_tellPart_41 : decode b_M_tellPart 41 = .ok (.iaload, 1) := by decide +kernel
theorem dc_M_tellPart_42 : decode b_M_tellPart 42 = .ok (.invokevirtual 146, 3) := by decide +kernel
theorem dc_M_tellPart_45 : decode b_M_tellPart 45 = .ok (.aload_n 0, 1) := by decide +kernel
theorem dc_M_tellPart_46 : decode b_M_tellPart 46 = .ok (.aload_n 0, 1) := by decide +kernel
theorem dc_M_tellPart_47 : decode b_M_tellPart 47 = .ok (.getfield 34, 3) := by decide +kernel
theorem dc_M_tellPart_50 : decode b_M_tellPart 50 = .ok (.iload_n 1, 1) := by decide +kernel
theorem dc_M_tellPart_51 : decode b_M_tellPart 51 = .ok (.iaload, 1) := by decide +kernel
theorem dc_M_tellPart_52 : decode b_M_tellPart 52 = .ok (.invokevirtual 133, 3) := by decide +kernel
theorem dc_M_tellPart_55 : decode b_M_tellPart 55 = .ok (.aload_n 0, 1) := by decide +kernel
theorem dc_M_tellPart_56 : decode b_M_tellPart 56 = .ok (.aload_n 0, 1) := by decide +kernel
theorem dc_M_tellPart_57 : decode b_M_tellPart 57 = .ok (.getfield 37, 3) := by decide +kernel
theorem dc_M_tellPart_60 : decode b_M_tellPart 60 = .ok (.iload_n 1, 1) := by decide +kernel
theorem dc_M_tellPart_61 : decode b_M_tellPart 61 = .ok (.iaload, 1) := by decide +kernel
theorem dc_M_tellPart_62 : decode b_M_tellPart 62 = .ok (.invokevirtual 133, 3) := by decide +kernel
theorem dc_M_tellPart_65 : decode b_M_tellPart 65 = .ok (.iconst 0, 1) := by decide +kernel
theorem dc_M_tellPart_66 : decode b_M_tellPart 66 = .ok (.istore_n 3, 1) := by decide +kernel
theorem dc_M_tellPart_67 : decode b_M_tellPart 67 = .ok (.iload_n 3, 1) := by decide +kernel
theorem dc_M_tellPart_68 : decode b_M_tellPart 68 = .ok (.aload_n 0, 1) := by decide +kernel
theorem dc_M_tellPart_69 : decode b_M_tellPart 69 = .ok (.getfield 37, 3) := by decide +kernel
theorem dc_M_tellPart_72 : decode b_M_tellPart 72 = .ok (.iload_n 1, 1) := by decide +kernel
theorem dc_M_tellPart_73 : decode b_M_tellPart 73 = .ok (.iaload, 1) := by decide +kernel
theorem dc_M_tellPart_74 : decode b_M_tellPart 74 = .ok (.if_icmp .ge 24, 3) := by decide +kernel
theorem dc_M_tellPart_98 : decode b_M_tellPart 98 = .ok (.iconst 1, 1) := by decide +kernel
theorem dc_M_tellPart_99 : decode b_M_tellPart 99 = .ok (.istore_n 3, 1) := by decide +kernel
theorem dc_M_tellPart_100 : decode b_M_tellPart 100 = .ok (.iload_n 2, 1) := by decide +kernel
theorem dc_M_tellPart_101 : decode b_M_tellPart 101 = .ok (.istore 4, 2) := by decide +kernel
theorem dc_M_tellPart_77 : decode b_M_tellPart 77 = .ok (.aload_n 0, 1) := by decide +kernel
theorem dc_M_tellPart_78 : decode b_M_tellPart 78 = .ok (.aload_n 0, 1) := by decide +kernel
theorem dc_M_tellPart_79 : decode b_M_tellPart 79 = .ok (.getfield 40, 3) := by decide +kernel
theorem dc_M_tellPart_82 : decode b_M_tellPart 82 = .ok (.bipush 12, 2) := by decide +kernel
theorem dc_M_tellPart_84 : decode b_M_tellPart 84 = .ok (.iload_n 1, 1) := by decide +kernel
theorem dc_M_tellPart_85 : decode b_M_tellPart 85 = .ok (.imul, 1) := by decide +kernel
theorem dc_M_tellPart_86 : decode b_M_tellPart 86 = .ok (.iload_n 3, 1) := by decide +kernel
theorem dc_M_tellPart_87 : decode b_M_tellPart 87 = .ok (.iadd, 1) := by decide +kernel
theorem dc_M_tellPart_88 : decode b_M_tellPart 88 = .ok (.iaload, 1) := by decide +kernel
theorem dc_M_tellPart_89 : decode b_M_tellPart 89 = .ok (.invokevirtual 133, 3) := by decide +kernel
theorem dc_M_tellPart_92 : decode b_M_tellPart 92 = .ok (.iinc 3 1, 3) := by decide +kernel
theorem dc_M_tellPart_95 : decode b_M_tellPart 95 = .ok (.goto (-28), 3) := by decide +kernel
theorem dc_M_tellPart_103 : decode b_M_tellPart 103 = .ok (.iload 4, 2) := by decide +kernel
theorem dc_M_tellPart_105 : decode b_M_tellPart 105 = .ok (.aload_n 0, 1) := by decide +kernel
theorem dc_M_tellPart_106 : decode b_M_tellPart 106 = .ok (.getfield 81, 3) := by decide +kernel
theorem dc_M_tellPart_109 : decode b_M_tellPart 109 = .ok (.if_icmp .ge 25, 3) := by decide +kernel
theorem dc_M_tellPart_134 : decode b_M_tellPart 134 = .ok (.aload_n 0, 1) := by decide +kernel
theorem dc_M_tellPart_135 : decode b_M_tellPart 135 = .ok (.iload_n 3, 1) := by decide +kernel
theorem dc_M_tellPart_136 : decode b_M_tellPart 136 = .ok (.invokevirtual 146, 3) := by decide +kernel
theorem dc_M_tellPart_139 : decode b_M_tellPart 139 = .ok (.return_, 1) := by decide +kernel
theorem dc_M_tellPart_112 : decode b_M_tellPart 112 = .ok (.bipush 31, 2) := by decide +kernel
theorem dc_M_tellPart_114 : decode b_M_tellPart 114 = .ok (.iload_n 3, 1) := by decide +kernel
theorem dc_M_tellPart_115 : decode b_M_tellPart 115 = .ok (.imul, 1) := by decide +kernel
theorem dc_M_tellPart_116 : decode b_M_tellPart 116 = .ok (.aload_n 0, 1) := by decide +kernel
theorem dc_M_tellPart_117 : decode b_M_tellPart 117 = .ok (.getfield 55, 3) := by decide +kernel
theorem dc_M_tellPart_120 : decode b_M_tellPart 120 = .ok (.iload 4, 2) := by decide +kernel
theorem dc_M_tellPart_122 : decode b_M_tellPart 122 = .ok (.iaload, 1) := by decide +kernel
theorem dc_M_tellPart_123 : decode b_M_tellPart 123 = .ok (.iadd, 1) := by decide +kernel
theorem dc_M_tellPart_124 : decode b_M_tellPart 124 = .ok (.ldc 149, 2) := by decide +kernel
theorem dc_M_tellPart_126 : decode b_M_tellPart 126 = .ok (.irem, 1) := by decide +kernel
theorem dc_M_tellPart_127 : decode b_M_tellPart 127 = .ok (.istore_n 3, 1) := by decide +kernel
theorem dc_M_tellPart_128 : decode b_M_tellPart 128 = .ok (.iinc 4 1, 3) := by decide +kernel
theorem dc_M_tellPart_131 : decode b_M_tellPart 131 = .ok (.goto (-28), 3) := by decide +kernel
theorem dc_M_crop_0 : decode b_M_crop 0 = .ok (.aload_n 0, 1) := by decide +kernel
theorem dc_M_crop_1 : decode b_M_crop 1 = .ok (.iload_n 3, 1) := by decide +kernel
theorem dc_M_crop_2 : decode b_M_crop 2 = .ok (.iconst 1, 1) := by decide +kernel
theorem dc_M_crop_3 : decode b_M_crop 3 = .ok (.if_icmp .lt 21, 3) := by decide +kernel
theorem dc_M_crop_6 : decode b_M_crop 6 = .ok (.iload 4, 2) := by decide +kernel
theorem dc_M_crop_8 : decode b_M_crop 8 = .ok (.iconst 1, 1) := by decide +kernel
theorem dc_M_crop_9 : decode b_M_crop 9 = .ok (.if_icmp .lt 15, 3) := by decide +kernel
theorem dc_M_crop_12 : decode b_M_crop 12 = .ok (.aload_n 0, 1) := by decide +kernel
theorem dc_M_crop_13 : decode b_M_crop 13 = .ok (.iload_n 1, 1) := by decide +kernel
theorem dc_M_crop_14 : decode b_M_crop 14 = .ok (.iload_n 2, 1) := by decide +kernel
theorem dc_M_crop_15 : decode b_M_crop 15 = .ok (.iload_n 3, 1) := by decide +kernel
theorem dc_M_crop_16 : decode b_M_crop 16 = .ok (.iload 4, 2) := by decide +kernel
theorem dc_M_crop_18 : decode b_M_crop 18 = .ok (.invokevirtual 88, 3) := by decide +kernel
theorem dc_M_crop_21 : decode b_M_crop 21 = .ok (.ifCond .ne 7, 3) := by decide +kernel
theorem dc_M_crop_28 : decode b_M_crop 28 = .ok (.iconst 0, 1) := by decide +kernel
theorem dc_M_crop_29 : decode b_M_crop 29 = .ok (.putfield 68, 3) := by decide +kernel
theorem dc_M_crop_32 : decode b_M_crop 32 = .ok (.aload_n 0, 1) := by decide +kernel
theorem dc_M_crop_33 : decode b_M_crop 33 = .ok (.getfield 68, 3) := by decide +kernel
theorem dc_M_crop_36 : decode b_M_crop 36 = .ok (.ifCond .le 5, 3) := by decide +kernel
theorem dc_M_crop_41 : decode b_M_crop 41 = .ok (.aload_n 0, 1) := by decide +kernel
theorem dc_M_crop_42 : decode b_M_crop 42 = .ok (.aload_n 0, 1) := by decide +kernel
theorem dc_M_crop_43 : decode b_M_crop 43 = .ok (.iconst 1, 1) := by decide +kernel
theorem dc_M_crop_44 : decode b_M_crop 44 = .ok (.iload_n 1, 1) := by decide +kernel
theorem dc_M_crop_45 : decode b_M_crop 45 = .ok (.invokevirtual 104, 3) := by decide +kernel
theorem dc_M_crop_48 : decode b_M_crop 48 = .ok (.ifCond .eq 35, 3) := by decide +kernel
theorem dc_M_crop_51 : decode b_M_crop 51 = .ok (.aload_n 0, 1) := by decide +kernel
theorem dc_M_crop_52 : decode b_M_crop 52 = .ok (.iconst 0, 1) := by decide +kernel
theorem dc_M_crop_53 : decode b_M_crop 53 = .ok (.iload_n 2, 1) := by decide +kernel
theorem dc_M_crop_54 : decode b_M_crop 54 = .ok (.invokevirtual 104, 3) := by decide +kernel
theorem dc_M_crop_57 : decode b_M_crop 57 = .ok (.ifCond .eq 26, 3) := by decide +kernel
theorem dc_M_crop_60 : decode b_M_crop 60 = .ok (.aload_n 0, 1) := by decide +kernel
theorem dc_M_crop_61 : decode b_M_crop 61 = .ok (.iconst 1, 1) := by decide +kernel
theorem dc_M_crop_62 : decode b_M_crop 62 = .ok (.iload_n 1, 1) := by decide +kernel
theorem dc_M_crop_63 : decode b_M_crop 63 = .ok (.iload_n 3, 1) := by decide +kernel
theorem dc_M_crop_64 : decode b_M_crop 64 = .ok (.iadd, 1) := by decide +kernel
theorem dc_M_crop_65 : decode b_M_crop 65 = .ok (.invokevirtual 104, 3) := by decide +kernel
theorem dc_M_crop_68 : decode b_M_crop 68 = .ok (.ifCond .eq 15, 3) := by decide +kernel
theorem dc_M_crop_71 : decode b_M_crop 71 = .ok (.aload_n 0, 1) := by decide +kernel
theorem dc_M_crop_72 : decode b_M_crop 72 = .ok (.iconst 0, 1) := by decide +kernel
theorem dc_M_crop_73 : decode b_M_crop 73 = .ok (.iload_n 2, 1) := by decide +kernel
theorem dc_M_crop_74 : decode b_M_crop 74 = .ok (.iload 4, 2) := by decide +kernel
theorem dc_M_crop_76 : decode b_M_crop 76 = .ok (.iadd, 1) := by decide +kernel
theorem dc_M_crop_77 : decode b_M_crop 77 = .ok (.invokevirtual 104, 3) := by decide +kernel
theorem dc_M_crop_80 : decode b_M_crop 80 = .ok (.ifCond .ne 7, 3) := by decide +kernel
theorem dc_M_crop_87 : decode b_M_crop 87 = .ok (.iconst 0, 1) := by decide +kernel
theorem dc_M_crop_39 : decode b_M_crop 39 = .ok (.iconst 0, 1) := by decide +kernel
theorem dc_M_crop_40 : decode b_M_crop 40 = .ok (.ireturn, 1) := by decide +kernel
theorem dc_M_crop_88 : decode b_M_crop 88 = .ok (.putfield 77, 3) := by decide +kernel
theorem dc_M_crop_91 : decode b_M_crop 91 = .ok (.aload_n 0, 1) := by decide +kernel
theorem dc_M_crop_92 : decode b_M_crop 92 = .ok (.getfield 77, 3) := by decide +kernel
theorem dc_M_crop_95 : decode b_M_crop 95 = .ok (.ifCond .eq 58, 3) := by decide +kernel
theorem dc_M_crop_153 : decode b_M_crop 153 = .ok (.iconst 0, 1) := by decide +kernel
theorem dc_M_crop_154 : decode b_M_crop 154 = .ok (.istore 5, 2) := by decide +kernel
theorem dc_M_crop_156 : decode b_M_crop 156 = .ok (.iconst 0, 1) := by decide +kernel
theorem dc_M_crop_157 : decode b_M_crop 157 = .ok (.istore 6, 2) := by decide +kernel
theorem dc_M_crop_98 : decode b_M_crop 98 = .ok (.aload_n 0, 1) := by decide +kernel
theorem dc_M_crop_99 : decode b_M_crop 99 = .ok (.getfield 52, 3) := by decide +kernel
theorem dc_M_crop_102 : decode b_M_crop 102 = .ok (.iconst 0, 1) := by decide +kernel
theorem dc_M_crop_103 : decode b_M_crop 103 = .ok (.aload_n 0, 1) := by decide +kernel
theorem dc_M_crop_104 : decode b_M_crop 104 = .ok (.iconst 1, 1) := by decide +kernel
theorem dc_M_crop_105 : decode b_M_crop 105 = .ok (.iload_n 1, 1) := by decide +kernel
theorem dc_M_crop_106 : decode b_M_crop 106 = .ok (.invokevirtual 108, 3) := by decide +kernel
theorem dc_M_crop_109 : decode b_M_crop 109 = .ok (.iastore, 1) := by decide +kernel
theorem dc_M_crop_110 : decode b_M_crop 110 = .ok (.aload_n 0, 1) := by decide +kernel
theorem dc_M_crop_111 : decode b_M_crop 111 = .ok (.getfield 52, 3) := by decide +kernel
theorem dc_M_crop_114 : decode b_M_crop 114 = .ok (.iconst 1, 1) := by decide +kernel
theorem dc_M_crop_115 : decode b_M_crop 115 = .ok (.aload_n 0, 1) := by decide +kernel
theorem dc_M_crop_116 : decode b_M_crop 116 = .ok (.iconst 0, 1) := by decide +kernel
theorem dc_M_crop_117 : decode b_M_crop 117 = .ok (.iload_n 2, 1) := by decide +kernel
theorem dc_M_crop_118 : decode b_M_crop 118 = .ok (.invokevirtual 108, 3) := by decide +kernel
theorem dc_M_crop_121 : decode b_M_crop 121 = .ok (.iastore, 1) := by decide +kernel
theorem dc_M_crop_122 : decode b_M_crop 122 = .ok (.aload_n 0, 1) := by decide +kernel
theorem dc_M_crop_123 : decode b_M_crop 123 = .ok (.getfield 52, 3) := by decide +kernel
theorem dc_M_crop_126 : decode b_M_crop 126 = .ok (.iconst 2, 1) := by decide +kernel
theorem dc_M_crop_127 : decode b_M_crop 127 = .ok (.aload_n 0, 1) := by decide +kernel
theorem dc_M_crop_128 : decode b_M_crop 128 = .ok (.iconst 1, 1) := by decide +kernel
theorem dc_M_crop_129 : decode b_M_crop 129 = .ok (.iload_n 1, 1) := by decide +kernel
theorem dc_M_crop_130 : decode b_M_crop 130 = .ok (.iload_n 3, 1) := by decide +kernel
theorem dc_M_crop_131 : decode b_M_crop 131 = .ok (.iadd, 1) := by decide +kernel
theorem dc_M_crop_132 : decode b_M_crop 132 = .ok (.invokevirtual 108, 3) := by decide +kernel
theorem dc_M_crop_135 : decode b_M_crop 135 = .ok (.iastore, 1) := by decide +kernel
theorem dc_M_crop_136 : decode b_M_crop 136 = .ok (.aload_n 0, 1) := by decide +kernel
theorem dc_M_crop_137 : decode b_M_crop 137 = .ok (.getfield 52, 3) := by decide +kernel
theorem dc_M_crop_140 : decode b_M_crop 140 = .ok (.iconst 3, 1) := by decide +kernel
theorem dc_M_crop_141 : decode b_M_crop 141 = .ok (.aload_n 0, 1) := by decide +kernel
theorem dc_M_crop_142 : decode b_M_crop 142 = .ok (.iconst 0, 1) := by decide +kernel
theorem dc_M_crop_143 : decode b_M_crop 143 = .ok (.iload_n 2, 1) := by decide +kernel
theorem dc_M_crop_144 : decode b_M_crop 144 = .ok (.iload 4, 2) := by decide +kernel
theorem dc_M_crop_146 : decode b_M_crop 146 = .ok (.iadd, 1) := by decide +kernel
theorem dc_M_crop_147 : decode b_M_crop 147 = .ok (.invokevirtual 108, 3) := by decide +kernel
theorem dc_M_crop_150 : decode b_M_crop 150 = .ok (.iastore, 1) := by decide +kernel
theorem dc_M_crop_151 : decode b_M_crop 151 = .ok (.iconst (-1), 1) := by decide +kernel
theorem dc_M_crop_152 : decode b_M_crop 152 = .ok (.ireturn, 1) := by decide +kernel
theorem dc_M_crop_159 : decode b_M_crop 159 = .ok (.iload 6, 2) := by decide +kernel
theorem dc_M_crop_161 : decode b_M_crop 161 = .ok (.aload_n 0, 1) := by decide +kernel
theorem dc_M_crop_162 : decode b_M_crop 162 = .ok (.getfield 16, 3) := by decide +kernel
theorem dc_M_crop_165 : decode b_M_crop 165 = .ok (.aload_n 0, 1) := by decide +kernel
theorem dc_M_crop_166 : decode b_M_crop 166 = .ok (.getfield 71, 3) := by decide +kernel
theorem dc_M_crop_169 : decode b_M_crop 169 = .ok (.iaload, 1) := by decide +kernel
theorem dc_M_crop_170 : decode b_M_crop 170 = .ok (.if_icmp .ge 111, 3) := by decide +kernel
theorem dc_M_crop_281 : decode b_M_crop 281 = .ok (.aload_n 0, 1) := by decide +kernel
theorem dc_M_crop_282 : decode b_M_crop 282 = .ok (.getfield 16, 3) := by decide +kernel
theorem dc_M_crop_285 : decode b_M_crop 285 = .ok (.aload_n 0, 1) := by decide +kernel
theorem dc_M_crop_286 : decode b_M_crop 286 = .ok (.getfield 71, 3) := by decide +kernel
theorem dc_M_crop_289 : decode b_M_crop 289 = .ok (.iload 5, 2) := by decide +kernel
theorem dc_M_crop_291 : decode b_M_crop 291 = .ok (.iastore, 1) := by decide +kernel
theorem dc_M_crop_292 : decode b_M_crop 292 = .ok (.iconst 0, 1) := by decide +kernel
theorem dc_M_crop_293 : decode b_M_crop 293 = .ok (.istore 6, 2) := by decide +kernel
theorem dc_M_crop_295 : decode b_M_crop 295 = .ok (.bipush 20, 2) := by decide +kernel
theorem dc_M_crop_297 : decode b_M_crop 297 = .ok (.aload_n 0, 1) := by decide +kernel
theorem dc_M_crop_298 : decode b_M_crop 298 = .ok (.getfield 71, 3) := by decide +kernel
theorem dc_M_crop_301 : decode b_M_crop 301 = .ok (.imul, 1) := by decide +kernel
theorem dc_M_crop_302 : decode b_M_crop 302 = .ok (.istore 7, 2) := by decide +kernel
theorem dc_M_crop_173 : decode b_M_crop 173 = .ok (.aload_n 0, 1) := by decide +kernel
theorem dc_M_crop_174 : decode b_M_crop 174 = .ok (.iload 6, 2) := by decide +kernel
theorem dc_M_crop_176 : decode b_M_crop 176 = .ok (.invokevirtual 92, 3) := by decide +kernel
theorem dc_M_crop_179 : decode b_M_crop 179 = .ok (.istore 7, 2) := by decide +kernel
theorem dc_M_crop_181 : decode b_M_crop 181 = .ok (.aload_n 0, 1) := by decide +kernel
theorem dc_M_crop_182 : decode b_M_crop 182 = .ok (.getfield 22, 3) := by decide +kernel
theorem dc_M_crop_185 : decode b_M_crop 185 = .ok (.iload 7, 2) := by decide +kernel
theorem dc_M_crop_187 : decode b_M_crop 187 = .ok (.iaload, 1) := by decide +kernel
theorem dc_M_crop_188 : decode b_M_crop 188 = .ok (.iload_n 1, 1) := by decide +kernel
theorem dc_M_crop_189 : decode b_M_crop 189 = .ok (.if_icmp .lt 86, 3) := by decide +kernel
theorem dc_M_crop_192 : decode b_M_crop 192 = .ok (.aload_n 0, 1) := by decide +kernel
theorem dc_M_crop_193 : decode b_M_crop 193 = .ok (.getfield 22, 3) := by decide +kernel
theorem dc_M_crop_196 : decode b_M_crop 196 = .ok (.iload 7, 2) := by decide +kernel
theorem dc_M_crop_198 : decode b_M_crop 198 = .ok (.iaload, 1) := by decide +kernel
theorem dc_M_crop_199 : decode b_M_crop 199 = .ok (.iload_n 1, 1) := by decide +kernel
theorem dc_M_crop_200 : decode b_M_crop 200 = .ok (.iload_n 3, 1) := by decide +kernel
theorem dc_M_crop_201 : decode b_M_crop 201 = .ok (.iadd, 1) := by decide +kernel
theorem dc_M_crop_202 : decode b_M_crop 202 = .ok (.if_icmp .ge 73, 3) := by decide +kernel
theorem dc_M_crop_205 : decode b_M_crop 205 = .ok (.aload_n 0, 1) := by decide +kernel
theorem dc_M_crop_206 : decode b_M_crop 206 = .ok (.getfield 25, 3) := by decide +kernel
theorem dc_M_crop_209 : decode b_M_crop 209 = .ok (.iload 7, 2) := by decide +kernel
theorem dc_M_crop_211 : decode b_M_crop 211 = .ok (.iaload, 1) := by decide +kernel
theorem dc_M_crop_212 : decode b_M_crop 212 = .ok (.iload_n 2, 1) := by decide +kernel
theorem dc_M_crop_213 : decode b_M_crop 213 = .ok (.if_icmp .lt 62, 3) := by decide +kernel
theorem dc_M_crop_216 : decode b_M_crop 216 = .ok (.aload_n 0, 1) := by decide +kernel
theorem dc_M_crop_217 : decode b_M_crop 217 = .ok (.getfield 25, 3) := by decide +kernel
theorem dc_M_crop_220 : decode b_M_crop 220 = .ok (.iload 7, 2) := by decide +kernel
theorem dc_M_crop_222 : decode b_M_crop 222 = .ok (.iaload, 1) := by decide +kernel
theorem dc_M_crop_223 : decode b_M_crop 223 = .ok (.iload_n 2, 1) := by decide +kernel
theorem dc_M_crop_224 : decode b_M_crop 224 = .ok (.iload 4, 2) := by decide +kernel
theorem dc_M_crop_226 : decode b_M_crop 226 = .ok (.iadd, 1) := by decide +kernel
theorem dc_M_crop_227 : decode b_M_crop 227 = .ok (.if_icmp .ge 48, 3) := by decide +kernel
theorem dc_M_crop_230 : decode b_M_crop 230 = .ok (.aload_n 0, 1) := by decide +kernel
theorem dc_M_crop_231 : decode b_M_crop 231 = .ok (.iload 7, 2) := by decide +kernel
theorem dc_M_crop_233 : decode b_M_crop 233 = .ok (.aload_n 0, 1) := by decide +kernel
theorem dc_M_crop_234 : decode b_M_crop 234 = .ok (.iload 5, 2) := by decide +kernel
theorem dc_M_crop_236 : decode b_M_crop 236 = .ok (.invokevirtual 92, 3) := by decide +kernel
theorem dc_M_crop_239 : decode b_M_crop 239 = .ok (.invokevirtual 112, 3) := by decide +kernel
theorem dc_M_crop_242 : decode b_M_crop 242 = .ok (.aload_n 0, 1) := by decide +kernel
theorem dc_M_crop_243 : decode b_M_crop 243 = .ok (.getfield 22, 3) := by decide +kernel
theorem dc_M_crop_246 : decode b_M_crop 246 = .ok (.aload_n 0, 1) := by decide +kernel
theorem dc_M_crop_247 : decode b_M_crop 247 = .ok (.iload 5, 2) := by decide +kernel
theorem dc_M_crop_249 : decode b_M_crop 249 = .ok (.invokevirtual 92, 3) := by decide +kernel
theorem dc_M_crop_252 : decode b_M_crop 252 = .ok (.dup2, 1) := by decide +kernel
theorem dc_M_crop_253 : decode b_M_crop 253 = .ok (.iaload, 1) := by decide +kernel
theorem dc_M_crop_254 : decode b_M_crop 254 = .ok (.iload_n 1, 1) := by decide +kernel
theorem dc_M_crop_255 : decode b_M_crop 255 = .ok (.isub, 1) := by decide +kernel
theorem dc_M_crop_256 : decode b_M_crop 256 = .ok (.iastore, 1) := by decide +kernel
theorem dc_M_crop_257 : decode b_M_crop 257 = .ok (.aload_n 0, 1) := by decide +kernel
theorem dc_M_crop_258 : decode b_M_crop 258 = .ok (.getfield 25, 3) := by decide +kernel
theorem dc_M_crop_261 : decode b_M_crop 261 = .ok (.aload_n 0, 1) := by decide +kernel
theorem dc_M_crop_262 : decode b_M_crop 262 = .ok (.iload 5, 2) := by decide +kernel
theorem dc_M_crop_264 : decode b_M_crop 264 = .ok (.invokevirtual 92, 3) := by decide +kernel
theorem dc_M_crop_267 : decode b_M_crop 267 = .ok (.dup2, 1) := by decide +kernel
theorem dc_M_crop_268 : decode b_M_crop 268 = .ok (.iaload, 1) := by decide +kernel
theorem dc_M_crop_269 : decode b_M_crop 269 = .ok (.iload_n 2, 1) := by decide +kernel
theorem dc_M_crop_270 : decode b_M_crop 270 = .ok (.isub, 1) := by decide +kernel
theorem dc_M_crop_271 : decode b_M_crop 271 = .ok (.iastore, 1) := by decide +kernel
theorem dc_M_crop_272 : decode b_M_crop 272 = .ok (.iinc 5 1, 3) := by decide +kernel
theorem dc_M_crop_275 : decode b_M_crop 275 = .ok (.iinc 6 1, 3) := by decide +kernel
theorem dc_M_crop_278 : decode b_M_crop 278 = .ok (.goto (-119), 3) := by decide +kernel
theorem dc_M_crop_304 : decode b_M_crop 304 = .ok (.iload 7, 2) := by decide +kernel
theorem dc_M_crop_306 : decode b_M_crop 306 = .ok (.bipush 20, 2) := by decide +kernel
theorem dc_M_crop_308 : decode b_M_crop 308 = .ok (.aload_n 0, 1) := by decide +kernel
theorem dc_M_crop_309 : decode b_M_crop 309 = .ok (.getfield 71, 3) := by decide +kernel
theorem dc_M_crop_312 : decode b_M_crop 312 = .ok (.imul, 1) := by decide +kernel
theorem dc_M_crop_313 : decode b_M_crop 313 = .ok (.aload_n 0, 1) := by decide +kernel
theorem dc_M_crop_314 : decode b_M_crop 314 = .ok (.getfield 19, 3) := by decide +kernel
theorem dc_M_crop_317 : decode b_M_crop 317 = .ok (.aload_n 0, 1) := by decide +kernel
theorem dc_M_crop_318 : decode b_M_crop 318 = .ok (.getfield 71, 3) := by decide +kernel
theorem dc_M_crop_321 : decode b_M_crop 321 = .ok (.iaload, 1) := by decide +kernel
theorem dc_M_crop_322 : decode b_M_crop 322 = .ok (.iadd, 1) := by decide +kernel
theorem dc_M_crop_323 : decode b_M_crop 323 = .ok (.if_icmp .ge 105, 3) := by decide +kernel
theorem dc_M_crop_428 : decode b_M_crop 428 = .ok (.aload_n 0, 1) := by decide +kernel
theorem dc_M_crop_429 : decode b_M_crop 429 = .ok (.getfield 19, 3) := by decide +kernel
theorem dc_M_crop_432 : decode b_M_crop 432 = .ok (.aload_n 0, 1) := by decide +kernel
theorem dc_M_crop_433 : decode b_M_crop 433 = .ok (.getfield 71, 3) := by decide +kernel
theorem dc_M_crop_436 : decode b_M_crop 436 = .ok (.iload 6, 2) := by decide +kernel
theorem dc_M_crop_438 : decode b_M_crop 438 = .ok (.iastore, 1) := by decide +kernel
theorem dc_M_crop_439 : decode b_M_crop 439 = .ok (.aload_n 0, 1) := by decide +kernel
theorem dc_M_crop_440 : decode b_M_crop 440 = .ok (.getfield 7, 3) := by decide +kernel
theorem dc_M_crop_443 : decode b_M_crop 443 = .ok (.aload_n 0, 1) := by decide +kernel
theorem dc_M_crop_444 : decode b_M_crop 444 = .ok (.getfield 71, 3) := by decide +kernel
theorem dc_M_crop_447 : decode b_M_crop 447 = .ok (.iload_n 3, 1) := by decide +kernel
theorem dc_M_crop_448 : decode b_M_crop 448 = .ok (.iastore, 1) := by decide +kernel
theorem dc_M_crop_449 : decode b_M_crop 449 = .ok (.aload_n 0, 1) := by decide +kernel
theorem dc_M_crop_450 : decode b_M_crop 450 = .ok (.getfield 13, 3) := by decide +kernel
theorem dc_M_crop_453 : decode b_M_crop 453 = .ok (.aload_n 0, 1) := by decide +kernel
theorem dc_M_crop_454 : decode b_M_crop 454 = .ok (.getfield 71, 3) := by decide +kernel
theorem dc_M_crop_457 : decode b_M_crop 457 = .ok (.iload 4, 2) := by decide +kernel
theorem dc_M_crop_459 : decode b_M_crop 459 = .ok (.iastore, 1) := by decide +kernel
theorem dc_M_crop_460 : decode b_M_crop 460 = .ok (.iload 5, 2) := by decide +kernel
theorem dc_M_crop_462 : decode b_M_crop 462 = .ok (.ireturn, 1) := by decide +kernel
theorem dc_M_crop_326 : decode b_M_crop 326 = .ok (.aload_n 0, 1) := by decide +kernel
theorem dc_M_crop_327 : decode b_M_crop 327 = .ok (.getfield 43, 3) := by decide +kernel
theorem dc_M_crop_330 : decode b_M_crop 330 = .ok (.iload 7, 2) := by decide +kernel
theorem dc_M_crop_332 : decode b_M_crop 332 = .ok (.iaload, 1) := by decide +kernel
theorem dc_M_crop_333 : decode b_M_crop 333 = .ok (.iload_n 1, 1) := by decide +kernel
theorem dc_M_crop_334 : decode b_M_crop 334 = .ok (.iload_n 1, 1) := by decide +kernel
theorem dc_M_crop_335 : decode b_M_crop 335 = .ok (.iload_n 3, 1) := by decide +kernel
theorem dc_M_crop_336 : decode b_M_crop 336 = .ok (.iadd, 1) := by decide +kernel
theorem dc_M_crop_337 : decode b_M_crop 337 = .ok (.iconst 1, 1) := by decide +kernel
theorem dc_M_crop_338 : decode b_M_crop 338 = .ok (.isub, 1) := by decide +kernel
theorem dc_M_crop_339 : decode b_M_crop 339 = .ok (.invokestatic 84, 3) := by decide +kernel
theorem dc_M_crop_342 : decode b_M_crop 342 = .ok (.ifCond .eq 80, 3) := by decide +kernel
theorem dc_M_crop_345 : decode b_M_crop 345 = .ok (.aload_n 0, 1) := by decide +kernel
theorem dc_M_crop_346 : decode b_M_crop 346 = .ok (.getfield 46, 3) := by decide +kernel
theorem dc_M_crop_349 : decode b_M_crop 349 = .ok (.iload 7, 2) := by decide +kernel
theorem dc_M_crop_351 : decode b_M_crop 351 = .ok (.iaload, 1) := by decide +kernel
theorem dc_M_crop_352 : decode b_M_crop 352 = .ok (.iload_n 2, 1) := by decide +kernel
theorem dc_M_crop_353 : decode b_M_crop 353 = .ok (.iload_n 2, 1) := by decide +kernel
theorem dc_M_crop_354 : decode b_M_crop 354 = .ok (.iload 4, 2) := by decide +kernel
theorem dc_M_crop_356 : decode b_M_crop 356 = .ok (.iadd, 1) := by decide +kernel
theorem dc_M_crop_357 : decode b_M_crop 357 = .ok (.iconst 1, 1) := by decide +kernel
theorem dc_M_crop_358 : decode b_M_crop 358 = .ok (.isub, 1) := by decide +kernel
theorem dc_M_crop_359 : decode b_M_crop 359 = .ok (.invokestatic 84, 3) := by decide +kernel
theorem dc_M_crop_362 : decode b_M_crop 362 = .ok (.ifCond .eq 60, 3) := by decide +kernel
theorem dc_M_crop_365 : decode b_M_crop 365 = .ok (.aload_n 0, 1) := by decide +kernel
theorem dc_M_crop_366 : decode b_M_crop 366 = .ok (.iload 7, 2) := by decide +kernel
theorem dc_M_crop_368 : decode b_M_crop 368 = .ok (.bipush 20, 2) := by decide +kernel
theorem dc_M_crop_370 : decode b_M_crop 370 = .ok (.aload_n 0, 1) := by decide +kernel
theorem dc_M_crop_371 : decode b_M_crop 371 = .ok (.getfield 71, 3) := by decide +kernel
theorem dc_M_crop_374 : decode b_M_crop 374 = .ok (.imul, 1) := by decide +kernel
theorem dc_M_crop_375 : decode b_M_crop 375 = .ok (.iload 6, 2) := by decide +kernel
theorem dc_M_crop_377 : decode b_M_crop 377 = .ok (.iadd, 1) := by decide +kernel
theorem dc_M_crop_378 : decode b_M_crop 378 = .ok (.invokevirtual 116, 3) := by decide +kernel
theorem dc_M_crop_381 : decode b_M_crop 381 = .ok (.aload_n 0, 1) := by decide +kernel
theorem dc_M_crop_382 : decode b_M_crop 382 = .ok (.getfield 43, 3) := by decide +kernel
theorem dc_M_crop_385 : decode b_M_crop 385 = .ok (.bipush 20, 2) := by decide +kernel
theorem dc_M_crop_387 : decode b_M_crop 387 = .ok (.aload_n 0, 1) := by decide +kernel
theorem dc_M_crop_388 : decode b_M_crop 388 = .ok (.getfield 71, 3) := by decide +kernel
theorem dc_M_crop_391 : decode b_M_crop 391 = .ok (.imul, 1) := by decide +kernel
theorem dc_M_crop_392 : decode b_M_crop 392 = .ok (.iload 6, 2) := by decide +kernel
theorem dc_M_crop_394 : decode b_M_crop 394 = .ok (.iadd, 1) := by decide +kernel
theorem dc_M_crop_395 : decode b_M_crop 395 = .ok (.dup2, 1) := by decide +kernel
theorem dc_M_crop_396 : decode b_M_crop 396 = .ok (.iaload, 1) := by decide +kernel
theorem dc_M_crop_397 : decode b_M_crop 397 = .ok (.iload_n 1, 1) := by decide +kernel
theorem dc_M_crop_398 : decode b_M_crop 398 = .ok (.isub, 1) := by decide +kernel
theorem dc_M_crop_399 : decode b_M_crop 399 = .ok (.iastore, 1) := by decide +kernel
theorem dc_M_crop_400 : decode b_M_crop 400 = .ok (.aload_n 0, 1) := by decide +kernel
theorem dc_M_crop_401 : decode b_M_crop 401 = .ok (.getfield 46, 3) := by decide +kernel
theorem dc_M_crop_404 : decode b_M_crop 404 = .ok (.bipush 20, 2) := by decide +kernel
theorem dc_M_crop_406 : decode b_M_crop 406 = .ok (.aload_n 0, 1) := by decide +kernel
theorem dc_M_crop_407 : decode b_M_crop 407 = .ok (.getfield 71, 3) := by decide +kernel
theorem dc_M_crop_410 : decode b_M_crop 410 = .ok (.imul, 1) := by decide +kernel
theorem dc_M_crop_411 : decode b_M_crop 411 = .ok (.iload 6, 2) := by decide +kernel
theorem dc_M_crop_413 : decode b_M_crop 413 = .ok (.iadd, 1) := by decide +kernel
theorem dc_M_crop_414 : decode b_M_crop 414 = .ok (.dup2, 1) := by decide +kernel
theorem dc_M_crop_415 : decode b_M_crop 415 = .ok (.iaload, 1) := by decide +kernel
theorem dc_M_crop_416 : decode b_M_crop 416 = .ok (.iload_n 2, 1) := by decide +kernel
theorem dc_M_crop_417 : decode b_M_crop 417 = .ok (.isub, 1) := by decide +kernel
theorem dc_M_crop_418 : decode b_M_crop 418 = .ok (.iastore, 1) := by decide +kernel
theorem dc_M_crop_419 : decode b_M_crop 419 = .ok (.iinc 6 1, 3) := by decide +kernel
theorem dc_M_crop_422 : decode b_M_crop 422 = .ok (.iinc 7 1, 3) := by decide +kernel
theorem dc_M_crop_425 : decode b_M_crop 425 = .ok (.goto (-121), 3) := by decide +kernel
theorem dc_M_crop_83 : decode b_M_crop 83 = .ok (.iconst 1, 1) := by decide +kernel
theorem dc_M_crop_84 : decode b_M_crop 84 = .ok (.goto 4, 3) := by decide +kernel
theorem dc_M_crop_24 : decode b_M_crop 24 = .ok (.iconst 1, 1) := by decide +kernel
theorem dc_M_crop_25 : decode b_M_crop 25 = .ok (.goto 4, 3) := by decide +kernel
theorem dc_M_write_0 : decode b_M_write 0 = .ok (.aload_n 0, 1) := by decide +kernel
theorem dc_M_write_1 : decode b_M_write 1 = .ok (.iconst 0, 1) := by decide +kernel
theorem dc_M_write_2 : decode b_M_write 2 = .ok (.putfield 68, 3) := by decide +kernel
theorem dc_M_write_5 : decode b_M_write 5 = .ok (.aload_n 0, 1) := by decide +kernel
theorem dc_M_write_6 : decode b_M_write 6 = .ok (.iconst 0, 1) := by decide +kernel
theorem dc_M_write_7 : decode b_M_write 7 = .ok (.putfield 81, 3) := by decide +kernel
theorem dc_M_write_10 : decode b_M_write 10 = .ok (.aload_n 0, 1) := by decide +kernel
theorem dc_M_write_11 : decode b_M_write 11 = .ok (.bipush 76, 2) := by decide +kernel
theorem dc_M_write_13 : decode b_M_write 13 = .ok (.invokevirtual 133, 3) := by decide +kernel
theorem dc_M_write_16 : decode b_M_write 16 = .ok (.aload_n 0, 1) := by decide +kernel
theorem dc_M_write_17 : decode b_M_write 17 = .ok (.bipush 70, 2) := by decide +kernel
theorem dc_M_write_19 : decode b_M_write 19 = .ok (.invokevirtual 133, 3) := by decide +kernel
theorem dc_M_write_22 : decode b_M_write 22 = .ok (.aload_n 0, 1) := by decide +kernel
theorem dc_M_write_23 : decode b_M_write 23 = .ok (.aload_n 0, 1) := by decide +kernel
theorem dc_M_write_24 : decode b_M_write 24 = .ok (.getfield 7, 3) := by decide +kernel
theorem dc_M_write_27 : decode b_M_write 27 = .ok (.aload_n 0, 1) := by decide +kernel
theorem dc_M_write_28 : decode b_M_write 28 = .ok (.getfield 71, 3) := by decide +kernel
theorem dc_M_write_31 : decode b_M_write 31 = .ok (.iaload, 1) := by decide +kernel
theorem dc_M_write_32 : decode b_M_write 32 = .ok (.invokevirtual 146, 3) := by decide +kernel
theorem dc_M_write_35 : decode b_M_write 35 = .ok (.aload_n 0, 1) := by decide +kernel
theorem dc_M_write_36 : decode b_M_write 36 = .ok (.aload_n 0, 1) := by decide +kernel
theorem dc_M_write_37 : decode b_M_write 37 = .ok (.getfield 13, 3) := by decide +kernel
theorem dc_M_write_40 : decode b_M_write 40 = .ok (.aload_n 0, 1) := by decide +kernel
theorem dc_M_write_41 : decode b_M_write 41 = .ok (.getfield 71, 3) := by decide +kernel
theorem dc_M_write_44 : decode b_M_write 44 = .ok (.iaload, 1) := by decide +kernel
theorem dc_M_write_45 : decode b_M_write 45 = .ok (.invokevirtual 146, 3) := by decide +kernel
theorem dc_M_write_48 : decode b_M_write 48 = .ok (.aload_n 0, 1) := by decide +kernel
theorem dc_M_write_49 : decode b_M_write 49 = .ok (.aload_n 0, 1) := by decide +kernel
theorem dc_M_write_50 : decode b_M_write 50 = .ok (.getfield 16, 3) := by decide +kernel
theorem dc_M_write_53 : decode b_M_write 53 = .ok (.aload_n 0, 1) := by decide +kernel
theorem dc_M_write_54 : decode b_M_write 54 = .ok (.getfield 71, 3) := by decide +kernel
theorem dc_M_write_57 : decode b_M_write 57 = .ok (.iaload, 1) := by decide +kernel
theorem dc_M_write_58 : decode b_M_write 58 = .ok (.invokevirtual 133, 3) := by decide +kernel
theorem dc_M_write_61 : decode b_M_write 61 = .ok (.iconst 0, 1) := by decide +kernel
theorem dc_M_write_62 : decode b_M_write 62 = .ok (.istore_n 1, 1) := by decide +kernel
theorem dc_M_write_63 : decode b_M_write 63 = .ok (.iload_n 1, 1) := by decide +kernel
theorem dc_M_write_64 : decode b_M_write 64 = .ok (.aload_n 0, 1) := by decide +kernel
theorem dc_M_write_65 : decode b_M_write 65 = .ok (.getfield 16, 3) := by decide +kernel
theorem dc_M_write_68 : decode b_M_write 68 = .ok (.aload_n 0, 1) := by decide +kernel
theorem dc_M_write_69 : decode b_M_write 69 = .ok (.getfield 71, 3) := by decide +kernel
theorem dc_M_write_72 : decode b_M_write 72 = .ok (.iaload, 1) := by decide +kernel
theorem dc_M_write_73 : decode b_M_write 73 = .ok (.if_icmp .ge 18, 3) := by decide +kernel
theorem dc_M_write_91 : decode b_M_write 91 = .ok (.aload_n 0, 1) := by decide +kernel
theorem dc_M_write_92 : decode b_M_write 92 = .ok (.aload_n 0, 1) := by decide +kernel
theorem dc_M_write_93 : decode b_M_write 93 = .ok (.getfield 19, 3) := by decide +kernel
theorem dc_M_write_96 : decode b_M_write 96 = .ok (.aload_n 0, 1) := by decide +kernel
theorem dc_M_write_97 : decode b_M_write 97 = .ok (.getfield 71, 3) := by decide +kernel
theorem dc_M_write_100 : decode b_M_write 100 = .ok (.iaload, 1) := by decide +kernel
theorem dc_M_write_101 : decode b_M_write 101 = .ok (.invokevirtual 133, 3) := by decide +kernel
theorem dc_M_write_104 : decode b_M_write 104 = .ok (.bipush 20, 2) := by decide +kernel
theorem dc_M_write_106 : decode b_M_write 106 = .ok (.aload_n 0, 1) := by decide +kernel
theorem dc_M_write_107 : decode b_M_write 107 = .ok (.getfield 71, 3) := by decide +kernel
theorem dc_M_write_110 : decode b_M_write 110 = .ok (.imul, 1) := by decide +kernel
theorem dc_M_write_111 : decode b_M_write 111 = .ok (.istore_n 1, 1) := by decide +kernel
theorem dc_M_write_76 : decode b_M_write 76 = .ok (.aload_n 0, 1) := by decide +kernel
theorem dc_M_write_77 : decode b_M_write 77 = .ok (.aload_n 0, 1) := by decide +kernel
theorem dc_M_write_78 : decode b_M_write 78 = .ok (.iload_n 1, 1) := by decide +kernel
theorem dc_M_write_79 : decode b_M_write 79 = .ok (.invokevirtual 143, 3) := by decide +kernel
theorem dc_M_write_82 : decode b_M_write 82 = .ok (.invokevirtual 146, 3) := by decide +kernel
theorem dc_M_write_85 : decode b_M_write 85 = .ok (.iinc 1 1, 3) := by decide +kernel
theorem dc_M_write_88 : decode b_M_write 88 = .ok (.goto (-25), 3) := by decide +kernel
theorem dc_M_write_112 : decode b_M_write 112 = .ok (.iload_n 1, 1) := by decide +kernel
theorem dc_M_write_113 : decode b_M_write 113 = .ok (.bipush 20, 2) := by decide +kernel
theorem dc_M_write_115 : decode b_M_write 115 = .ok (.aload_n 0, 1) := by decide +kernel
theorem dc_M_write_116 : decode b_M_write 116 = .ok (.getfield 71, 3) := by decide +kernel
theorem dc_M_write_119 : decode b_M_write 119 = .ok (.imul, 1) := by decide +kernel
theorem dc_M_write_120 : decode b_M_write 120 = .ok (.aload_n 0, 1) := by decide +kernel
theorem dc_M_write_121 : decode b_M_write 121 = .ok (.getfield 19, 3) := by decide +kernel
theorem dc_M_write_124 : decode b_M_write 124 = .ok (.aload_n 0, 1) := by decide +kernel
theorem dc_M_write_125 : decode b_M_write 125 = .ok (.getfield 71, 3) := by decide +kernel
theorem dc_M_write_128 : decode b_M_write 128 = .ok (.iaload, 1) := by decide +kernel
theorem dc_M_write_129 : decode b_M_write 129 = .ok (.iadd, 1) := by decide +kernel
theorem dc_M_write_130 : decode b_M_write 130 = .ok (.if_icmp .ge 39, 3) := by decide +kernel
theorem dc_M_write_169 : decode b_M_write 169 = .ok (.iconst 0, 1) := by decide +kernel
theorem dc_M_write_170 : decode b_M_write 170 = .ok (.istore_n 1, 1) := by decide +kernel
theorem dc_M_write_133 : decode b_M_write 133 = .ok (.aload_n 0, 1) := by decide +kernel
theorem dc_M_write_134 : decode b_M_write 134 = .ok (.aload_n 0, 1) := by decide +kernel
theorem dc_M_write_135 : decode b_M_write 135 = .ok (.getfield 43, 3) := by decide +kernel
theorem dc_M_write_138 : decode b_M_write 138 = .ok (.iload_n 1, 1) := by decide +kernel
theorem dc_M_write_139 : decode b_M_write 139 = .ok (.iaload, 1) := by decide +kernel
theorem dc_M_write_140 : decode b_M_write 140 = .ok (.invokevirtual 146, 3) := by decide +kernel
theorem dc_M_write_143 : decode b_M_write 143 = .ok (.aload_n 0, 1) := by decide +kernel
theorem dc_M_write_144 : decode b_M_write 144 = .ok (.aload_n 0, 1) := by decide +kernel
theorem dc_M_write_145 : decode b_M_write 145 = .ok (.getfield 46, 3) := by decide +kernel
theorem dc_M_write_148 : decode b_M_write 148 = .ok (.iload_n 1, 1) := by decide +kernel
theorem dc_M_write_149 : decode b_M_write 149 = .ok (.iaload, 1) := by decide +kernel
theorem dc_M_write_150 : decode b_M_write 150 = .ok (.invokevirtual 146, 3) := by decide +kernel
theorem dc_M_write_153 : decode b_M_write 153 = .ok (.aload_n 0, 1) := by decide +kernel
theorem dc_M_write_154 : decode b_M_write 154 = .ok (.aload_n 0, 1) := by decide +kernel
theorem dc_M_write_155 : decode b_M_write 155 = .ok (.getfield 49, 3) := by decide +kernel
theorem dc_M_write_158 : decode b_M_write 158 = .ok (.iload_n 1, 1) := by decide +kernel
theorem dc_M_write_159 : decode b_M_write 159 = .ok (.iaload, 1) := by decide +kernel
theorem dc_M_write_160 : decode b_M_write 160 = .ok (.invokevirtual 133, 3) := by decide +kernel
theorem dc_M_write_163 : decode b_M_write 163 = .ok (.iinc 1 1, 3) := by decide +kernel
theorem dc_M_write_166 : decode b_M_write 166 = .ok (.goto (-54), 3) := by decide +kernel
theorem dc_M_write_171 : decode b_M_write 171 = .ok (.iload_n 1, 1) := by decide +kernel
theorem dc_M_write_172 : decode b_M_write 172 = .ok (.aload_n 0, 1) := by decide +kernel
theorem dc_M_write_173 : decode b_M_write 173 = .ok (.getfield 16, 3) := by decide +kernel
theorem dc_M_write_176 : decode b_M_write 176 = .ok (.aload_n 0, 1) := by decide +kernel
theorem dc_M_write_177 : decode b_M_write 177 = .ok (.getfield 71, 3) := by decide +kernel
theorem dc_M_write_180 : decode b_M_write 180 = .ok (.iaload, 1) := by decide +kernel
theorem dc_M_write_181 : decode b_M_write 181 = .ok (.if_icmp .ge 51, 3) := by decide +kernel
theorem dc_M_write_232 : decode b_M_write 232 = .ok (.aload_n 0, 1) := by decide +kernel
theorem dc_M_write_233 : decode b_M_write 233 = .ok (.getfield 81, 3) := by decide +kernel
theorem dc_M_write_236 : decode b_M_write 236 = .ok (.ireturn, 1) := by decide +kernel
theorem dc_M_write_184 : decode b_M_write 184 = .ok (.iconst 0, 1) := by decide +kernel
theorem dc_M_write_185 : decode b_M_write 185 = .ok (.istore_n 2, 1) := by decide +kernel
theorem dc_M_write_186 : decode b_M_write 186 = .ok (.iload_n 2, 1) := by decide +kernel
theorem dc_M_write_187 : decode b_M_write 187 = .ok (.aload_n 0, 1) := by decide +kernel
theorem dc_M_write_188 : decode b_M_write 188 = .ok (.getfield 16, 3) := by decide +kernel
theorem dc_M_write_191 : decode b_M_write 191 = .ok (.aload_n 0, 1) := by decide +kernel
theorem dc_M_write_192 : decode b_M_write 192 = .ok (.getfield 71, 3) := by decide +kernel
theorem dc_M_write_195 : decode b_M_write 195 = .ok (.iaload, 1) := by decide +kernel
theorem dc_M_write_196 : decode b_M_write 196 = .ok (.if_icmp .ge 30, 3) := by decide +kernel
theorem dc_M_write_226 : decode b_M_write 226 = .ok (.iinc 1 1, 3) := by decide +kernel
theorem dc_M_write_229 : decode b_M_write 229 = .ok (.goto (-58), 3) := by decide +kernel
theorem dc_M_write_199 : decode b_M_write 199 = .ok (.aload_n 0, 1) := by decide +kernel
theorem dc_M_write_200 : decode b_M_write 200 = .ok (.iload_n 2, 1) := by decide +kernel
theorem dc_M_write_201 : decode b_M_write 201 = .ok (.invokevirtual 143, 3) := by decide +kernel
theorem dc_M_write_204 : decode b_M_write 204 = .ok (.aload_n 0, 1) := by decide +kernel
theorem dc_M_write_205 : decode b_M_write 205 = .ok (.getfield 81, 3) := by decide +kernel
theorem dc_M_write_208 : decode b_M_write 208 = .ok (.if_icmp .ne 12, 3) := by decide +kernel
theorem dc_M_write_211 : decode b_M_write 211 = .ok (.aload_n 0, 1) := by decide +kernel
theorem dc_M_write_212 : decode b_M_write 212 = .ok (.aload_n 0, 1) := by decide +kernel
theorem dc_M_write_213 : decode b_M_write 213 = .ok (.iload_n 2, 1) := by decide +kernel
theorem dc_M_write_214 : decode b_M_write 214 = .ok (.invokevirtual 92, 3) := by decide +kernel
theorem dc_M_write_217 : decode b_M_write 217 = .ok (.invokevirtual 150, 3) := by decide +kernel
theorem dc_M_write_220 : decode b_M_write 220 = .ok (.iinc 2 1, 3) := by decide +kernel
theorem dc_M_write_223 : decode b_M_write 223 = .ok (.goto (-37), 3) := by decide +kernel
