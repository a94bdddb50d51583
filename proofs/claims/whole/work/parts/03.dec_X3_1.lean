theorem dX3_init_0 : decode cX3_init 0 = .ok (.aload_n 0, 1) := by decide +kernel
theorem dX3_init_1 : decode cX3_init 1 = .ok (.invokespecial 1, 3) := by decide +kernel
theorem dX3_init_4 : decode cX3_init 4 = .ok (.aload_n 0, 1) := by decide +kernel
theorem dX3_init_5 : decode cX3_init 5 = .ok (.sipush 289, 3) := by decide +kernel
theorem dX3_init_8 : decode cX3_init 8 = .ok (.newarray .int, 2) := by decide +kernel
theorem dX3_init_10 : decode cX3_init 10 = .ok (.putfield 7, 3) := by decide +kernel
theorem dX3_init_13 : decode cX3_init 13 = .ok (.aload_n 0, 1) := by decide +kernel
theorem dX3_init_14 : decode cX3_init 14 = .ok (.sipush 289, 3) := by decide +kernel
theorem dX3_init_17 : decode cX3_init 17 = .ok (.newarray .int, 2) := by decide +kernel
theorem dX3_init_19 : decode cX3_init 19 = .ok (.putfield 13, 3) := by decide +kernel
theorem dX3_init_22 : decode cX3_init 22 = .ok (.aload_n 0, 1) := by decide +kernel
theorem dX3_init_23 : decode cX3_init 23 = .ok (.sipush 289, 3) := by decide +kernel
theorem dX3_init_26 : decode cX3_init 26 = .ok (.newarray .int, 2) := by decide +kernel
theorem dX3_init_28 : decode cX3_init 28 = .ok (.putfield 16, 3) := by decide +kernel
theorem dX3_init_31 : decode cX3_init 31 = .ok (.aload_n 0, 1) := by decide +kernel
theorem dX3_init_32 : decode cX3_init 32 = .ok (.sipush 289, 3) := by decide +kernel
theorem dX3_init_35 : decode cX3_init 35 = .ok (.newarray .int, 2) := by decide +kernel
theorem dX3_init_37 : decode cX3_init 37 = .ok (.putfield 19, 3) := by decide +kernel
theorem dX3_init_40 : decode cX3_init 40 = .ok (.aload_n 0, 1) := by decide +kernel
theorem dX3_init_41 : decode cX3_init 41 = .ok (.sipush 1734, 3) := by decide +kernel
theorem dX3_init_44 : decode cX3_init 44 = .ok (.newarray .int, 2) := by decide +kernel
theorem dX3_init_46 : decode cX3_init 46 = .ok (.putfield 22, 3) := by decide +kernel
theorem dX3_init_49 : decode cX3_init 49 = .ok (.aload_n 0, 1) := by decide +kernel
theorem dX3_init_50 : decode cX3_init 50 = .ok (.sipush 578, 3) := by decide +kernel
theorem dX3_init_53 : decode cX3_init 53 = .ok (.newarray .int, 2) := by decide +kernel
theorem dX3_init_55 : decode cX3_init 55 = .ok (.putfield 25, 3) := by decide +kernel
theorem dX3_init_58 : decode cX3_init 58 = .ok (.aload_n 0, 1) := by decide +kernel
theorem dX3_init_59 : decode cX3_init 59 = .ok (.iconst 2, 1) := by decide +kernel
theorem dX3_init_60 : decode cX3_init 60 = .ok (.newarray .boolean, 2) := by decide +kernel
theorem dX3_init_62 : decode cX3_init 62 = .ok (.putfield 28, 3) := by decide +kernel
theorem dX3_init_65 : decode cX3_init 65 = .ok (.aload_n 0, 1) := by decide +kernel
theorem dX3_init_66 : decode cX3_init 66 = .ok (.bipush 72, 2) := by decide +kernel
theorem dX3_init_68 : decode cX3_init 68 = .ok (.newarray .boolean, 2) := by decide +kernel
theorem dX3_init_70 : decode cX3_init 70 = .ok (.putfield 32, 3) := by decide +kernel
theorem dX3_init_73 : decode cX3_init 73 = .ok (.aload_n 0, 1) := by decide +kernel
theorem dX3_init_74 : decode cX3_init 74 = .ok (.bipush 90, 2) := by decide +kernel
theorem dX3_init_76 : decode cX3_init 76 = .ok (.newarray .int, 2) := by decide +kernel
theorem dX3_init_78 : decode cX3_init 78 = .ok (.putfield 35, 3) := by decide +kernel
theorem dX3_init_81 : decode cX3_init 81 = .ok (.aload_n 0, 1) := by decide +kernel
theorem dX3_init_82 : decode cX3_init 82 = .ok (.iconst 4, 1) := by decide +kernel
theorem dX3_init_83 : decode cX3_init 83 = .ok (.newarray .int, 2) := by decide +kernel
theorem dX3_init_85 : decode cX3_init 85 = .ok (.putfield 38, 3) := by decide +kernel
theorem dX3_init_88 : decode cX3_init 88 = .ok (.iconst 0, 1) := by decide +kernel
theorem dX3_init_89 : decode cX3_init 89 = .ok (.istore_n 1, 1) := by decide +kernel
theorem dX3_init_90 : decode cX3_init 90 = .ok (.iload_n 1, 1) := by decide +kernel
theorem dX3_init_91 : decode cX3_init 91 = .ok (.bipush 72, 2) := by decide +kernel
theorem dX3_init_93 : decode cX3_init 93 = .ok (.if_icmp .ge 17, 3) := by decide +kernel
theorem dX3_init_96 : decode cX3_init 96 = .ok (.aload_n 0, 1) := by decide +kernel
theorem dX3_init_97 : decode cX3_init 97 = .ok (.getfield 7, 3) := by decide +kernel
theorem dX3_init_100 : decode cX3_init 100 = .ok (.iload_n 1, 1) := by decide +kernel
theorem dX3_init_101 : decode cX3_init 101 = .ok (.bipush 32, 2) := by decide +kernel
theorem dX3_init_103 : decode cX3_init 103 = .ok (.iastore, 1) := by decide +kernel
theorem dX3_init_104 : decode cX3_init 104 = .ok (.iinc 1 1, 3) := by decide +kernel
theorem dX3_init_107 : decode cX3_init 107 = .ok (.goto (-17), 3) := by decide +kernel
theorem dX3_init_110 : decode cX3_init 110 = .ok (.aload_n 0, 1) := by decide +kernel
theorem dX3_init_111 : decode cX3_init 111 = .ok (.invokevirtual 41, 3) := by decide +kernel
theorem dX3_init_114 : decode cX3_init 114 = .ok (.return_, 1) := by decide +kernel
theorem dX3_in_0 : decode cX3_in 0 = .ok (.iload_n 0, 1) := by decide +kernel
theorem dX3_in_1 : decode cX3_in 1 = .ok (.iload_n 1, 1) := by decide +kernel
theorem dX3_in_2 : decode cX3_in 2 = .ok (.if_icmp .lt 12, 3) := by decide +kernel
theorem dX3_in_5 : decode cX3_in 5 = .ok (.iload_n 0, 1) := by decide +kernel
theorem dX3_in_6 : decode cX3_in 6 = .ok (.iload_n 2, 1) := by decide +kernel
theorem dX3_in_7 : decode cX3_in 7 = .ok (.if_icmp .gt 7, 3) := by decide +kernel
theorem dX3_in_10 : decode cX3_in 10 = .ok (.iconst 1, 1) := by decide +kernel
theorem dX3_in_11 : decode cX3_in 11 = .ok (.goto 4, 3) := by decide +kernel
theorem dX3_in_14 : decode cX3_in 14 = .ok (.iconst 0, 1) := by decide +kernel
theorem dX3_in_15 : decode cX3_in 15 = .ok (.ireturn, 1) := by decide +kernel
theorem dX3_isCell_0 : decode cX3_isCell 0 = .ok (.iload_n 0, 1) := by decide +kernel
theorem dX3_isCell_1 : decode cX3_isCell 1 = .ok (.iconst 0, 1) := by decide +kernel
theorem dX3_isCell_2 : decode cX3_isCell 2 = .ok (.bipush 11, 2) := by decide +kernel
theorem dX3_isCell_4 : decode cX3_isCell 4 = .ok (.invokestatic 44, 3) := by decide +kernel
theorem dX3_isCell_7 : decode cX3_isCell 7 = .ok (.ifCond .eq 16, 3) := by decide +kernel
theorem dX3_isCell_10 : decode cX3_isCell 10 = .ok (.iload_n 1, 1) := by decide +kernel
theorem dX3_isCell_11 : decode cX3_isCell 11 = .ok (.iconst 0, 1) := by decide +kernel
theorem dX3_isCell_12 : decode cX3_isCell 12 = .ok (.iconst 5, 1) := by decide +kernel
theorem dX3_isCell_13 : decode cX3_isCell 13 = .ok (.invokestatic 44, 3) := by decide +kernel
theorem dX3_isCell_16 : decode cX3_isCell 16 = .ok (.ifCond .eq 7, 3) := by decide +kernel
theorem dX3_isCell_19 : decode cX3_isCell 19 = .ok (.iconst 1, 1) := by decide +kernel
theorem dX3_isCell_20 : decode cX3_isCell 20 = .ok (.goto 4, 3) := by decide +kernel
theorem dX3_isCell_23 : decode cX3_isCell 23 = .ok (.iconst 0, 1) := by decide +kernel
theorem dX3_isCell_24 : decode cX3_isCell 24 = .ok (.ireturn, 1) := by decide +kernel
theorem dX3_remember_0 : decode cX3_remember 0 = .ok (.iconst 0, 1) := by decide +kernel
theorem dX3_remember_1 : decode cX3_remember 1 = .ok (.istore_n 1, 1) := by decide +kernel
theorem dX3_remember_2 : decode cX3_remember 2 = .ok (.iload_n 1, 1) := by decide +kernel
theorem dX3_remember_3 : decode cX3_remember 3 = .ok (.sipush 289, 3) := by decide +kernel
theorem dX3_remember_6 : decode cX3_remember 6 = .ok (.if_icmp .ge 21, 3) := by decide +kernel
theorem dX3_remember_9 : decode cX3_remember 9 = .ok (.aload_n 0, 1) := by decide +kernel
theorem dX3_remember_10 : decode cX3_remember 10 = .ok (.getfield 13, 3) := by decide +kernel
theorem dX3_remember_13 : decode cX3_remember 13 = .ok (.iload_n 1, 1) := by decide +kernel
theorem dX3_remember_14 : decode cX3_remember 14 = .ok (.aload_n 0, 1) := by decide +kernel
theorem dX3_remember_15 : decode cX3_remember 15 = .ok (.getfield 7, 3) := by decide +kernel
theorem dX3_remember_18 : decode cX3_remember 18 = .ok (.iload_n 1, 1) := by decide +kernel
theorem dX3_remember_19 : decode cX3_remember 19 = .ok (.iaload, 1) := by decide +kernel
theorem dX3_remember_20 : decode cX3_remember 20 = .ok (.iastore, 1) := by decide +kernel
theorem dX3_remember_21 : decode cX3_remember 21 = .ok (.iinc 1 1, 3) := by decide +kernel
theorem dX3_remember_24 : decode cX3_remember 24 = .ok (.goto (-22), 3) := by decide +kernel
theorem dX3_remember_27 : decode cX3_remember 27 = .ok (.return_, 1) := by decide +kernel
theorem dX3_saveBefore_0 : decode cX3_saveBefore 0 = .ok (.aload_n 0, 1) := by decide +kernel
theorem dX3_saveBefore_1 : decode cX3_saveBefore 1 = .ok (.getfield 48, 3) := by decide +kernel
theorem dX3_saveBefore_4 : decode cX3_saveBefore 4 = .ok (.bipush 6, 2) := by decide +kernel
theorem dX3_saveBefore_6 : decode cX3_saveBefore 6 = .ok (.if_icmp .ne 44, 3) := by decide +kernel
theorem dX3_saveBefore_9 : decode cX3_saveBefore 9 = .ok (.iconst 0, 1) := by decide +kernel
theorem dX3_saveBefore_10 : decode cX3_saveBefore 10 = .ok (.istore_n 1, 1) := by decide +kernel
theorem dX3_saveBefore_11 : decode cX3_saveBefore 11 = .ok (.iload_n 1, 1) := by decide +kernel
theorem dX3_saveBefore_12 : decode cX3_saveBefore 12 = .ok (.sipush 1445, 3) := by decide +kernel
theorem dX3_saveBefore_15 : decode cX3_saveBefore 15 = .ok (.if_icmp .ge 25, 3) := by decide +kernel
theorem dX3_saveBefore_18 : decode cX3_saveBefore 18 = .ok (.aload_n 0, 1) := by decide +kernel
theorem dX3_saveBefore_19 : decode cX3_saveBefore 19 = .ok (.getfield 22, 3) := by decide +kernel
theorem dX3_saveBefore_22 : decode cX3_saveBefore 22 = .ok (.iload_n 1, 1) := by decide +kernel
theorem dX3_saveBefore_23 : decode cX3_saveBefore 23 = .ok (.aload_n 0, 1) := by decide +kernel
theorem dX3_saveBefore_24 : decode cX3_saveBefore 24 = .ok (.getfield 22, 3) := by decide +kernel
theorem dX3_saveBefore_27 : decode cX3_saveBefore 27 = .ok (.iload_n 1, 1) := by decide +kernel
theorem dX3_saveBefore_28 : decode cX3_saveBefore 28 = .ok (.sipush 289, 3) := by decide +kernel
theorem dX3_saveBefore_31 : decode cX3_saveBefore 31 = .ok (.iadd, 1) := by decide +kernel
theorem dX3_saveBefore_32 : decode cX3_saveBefore 32 = .ok (.iaload, 1) := by decide +kernel
theorem dX3_saveBefore_33 : decode cX3_saveBefore 33 = .ok (.iastore, 1) := by decide +kernel
theorem dX3_saveBefore_34 : decode cX3_saveBefore 34 = .ok (.iinc 1 1, 3) := by decide +kernel
theorem dX3_saveBefore_37 : decode cX3_saveBefore 37 = .ok (.goto (-26), 3) := by decide +kernel
theorem dX3_saveBefore_40 : decode cX3_saveBefore 40 = .ok (.aload_n 0, 1) := by decide +kernel
theorem dX3_saveBefore_41 : decode cX3_saveBefore 41 = .ok (.dup, 1) := by decide +kernel
theorem dX3_saveBefore_42 : decode cX3_saveBefore 42 = .ok (.getfield 48, 3) := by decide +kernel
theorem dX3_saveBefore_45 : decode cX3_saveBefore 45 = .ok (.iconst 1, 1) := by decide +kernel
theorem dX3_saveBefore_46 : decode cX3_saveBefore 46 = .ok (.isub, 1) := by decide +kernel
theorem dX3_saveBefore_47 : decode cX3_saveBefore 47 = .ok (.putfield 48, 3) := by decide +kernel
theorem dX3_saveBefore_50 : decode cX3_saveBefore 50 = .ok (.iconst 0, 1) := by decide +kernel
theorem dX3_saveBefore_51 : decode cX3_saveBefore 51 = .ok (.istore_n 1, 1) := by decide +kernel
theorem dX3_saveBefore_52 : decode cX3_saveBefore 52 = .ok (.iload_n 1, 1) := by decide +kernel
theorem dX3_saveBefore_53 : decode cX3_saveBefore 53 = .ok (.sipush 289, 3) := by decide +kernel
theorem dX3_saveBefore_56 : decode cX3_saveBefore 56 = .ok (.if_icmp .ge 30, 3) := by decide +kernel
theorem dX3_saveBefore_59 : decode cX3_saveBefore 59 = .ok (.aload_n 0, 1) := by decide +kernel
theorem dX3_saveBefore_60 : decode cX3_saveBefore 60 = .ok (.getfield 22, 3) := by decide +kernel
theorem dX3_saveBefore_63 : decode cX3_saveBefore 63 = .ok (.sipush 289, 3) := by decide +kernel
theorem dX3_saveBefore_66 : decode cX3_saveBefore 66 = .ok (.aload_n 0, 1) := by decide +kernel
theorem dX3_saveBefore_67 : decode cX3_saveBefore 67 = .ok (.getfield 48, 3) := by decide +kernel
theorem dX3_saveBefore_70 : decode cX3_saveBefore 70 = .ok (.imul, 1) := by decide +kernel
theorem dX3_saveBefore_71 : decode cX3_saveBefore 71 = .ok (.iload_n 1, 1) := by decide +kernel
theorem dX3_saveBefore_72 : decode cX3_saveBefore 72 = .ok (.iadd, 1) := by decide +kernel
theorem dX3_saveBefore_73 : decode cX3_saveBefore 73 = .ok (.aload_n 0, 1) := by decide +kernel
theorem dX3_saveBefore_74 : decode cX3_saveBefore 74 = .ok (.getfield 13, 3) := by decide +kernel
theorem dX3_saveBefore_77 : decode cX3_saveBefore 77 = .ok (.iload_n 1, 1) := by decide +kernel
theorem dX3_saveBefore_78 : decode cX3_saveBefore 78 = .ok (.iaload, 1) := by decide +kernel
theorem dX3_saveBefore_79 : decode cX3_saveBefore 79 = .ok (.iastore, 1) := by decide +kernel
theorem dX3_saveBefore_80 : decode cX3_saveBefore 80 = .ok (.iinc 1 1, 3) := by decide +kernel
theorem dX3_saveBefore_83 : decode cX3_saveBefore 83 = .ok (.goto (-31), 3) := by decide +kernel
theorem dX3_saveBefore_86 : decode cX3_saveBefore 86 = .ok (.aload_n 0, 1) := by decide +kernel
theorem dX3_saveBefore_87 : decode cX3_saveBefore 87 = .ok (.dup, 1) := by decide +kernel
theorem dX3_saveBefore_88 : decode cX3_saveBefore 88 = .ok (.getfield 48, 3) := by decide +kernel
theorem dX3_saveBefore_91 : decode cX3_saveBefore 91 = .ok (.iconst 1, 1) := by decide +kernel
theorem dX3_saveBefore_92 : decode cX3_saveBefore 92 = .ok (.iadd, 1) := by decide +kernel
theorem dX3_saveBefore_93 : decode cX3_saveBefore 93 = .ok (.putfield 48, 3) := by decide +kernel
theorem dX3_saveBefore_96 : decode cX3_saveBefore 96 = .ok (.return_, 1) := by decide +kernel
theorem dX3_undo_0 : decode cX3_undo 0 = .ok (.aload_n 0, 1) := by decide +kernel
theorem dX3_undo_1 : decode cX3_undo 1 = .ok (.getfield 48, 3) := by decide +kernel
theorem dX3_undo_4 : decode cX3_undo 4 = .ok (.ifCond .ne 6, 3) := by decide +kernel
theorem dX3_undo_7 : decode cX3_undo 7 = .ok (.bipush (-2), 2) := by decide +kernel
theorem dX3_undo_9 : decode cX3_undo 9 = .ok (.ireturn, 1) := by decide +kernel
theorem dX3_undo_10 : decode cX3_undo 10 = .ok (.aload_n 0, 1) := by decide +kernel
theorem dX3_undo_11 : decode cX3_undo 11 = .ok (.dup, 1) := by decide +kernel
theorem dX3_undo_12 : decode cX3_undo 12 = .ok (.getfield 48, 3) := by decide +kernel
theorem dX3_undo_15 : decode cX3_undo 15 = .ok (.iconst 1, 1) := by decide +kernel
theorem dX3_undo_16 : decode cX3_undo 16 = .ok (.isub, 1) := by decide +kernel
theorem dX3_undo_17 : decode cX3_undo 17 = .ok (.putfield 48, 3) := by decide +kernel
theorem dX3_undo_20 : decode cX3_undo 20 = .ok (.iconst 0, 1) := by decide +kernel
theorem dX3_undo_21 : decode cX3_undo 21 = .ok (.istore_n 1, 1) := by decide +kernel
theorem dX3_undo_22 : decode cX3_undo 22 = .ok (.iload_n 1, 1) := by decide +kernel
theorem dX3_undo_23 : decode cX3_undo 23 = .ok (.sipush 289, 3) := by decide +kernel
theorem dX3_undo_26 : decode cX3_undo 26 = .ok (.if_icmp .ge 30, 3) := by decide +kernel
theorem dX3_undo_29 : decode cX3_undo 29 = .ok (.aload_n 0, 1) := by decide +kernel
theorem dX3_undo_30 : decode cX3_undo 30 = .ok (.getfield 7, 3) := by decide +kernel
theorem dX3_undo_33 : decode cX3_undo 33 = .ok (.iload_n 1, 1) := by decide +kernel
theorem dX3_undo_34 : decode cX3_undo 34 = .ok (.aload_n 0, 1) := by decide +kernel
theorem dX3_undo_35 : decode cX3_undo 35 = .ok (.getfield 22, 3) := by decide +kernel
theorem dX3_undo_38 : decode cX3_undo 38 = .ok (.sipush 289, 3) := by decide +kernel
theorem dX3_undo_41 : decode cX3_undo 41 = .ok (.aload_n 0, 1) := by decide +kernel
theorem dX3_undo_42 : decode cX3_undo 42 = .ok (.getfield 48, 3) := by decide +kernel
theorem dX3_undo_45 : decode cX3_undo 45 = .ok (.imul, 1) := by decide +kernel
theorem dX3_undo_46 : decode cX3_undo 46 = .ok (.iload_n 1, 1) := by decide +kernel
theorem dX3_undo_47 : decode cX3_undo 47 = .ok (.iadd, 1) := by decide +kernel
theorem dX3_undo_48 : decode cX3_undo 48 = .ok (.iaload, 1) := by decide +kernel
theorem dX3_undo_49 : decode cX3_undo 49 = .ok (.iastore, 1) := by decide +kernel
theorem dX3_undo_50 : decode cX3_undo 50 = .ok (.iinc 1 1, 3) := by decide +kernel
theorem dX3_undo_53 : decode cX3_undo 53 = .ok (.goto (-31), 3) := by decide +kernel
theorem dX3_undo_56 : decode cX3_undo 56 = .ok (.aload_n 0, 1) := by decide +kernel
theorem dX3_undo_57 : decode cX3_undo 57 = .ok (.getfield 48, 3) := by decide +kernel
theorem dX3_undo_60 : decode cX3_undo 60 = .ok (.ireturn, 1) := by decide +kernel
theorem dX3_append_0 : decode cX3_append 0 = .ok (.iload_n 1, 1) := by decide +kernel
theorem dX3_append_1 : decode cX3_append 1 = .ok (.iconst 0, 1) := by decide +kernel
theorem dX3_append_2 : decode cX3_append 2 = .ok (.sipush 255, 3) := by decide +kernel
theorem dX3_append_5 : decode cX3_append 5 = .ok (.invokestatic 44, 3) := by decide +kernel
theorem dX3_append_8 : decode cX3_append 8 = .ok (.ifCond .ne 5, 3) := by decide +kernel
theorem dX3_append_11 : decode cX3_append 11 = .ok (.iconst (-1), 1) := by decide +kernel
theorem dX3_append_12 : decode cX3_append 12 = .ok (.ireturn, 1) := by decide +kernel
theorem dX3_append_13 : decode cX3_append 13 = .ok (.aload_n 0, 1) := by decide +kernel
theorem dX3_append_14 : decode cX3_append 14 = .ok (.getfield 52, 3) := by decide +kernel
theorem dX3_append_17 : decode cX3_append 17 = .ok (.bipush 90, 2) := by decide +kernel
theorem dX3_append_19 : decode cX3_append 19 = .ok (.if_icmp .ne 6, 3) := by decide +kernel
theorem dX3_append_22 : decode cX3_append 22 = .ok (.bipush (-3), 2) := by decide +kernel
theorem dX3_append_24 : decode cX3_append 24 = .ok (.ireturn, 1) := by decide +kernel
theorem dX3_append_25 : decode cX3_append 25 = .ok (.aload_n 0, 1) := by decide +kernel
theorem dX3_append_26 : decode cX3_append 26 = .ok (.getfield 35, 3) := by decide +kernel
theorem dX3_append_29 : decode cX3_append 29 = .ok (.aload_n 0, 1) := by decide +kernel
theorem dX3_append_30 : decode cX3_append 30 = .ok (.getfield 52, 3) := by decide +kernel
theorem dX3_append_33 : decode cX3_append 33 = .ok (.iload_n 1, 1) := by decide +kernel
theorem dX3_append_34 : decode cX3_append 34 = .ok (.iastore, 1) := by decide +kernel
theorem dX3_append_35 : decode cX3_append 35 = .ok (.aload_n 0, 1) := by decide +kernel
theorem dX3_append_36 : decode cX3_append 36 = .ok (.dup, 1) := by decide +kernel
theorem dX3_append_37 : decode cX3_append 37 = .ok (.getfield 52, 3) := by decide +kernel
theorem dX3_append_40 : decode cX3_append 40 = .ok (.iconst 1, 1) := by decide +kernel
theorem dX3_append_41 : decode cX3_append 41 = .ok (.iadd, 1) := by decide +kernel
theorem dX3_append_42 : decode cX3_append 42 = .ok (.putfield 52, 3) := by decide +kernel
theorem dX3_append_45 : decode cX3_append 45 = .ok (.aload_n 0, 1) := by decide +kernel
theorem dX3_append_46 : decode cX3_append 46 = .ok (.getfield 52, 3) := by decide +kernel
theorem dX3_append_49 : decode cX3_append 49 = .ok (.ireturn, 1) := by decide +kernel
theorem dX3_clearText_0 : decode cX3_clearText 0 = .ok (.aload_n 0, 1) := by decide +kernel
theorem dX3_clearText_1 : decode cX3_clearText 1 = .ok (.getfield 52, 3) := by decide +kernel
theorem dX3_clearText_4 : decode cX3_clearText 4 = .ok (.istore_n 1, 1) := by decide +kernel
theorem dX3_clearText_5 : decode cX3_clearText 5 = .ok (.aload_n 0, 1) := by decide +kernel
theorem dX3_clearText_6 : decode cX3_clearText 6 = .ok (.iconst 0, 1) := by decide +kernel
theorem dX3_clearText_7 : decode cX3_clearText 7 = .ok (.putfield 52, 3) := by decide +kernel
theorem dX3_clearText_10 : decode cX3_clearText 10 = .ok (.iload_n 1, 1) := by decide +kernel
theorem dX3_clearText_11 : decode cX3_clearText 11 = .ok (.ireturn, 1) := by decide +kernel
theorem dX3_begin_0 : decode cX3_begin 0 = .ok (.iconst 0, 1) := by decide +kernel
theorem dX3_begin_1 : decode cX3_begin 1 = .ok (.istore_n 1, 1) := by decide +kernel
theorem dX3_begin_2 : decode cX3_begin 2 = .ok (.iload_n 1, 1) := by decide +kernel
theorem dX3_begin_3 : decode cX3_begin 3 = .ok (.bipush 72, 2) := by decide +kernel
theorem dX3_begin_5 : decode cX3_begin 5 = .ok (.if_icmp .ge 24, 3) := by decide +kernel
theorem dX3_begin_8 : decode cX3_begin 8 = .ok (.aload_n 0, 1) := by decide +kernel
theorem dX3_begin_9 : decode cX3_begin 9 = .ok (.getfield 7, 3) := by decide +kernel
theorem dX3_begin_12 : decode cX3_begin 12 = .ok (.bipush 72, 2) := by decide +kernel
theorem dX3_begin_14 : decode cX3_begin 14 = .ok (.iload_n 1, 1) := by decide +kernel
theorem dX3_begin_15 : decode cX3_begin 15 = .ok (.iadd, 1) := by decide +kernel
theorem dX3_begin_16 : decode cX3_begin 16 = .ok (.aload_n 0, 1) := by decide +kernel
theorem dX3_begin_17 : decode cX3_begin 17 = .ok (.getfield 7, 3) := by decide +kernel
theorem dX3_begin_20 : decode cX3_begin 20 = .ok (.iload_n 1, 1) := by decide +kernel
theorem dX3_begin_21 : decode cX3_begin 21 = .ok (.iaload, 1) := by decide +kernel
theorem dX3_begin_22 : decode cX3_begin 22 = .ok (.iastore, 1) := by decide +kernel
theorem dX3_begin_23 : decode cX3_begin 23 = .ok (.iinc 1 1, 3) := by decide +kernel
theorem dX3_begin_26 : decode cX3_begin 26 = .ok (.goto (-24), 3) := by decide +kernel
theorem dX3_begin_29 : decode cX3_begin 29 = .ok (.sipush 144, 3) := by decide +kernel
theorem dX3_begin_32 : decode cX3_begin 32 = .ok (.istore_n 1, 1) := by decide +kernel
theorem dX3_begin_33 : decode cX3_begin 33 = .ok (.iload_n 1, 1) := by decide +kernel
theorem dX3_begin_34 : decode cX3_begin 34 = .ok (.sipush 250, 3) := by decide +kernel
theorem dX3_begin_37 : decode cX3_begin 37 = .ok (.if_icmp .ge 16, 3) := by decide +kernel
theorem dX3_begin_40 : decode cX3_begin 40 = .ok (.aload_n 0, 1) := by decide +kernel
theorem dX3_begin_41 : decode cX3_begin 41 = .ok (.getfield 7, 3) := by decide +kernel
theorem dX3_begin_44 : decode cX3_begin 44 = .ok (.iload_n 1, 1) := by decide +kernel
theorem dX3_begin_45 : decode cX3_begin 45 = .ok (.iconst 0, 1) := by decide +kernel
theorem dX3_begin_46 : decode cX3_begin 46 = .ok (.iastore, 1) := by decide +kernel
theorem dX3_begin_47 : decode cX3_begin 47 = .ok (.iinc 1 1, 3) := by decide +kernel
theorem dX3_begin_50 : decode cX3_begin 50 = .ok (.goto (-17), 3) := by decide +kernel
theorem dX3_begin_53 : decode cX3_begin 53 = .ok (.sipush 267, 3) := by decide +kernel
theorem dX3_begin_56 : decode cX3_begin 56 = .ok (.istore_n 1, 1) := by decide +kernel
theorem dX3_begin_57 : decode cX3_begin 57 = .ok (.iload_n 1, 1) := by decide +kernel
theorem dX3_begin_58 : decode cX3_begin 58 = .ok (.sipush 289, 3) := by decide +kernel
theorem dX3_begin_61 : decode cX3_begin 61 = .ok (.if_icmp .ge 16, 3) := by decide +kernel
theorem dX3_begin_64 : decode cX3_begin 64 = .ok (.aload_n 0, 1) := by decide +kernel
theorem dX3_begin_65 : decode cX3_begin 65 = .ok (.getfield 7, 3) := by decide +kernel
theorem dX3_begin_68 : decode cX3_begin 68 = .ok (.iload_n 1, 1) := by decide +kernel
theorem dX3_begin_69 : decode cX3_begin 69 = .ok (.iconst 0, 1) := by decide +kernel
theorem dX3_begin_70 : decode cX3_begin 70 = .ok (.iastore, 1) := by decide +kernel
theorem dX3_begin_71 : decode cX3_begin 71 = .ok (.iinc 1 1, 3) := by decide +kernel
theorem dX3_begin_74 : decode cX3_begin 74 = .ok (.goto (-17), 3) := by decide +kernel
theorem dX3_begin_77 : decode cX3_begin 77 = .ok (.aload_n 0, 1) := by decide +kernel
theorem dX3_begin_78 : decode cX3_begin 78 = .ok (.getfield 7, 3) := by decide +kernel
theorem dX3_begin_81 : decode cX3_begin 81 = .ok (.sipush 145, 3) := by decide +kernel
theorem dX3_begin_84 : decode cX3_begin 84 = .ok (.iconst 1, 1) := by decide +kernel
theorem dX3_begin_85 : decode cX3_begin 85 = .ok (.iastore, 1) := by decide +kernel
theorem dX3_begin_86 : decode cX3_begin 86 = .ok (.aload_n 0, 1) := by decide +kernel
theorem dX3_begin_87 : decode cX3_begin 87 = .ok (.getfield 7, 3) := by decide +kernel
theorem dX3_begin_90 : decode cX3_begin 90 = .ok (.sipush 155, 3) := by decide +kernel
theorem dX3_begin_93 : decode cX3_begin 93 = .ok (.iconst 1, 1) := by decide +kernel
theorem dX3_begin_94 : decode cX3_begin 94 = .ok (.iastore, 1) := by decide +kernel
theorem dX3_begin_95 : decode cX3_begin 95 = .ok (.return_, 1) := by decide +kernel
theorem dX3_errorPosition_0 : decode cX3_errorPosition 0 = .ok (.iconst 0, 1) := by decide +kernel
theorem dX3_errorPosition_1 : decode cX3_errorPosition 1 = .ok (.istore_n 1, 1) := by decide +kernel
theorem dX3_errorPosition_2 : decode cX3_errorPosition 2 = .ok (.iconst 0, 1) := by decide +kernel
theorem dX3_errorPosition_3 : decode cX3_errorPosition 3 = .ok (.istore_n 2, 1) := by decide +kernel
theorem dX3_errorPosition_4 : decode cX3_errorPosition 4 = .ok (.iconst 0, 1) := by decide +kernel
theorem dX3_errorPosition_5 : decode cX3_errorPosition 5 = .ok (.istore_n 3, 1) := by decide +kernel
theorem dX3_errorPosition_6 : decode cX3_errorPosition 6 = .ok (.iload_n 3, 1) := by decide +kernel
theorem dX3_errorPosition_7 : decode cX3_errorPosition 7 = .ok (.aload_n 0, 1) := by decide +kernel
theorem dX3_errorPosition_8 : decode cX3_errorPosition 8 = .ok (.getfield 52, 3) := by decide +kernel
theorem dX3_errorPosition_11 : decode cX3_errorPosition 11 = .ok (.if_icmp .ge 100, 3) := by decide +kernel
theorem dX3_errorPosition_14 : decode cX3_errorPosition 14 = .ok (.aload_n 0, 1) := by decide +kernel
theorem dX3_errorPosition_15 : decode cX3_errorPosition 15 = .ok (.getfield 35, 3) := by decide +kernel
theorem dX3_errorPosition_18 : decode cX3_errorPosition 18 = .ok (.iload_n 3, 1) := by decide +kernel
theorem dX3_errorPosition_19 : decode cX3_errorPosition 19 = .ok (.iaload, 1) := by decide +kernel
theorem dX3_errorPosition_20 : decode cX3_errorPosition 20 = .ok (.bipush 10, 2) := by decide +kernel
theorem dX3_errorPosition_22 : decode cX3_errorPosition 22 = .ok (.if_icmp .ne 7, 3) := by decide +kernel
theorem dX3_errorPosition_25 : decode cX3_errorPosition 25 = .ok (.iconst 1, 1) := by decide +kernel
theorem dX3_errorPosition_26 : decode cX3_errorPosition 26 = .ok (.goto 4, 3) := by decide +kernel
theorem dX3_errorPosition_29 : decode cX3_errorPosition 29 = .ok (.iconst 0, 1) := by decide +kernel
theorem dX3_errorPosition_30 : decode cX3_errorPosition 30 = .ok (.istore 4, 2) := by decide +kernel
theorem dX3_errorPosition_32 : decode cX3_errorPosition 32 = .ok (.iload_n 1, 1) := by decide +kernel
theorem dX3_errorPosition_33 : decode cX3_errorPosition 33 = .ok (.bipush 6, 2) := by decide +kernel
theorem dX3_errorPosition_35 : decode cX3_errorPosition 35 = .ok (.if_icmp .ge 34, 3) := by decide +kernel
theorem dX3_errorPosition_38 : decode cX3_errorPosition 38 = .ok (.iload 4, 2) := by decide +kernel
theorem dX3_errorPosition_40 : decode cX3_errorPosition 40 = .ok (.ifCond .ne 25, 3) := by decide +kernel
theorem dX3_errorPosition_43 : decode cX3_errorPosition 43 = .ok (.aload_n 0, 1) := by decide +kernel
theorem dX3_errorPosition_44 : decode cX3_errorPosition 44 = .ok (.getfield 35, 3) := by decide +kernel
theorem dX3_errorPosition_47 : decode cX3_errorPosition 47 = .ok (.iload_n 3, 1) := by decide +kernel
theorem dX3_errorPosition_48 : decode cX3_errorPosition 48 = .ok (.iaload, 1) := by decide +kernel
theorem dX3_errorPosition_49 : decode cX3_errorPosition 49 = .ok (.bipush 32, 2) := by decide +kernel
theorem dX3_errorPosition_51 : decode cX3_errorPosition 51 = .ok (.bipush 126, 2) := by decide +kernel
theorem dX3_errorPosition_53 : decode cX3_errorPosition 53 = .ok (.invokestatic 44, 3) := by decide +kernel
theorem dX3_errorPosition_56 : decode cX3_errorPosition 56 = .ok (.ifCond .eq 13, 3) := by decide +kernel
theorem dX3_errorPosition_59 : decode cX3_errorPosition 59 = .ok (.iload_n 2, 1) := by decide +kernel
theorem dX3_errorPosition_60 : decode cX3_errorPosition 60 = .ok (.bipush 12, 2) := by decide +kernel
theorem dX3_errorPosition_62 : decode cX3_errorPosition 62 = .ok (.if_icmp .ge 7, 3) := by decide +kernel
theorem dX3_errorPosition_65 : decode cX3_errorPosition 65 = .ok (.iconst 1, 1) := by decide +kernel
theorem dX3_errorPosition_66 : decode cX3_errorPosition 66 = .ok (.goto 4, 3) := by decide +kernel
theorem dX3_errorPosition_69 : decode cX3_errorPosition 69 = .ok (.iconst 0, 1) := by decide +kernel
theorem dX3_errorPosition_70 : decode cX3_errorPosition 70 = .ok (.istore 5, 2) := by decide +kernel
theorem dX3_errorPosition_72 : decode cX3_errorPosition 72 = .ok (.iload 5, 2) := by decide +kernel
theorem dX3_errorPosition_74 : decode cX3_errorPosition 74 = .ok (.ifCond .ne 5, 3) := by decide +kernel
theorem dX3_errorPosition_77 : decode cX3_errorPosition 77 = .ok (.iload_n 3, 1) := by decide +kernel
theorem dX3_errorPosition_78 : decode cX3_errorPosition 78 = .ok (.ireturn, 1) := by decide +kernel
theorem dX3_errorPosition_79 : decode cX3_errorPosition 79 = .ok (.iload_n 1, 1) := by decide +kernel
theorem dX3_errorPosition_80 : decode cX3_errorPosition 80 = .ok (.iload 4, 2) := by decide +kernel
theorem dX3_errorPosition_82 : decode cX3_errorPosition 82 = .ok (.ifCond .eq 7, 3) := by decide +kernel
theorem dX3_errorPosition_85 : decode cX3_errorPosition 85 = .ok (.iconst 1, 1) := by decide +kernel
theorem dX3_errorPosition_86 : decode cX3_errorPosition 86 = .ok (.goto 4, 3) := by decide +kernel
theorem dX3_errorPosition_89 : decode cX3_errorPosition 89 = .ok (.iconst 0, 1) := by decide +kernel
theorem dX3_errorPosition_90 : decode cX3_errorPosition 90 = .ok (.iadd, 1) := by decide +kernel
theorem dX3_errorPosition_91 : decode cX3_errorPosition 91 = .ok (.istore_n 1, 1) := by decide +kernel
theorem dX3_errorPosition_92 : decode cX3_errorPosition 92 = .ok (.iload 4, 2) := by decide +kernel
theorem dX3_errorPosition_94 : decode cX3_errorPosition 94 = .ok (.ifCond .eq 7, 3) := by decide +kernel
theorem dX3_errorPosition_97 : decode cX3_errorPosition 97 = .ok (.iconst 0, 1) := by decide +kernel
theorem dX3_errorPosition_98 : decode cX3_errorPosition 98 = .ok (.goto 6, 3) := by decide +kernel
theorem dX3_errorPosition_101 : decode cX3_errorPosition 101 = .ok (.iload_n 2, 1) := by decide +kernel
theorem dX3_errorPosition_102 : decode cX3_errorPosition 102 = .ok (.iconst 1, 1) := by decide +kernel
theorem dX3_errorPosition_103 : decode cX3_errorPosition 103 = .ok (.iadd, 1) := by decide +kernel
theorem dX3_errorPosition_104 : decode cX3_errorPosition 104 = .ok (.istore_n 2, 1) := by decide +kernel
theorem dX3_errorPosition_105 : decode cX3_errorPosition 105 = .ok (.iinc 3 1, 3) := by decide +kernel
theorem dX3_errorPosition_108 : decode cX3_errorPosition 108 = .ok (.goto (-102), 3) := by decide +kernel
theorem dX3_errorPosition_111 : decode cX3_errorPosition 111 = .ok (.bipush (-9), 2) := by decide +kernel
theorem dX3_errorPosition_113 : decode cX3_errorPosition 113 = .ok (.ireturn, 1) := by decide +kernel
theorem dX3_load_0 : decode cX3_load 0 = .ok (.aload_n 0, 1) := by decide +kernel
theorem dX3_load_1 : decode cX3_load 1 = .ok (.invokevirtual 55, 3) := by decide +kernel
theorem dX3_load_4 : decode cX3_load 4 = .ok (.istore_n 1, 1) := by decide +kernel
theorem dX3_load_5 : decode cX3_load 5 = .ok (.iload_n 1, 1) := by decide +kernel
theorem dX3_load_6 : decode cX3_load 6 = .ok (.bipush (-9), 2) := by decide +kernel
theorem dX3_load_8 : decode cX3_load 8 = .ok (.if_icmp .eq 8, 3) := by decide +kernel
theorem dX3_load_11 : decode cX3_load 11 = .ok (.bipush (-10), 2) := by decide +kernel
theorem dX3_load_13 : decode cX3_load 13 = .ok (.iload_n 1, 1) := by decide +kernel
theorem dX3_load_14 : decode cX3_load 14 = .ok (.isub, 1) := by decide +kernel
theorem dX3_load_15 : decode cX3_load 15 = .ok (.ireturn, 1) := by decide +kernel
theorem dX3_load_16 : decode cX3_load 16 = .ok (.aload_n 0, 1) := by decide +kernel
theorem dX3_load_17 : decode cX3_load 17 = .ok (.invokevirtual 59, 3) := by decide +kernel
theorem dX3_load_20 : decode cX3_load 20 = .ok (.iconst 0, 1) := by decide +kernel
theorem dX3_load_21 : decode cX3_load 21 = .ok (.istore_n 2, 1) := by decide +kernel
theorem dX3_load_22 : decode cX3_load 22 = .ok (.iload_n 2, 1) := by decide +kernel
theorem dX3_load_23 : decode cX3_load 23 = .ok (.bipush 72, 2) := by decide +kernel
theorem dX3_load_25 : decode cX3_load 25 = .ok (.if_icmp .ge 17, 3) := by decide +kernel
theorem dX3_load_28 : decode cX3_load 28 = .ok (.aload_n 0, 1) := by decide +kernel
theorem dX3_load_29 : decode cX3_load 29 = .ok (.getfield 7, 3) := by decide +kernel
theorem dX3_load_32 : decode cX3_load 32 = .ok (.iload_n 2, 1) := by decide +kernel
theorem dX3_load_33 : decode cX3_load 33 = .ok (.bipush 32, 2) := by decide +kernel
theorem dX3_load_35 : decode cX3_load 35 = .ok (.iastore, 1) := by decide +kernel
theorem dX3_load_36 : decode cX3_load 36 = .ok (.iinc 2 1, 3) := by decide +kernel
theorem dX3_load_39 : decode cX3_load 39 = .ok (.goto (-17), 3) := by decide +kernel
theorem dX3_load_42 : decode cX3_load 42 = .ok (.iconst 0, 1) := by decide +kernel
theorem dX3_load_43 : decode cX3_load 43 = .ok (.istore_n 2, 1) := by decide +kernel
theorem dX3_load_44 : decode cX3_load 44 = .ok (.iconst 0, 1) := by decide +kernel
theorem dX3_load_45 : decode cX3_load 45 = .ok (.istore_n 3, 1) := by decide +kernel
theorem dX3_load_46 : decode cX3_load 46 = .ok (.iconst 0, 1) := by decide +kernel
theorem dX3_load_47 : decode cX3_load 47 = .ok (.istore 4, 2) := by decide +kernel
theorem dX3_load_49 : decode cX3_load 49 = .ok (.iconst 0, 1) := by decide +kernel
theorem dX3_load_50 : decode cX3_load 50 = .ok (.istore 5, 2) := by decide +kernel
theorem dX3_load_52 : decode cX3_load 52 = .ok (.iload 5, 2) := by decide +kernel
theorem dX3_load_54 : decode cX3_load 54 = .ok (.aload_n 0, 1) := by decide +kernel
theorem dX3_load_55 : decode cX3_load 55 = .ok (.getfield 52, 3) := by decide +kernel
theorem dX3_load_58 : decode cX3_load 58 = .ok (.if_icmp .ge 72, 3) := by decide +kernel
theorem dX3_load_61 : decode cX3_load 61 = .ok (.aload_n 0, 1) := by decide +kernel
theorem dX3_load_62 : decode cX3_load 62 = .ok (.getfield 35, 3) := by decide +kernel
theorem dX3_load_65 : decode cX3_load 65 = .ok (.iload 5, 2) := by decide +kernel
theorem dX3_load_67 : decode cX3_load 67 = .ok (.iaload, 1) := by decide +kernel
theorem dX3_load_68 : decode cX3_load 68 = .ok (.bipush 10, 2) := by decide +kernel
theorem dX3_load_70 : decode cX3_load 70 = .ok (.if_icmp .ne 11, 3) := by decide +kernel
theorem dX3_load_73 : decode cX3_load 73 = .ok (.iinc 2 1, 3) := by decide +kernel
theorem dX3_load_76 : decode cX3_load 76 = .ok (.iconst 0, 1) := by decide +kernel
theorem dX3_load_77 : decode cX3_load 77 = .ok (.istore_n 3, 1) := by decide +kernel
theorem dX3_load_78 : decode cX3_load 78 = .ok (.goto 46, 3) := by decide +kernel
theorem dX3_load_81 : decode cX3_load 81 = .ok (.aload_n 0, 1) := by decide +kernel
theorem dX3_load_82 : decode cX3_load 82 = .ok (.getfield 7, 3) := by decide +kernel
theorem dX3_load_85 : decode cX3_load 85 = .ok (.bipush 12, 2) := by decide +kernel
theorem dX3_load_87 : decode cX3_load 87 = .ok (.iload_n 2, 1) := by decide +kernel
theorem dX3_load_88 : decode cX3_load 88 = .ok (.imul, 1) := by decide +kernel
theorem dX3_load_89 : decode cX3_load 89 = .ok (.iload_n 3, 1) := by decide +kernel
theorem dX3_load_90 : decode cX3_load 90 = .ok (.iadd, 1) := by decide +kernel
theorem dX3_load_91 : decode cX3_load 91 = .ok (.aload_n 0, 1) := by decide +kernel
theorem dX3_load_92 : decode cX3_load 92 = .ok (.getfield 35, 3) := by decide +kernel
theorem dX3_load_95 : decode cX3_load 95 = .ok (.iload 5, 2) := by decide +kernel
theorem dX3_load_97 : decode cX3_load 97 = .ok (.iaload, 1) := by decide +kernel
theorem dX3_load_98 : decode cX3_load 98 = .ok (.iastore, 1) := by decide +kernel
theorem dX3_load_99 : decode cX3_load 99 = .ok (.iload 4, 2) := by decide +kernel
theorem dX3_load_101 : decode cX3_load 101 = .ok (.aload_n 0, 1) := by decide +kernel
theorem dX3_load_102 : decode cX3_load 102 = .ok (.getfield 35, 3) := by decide +kernel
theorem dX3_load_105 : decode cX3_load 105 = .ok (.iload 5, 2) := by decide +kernel
theorem dX3_load_107 : decode cX3_load 107 = .ok (.iaload, 1) := by decide +kernel
theorem dX3_load_108 : decode cX3_load 108 = .ok (.bipush 32, 2) := by decide +kernel
theorem dX3_load_110 : decode cX3_load 110 = .ok (.if_icmp .ne 7, 3) := by decide +kernel
theorem dX3_load_113 : decode cX3_load 113 = .ok (.iconst 0, 1) := by decide +kernel
theorem dX3_load_114 : decode cX3_load 114 = .ok (.goto 4, 3) := by decide +kernel
theorem dX3_load_117 : decode cX3_load 117 = .ok (.iconst 1, 1) := by decide +kernel
theorem dX3_load_118 : decode cX3_load 118 = .ok (.iadd, 1) := by decide +kernel
theorem dX3_load_119 : decode cX3_load 119 = .ok (.istore 4, 2) := by decide +kernel
theorem dX3_load_121 : decode cX3_load 121 = .ok (.iinc 3 1, 3) := by decide +kernel
theorem dX3_load_124 : decode cX3_load 124 = .ok (.iinc 5 1, 3) := by decide +kernel
theorem dX3_load_127 : decode cX3_load 127 = .ok (.goto (-75), 3) := by decide +kernel
theorem dX3_load_130 : decode cX3_load 130 = .ok (.aload_n 0, 1) := by decide +kernel
theorem dX3_load_131 : decode cX3_load 131 = .ok (.invokevirtual 41, 3) := by decide +kernel
theorem dX3_load_134 : decode cX3_load 134 = .ok (.sipush 250, 3) := by decide +kernel
theorem dX3_load_137 : decode cX3_load 137 = .ok (.istore 5, 2) := by decide +kernel
theorem dX3_load_139 : decode cX3_load 139 = .ok (.iload 5, 2) := by decide +kernel
theorem dX3_load_141 : decode cX3_load 141 = .ok (.sipush 267, 3) := by decide +kernel
theorem dX3_load_144 : decode cX3_load 144 = .ok (.if_icmp .ge 17, 3) := by decide +kernel
theorem dX3_load_147 : decode cX3_load 147 = .ok (.aload_n 0, 1) := by decide +kernel
theorem dX3_load_148 : decode cX3_load 148 = .ok (.getfield 7, 3) := by decide +kernel
theorem dX3_load_151 : decode cX3_load 151 = .ok (.iload 5, 2) := by decide +kernel
theorem dX3_load_153 : decode cX3_load 153 = .ok (.iconst 0, 1) := by decide +kernel
theorem dX3_load_154 : decode cX3_load 154 = .ok (.iastore, 1) := by decide +kernel
theorem dX3_load_155 : decode cX3_load 155 = .ok (.iinc 5 1, 3) := by decide +kernel
theorem dX3_load_158 : decode cX3_load 158 = .ok (.goto (-19), 3) := by decide +kernel
theorem dX3_load_161 : decode cX3_load 161 = .ok (.aload_n 0, 1) := by decide +kernel
theorem dX3_load_162 : decode cX3_load 162 = .ok (.iconst 0, 1) := by decide +kernel
theorem dX3_load_163 : decode cX3_load 163 = .ok (.putfield 52, 3) := by decide +kernel
theorem dX3_load_166 : decode cX3_load 166 = .ok (.aload_n 0, 1) := by decide +kernel
theorem dX3_load_167 : decode cX3_load 167 = .ok (.invokevirtual 62, 3) := by decide +kernel
theorem dX3_load_170 : decode cX3_load 170 = .ok (.iload 4, 2) := by decide +kernel
theorem dX3_load_172 : decode cX3_load 172 = .ok (.ireturn, 1) := by decide +kernel
theorem dX3_rewind_0 : decode cX3_rewind 0 = .ok (.aload_n 0, 1) := by decide +kernel
theorem dX3_rewind_1 : decode cX3_rewind 1 = .ok (.invokevirtual 59, 3) := by decide +kernel
theorem dX3_rewind_4 : decode cX3_rewind 4 = .ok (.aload_n 0, 1) := by decide +kernel
theorem dX3_rewind_5 : decode cX3_rewind 5 = .ok (.getfield 7, 3) := by decide +kernel
theorem dX3_rewind_8 : decode cX3_rewind 8 = .ok (.sipush 144, 3) := by decide +kernel
theorem dX3_rewind_11 : decode cX3_rewind 11 = .ok (.iaload, 1) := by decide +kernel
theorem dX3_rewind_12 : decode cX3_rewind 12 = .ok (.istore_n 1, 1) := by decide +kernel
theorem dX3_rewind_13 : decode cX3_rewind 13 = .ok (.aload_n 0, 1) := by decide +kernel
theorem dX3_rewind_14 : decode cX3_rewind 14 = .ok (.invokevirtual 41, 3) := by decide +kernel
theorem dX3_rewind_17 : decode cX3_rewind 17 = .ok (.aload_n 0, 1) := by decide +kernel
theorem dX3_rewind_18 : decode cX3_rewind 18 = .ok (.invokevirtual 62, 3) := by decide +kernel
theorem dX3_rewind_21 : decode cX3_rewind 21 = .ok (.iload_n 1, 1) := by decide +kernel
theorem dX3_rewind_22 : decode cX3_rewind 22 = .ok (.ireturn, 1) := by decide +kernel
theorem dX3_feed_0 : decode cX3_feed 0 = .ok (.aload_n 0, 1) := by decide +kernel
theorem dX3_feed_1 : decode cX3_feed 1 = .ok (.getfield 7, 3) := by decide +kernel
theorem dX3_feed_4 : decode cX3_feed 4 = .ok (.sipush 250, 3) := by decide +kernel
theorem dX3_feed_7 : decode cX3_feed 7 = .ok (.iaload, 1) := by decide +kernel
theorem dX3_feed_8 : decode cX3_feed 8 = .ok (.bipush 16, 2) := by decide +kernel
theorem dX3_feed_10 : decode cX3_feed 10 = .ok (.if_icmp .ne 6, 3) := by decide +kernel
theorem dX3_feed_13 : decode cX3_feed 13 = .ok (.bipush (-3), 2) := by decide +kernel
theorem dX3_feed_15 : decode cX3_feed 15 = .ok (.ireturn, 1) := by decide +kernel
theorem dX3_feed_16 : decode cX3_feed 16 = .ok (.aload_n 0, 1) := by decide +kernel
theorem dX3_feed_17 : decode cX3_feed 17 = .ok (.invokevirtual 59, 3) := by decide +kernel
theorem dX3_feed_20 : decode cX3_feed 20 = .ok (.aload_n 0, 1) := by decide +kernel
theorem dX3_feed_21 : decode cX3_feed 21 = .ok (.getfield 7, 3) := by decide +kernel
theorem dX3_feed_24 : decode cX3_feed 24 = .ok (.sipush 250, 3) := by decide +kernel
theorem dX3_feed_27 : decode cX3_feed 27 = .ok (.dup2, 1) := by decide +kernel
theorem dX3_feed_28 : decode cX3_feed 28 = .ok (.iaload, 1) := by decide +kernel
theorem dX3_feed_29 : decode cX3_feed 29 = .ok (.iconst 1, 1) := by decide +kernel
theorem dX3_feed_30 : decode cX3_feed 30 = .ok (.iadd, 1) := by decide +kernel
theorem dX3_feed_31 : decode cX3_feed 31 = .ok (.iastore, 1) := by decide +kernel
theorem dX3_feed_32 : decode cX3_feed 32 = .ok (.aload_n 0, 1) := by decide +kernel
theorem dX3_feed_33 : decode cX3_feed 33 = .ok (.getfield 7, 3) := by decide +kernel
theorem dX3_feed_36 : decode cX3_feed 36 = .ok (.sipush 250, 3) := by decide +kernel
theorem dX3_feed_39 : decode cX3_feed 39 = .ok (.aload_n 0, 1) := by decide +kernel
theorem dX3_feed_40 : decode cX3_feed 40 = .ok (.getfield 7, 3) := by decide +kernel
theorem dX3_feed_43 : decode cX3_feed 43 = .ok (.sipush 250, 3) := by decide +kernel
theorem dX3_feed_46 : decode cX3_feed 46 = .ok (.iaload, 1) := by decide +kernel
theorem dX3_feed_47 : decode cX3_feed 47 = .ok (.iadd, 1) := by decide +kernel
theorem dX3_feed_48 : decode cX3_feed 48 = .ok (.iload_n 1, 1) := by decide +kernel
theorem dX3_feed_49 : decode cX3_feed 49 = .ok (.iastore, 1) := by decide +kernel
theorem dX3_feed_50 : decode cX3_feed 50 = .ok (.aload_n 0, 1) := by decide +kernel
theorem dX3_feed_51 : decode cX3_feed 51 = .ok (.invokevirtual 62, 3) := by decide +kernel
theorem dX3_feed_54 : decode cX3_feed 54 = .ok (.aload_n 0, 1) := by decide +kernel
theorem dX3_feed_55 : decode cX3_feed 55 = .ok (.getfield 7, 3) := by decide +kernel
theorem dX3_feed_58 : decode cX3_feed 58 = .ok (.sipush 250, 3) := by decide +kernel
theorem dX3_feed_61 : decode cX3_feed 61 = .ok (.iaload, 1) := by decide +kernel
theorem dX3_feed_62 : decode cX3_feed 62 = .ok (.ireturn, 1) := by decide +kernel
theorem dX3_poke_0 : decode cX3_poke 0 = .ok (.iload_n 1, 1) := by decide +kernel
theorem dX3_poke_1 : decode cX3_poke 1 = .ok (.iload_n 2, 1) := by decide +kernel
theorem dX3_poke_2 : decode cX3_poke 2 = .ok (.invokestatic 65, 3) := by decide +kernel
theorem dX3_poke_5 : decode cX3_poke 5 = .ok (.ifCond .eq 14, 3) := by decide +kernel
theorem dX3_poke_8 : decode cX3_poke 8 = .ok (.iload_n 3, 1) := by decide +kernel
theorem dX3_poke_9 : decode cX3_poke 9 = .ok (.bipush 32, 2) := by decide +kernel
theorem dX3_poke_11 : decode cX3_poke 11 = .ok (.bipush 126, 2) := by decide +kernel
theorem dX3_poke_13 : decode cX3_poke 13 = .ok (.invokestatic 44, 3) := by decide +kernel
theorem dX3_poke_16 : decode cX3_poke 16 = .ok (.ifCond .ne 5, 3) := by decide +kernel
theorem dX3_poke_19 : decode cX3_poke 19 = .ok (.iconst (-1), 1) := by decide +kernel
theorem dX3_poke_20 : decode cX3_poke 20 = .ok (.ireturn, 1) := by decide +kernel
theorem dX3_poke_21 : decode cX3_poke 21 = .ok (.aload_n 0, 1) := by decide +kernel
theorem dX3_poke_22 : decode cX3_poke 22 = .ok (.invokevirtual 59, 3) := by decide +kernel
theorem dX3_poke_25 : decode cX3_poke 25 = .ok (.bipush 72, 2) := by decide +kernel
theorem dX3_poke_27 : decode cX3_poke 27 = .ok (.bipush 12, 2) := by decide +kernel
theorem dX3_poke_29 : decode cX3_poke 29 = .ok (.iload_n 2, 1) := by decide +kernel
theorem dX3_poke_30 : decode cX3_poke 30 = .ok (.imul, 1) := by decide +kernel
theorem dX3_poke_31 : decode cX3_poke 31 = .ok (.iadd, 1) := by decide +kernel
theorem dX3_poke_32 : decode cX3_poke 32 = .ok (.iload_n 1, 1) := by decide +kernel
theorem dX3_poke_33 : decode cX3_poke 33 = .ok (.iadd, 1) := by decide +kernel
theorem dX3_poke_34 : decode cX3_poke 34 = .ok (.istore 4, 2) := by decide +kernel
theorem dX3_poke_36 : decode cX3_poke 36 = .ok (.aload_n 0, 1) := by decide +kernel
theorem dX3_poke_37 : decode cX3_poke 37 = .ok (.getfield 7, 3) := by decide +kernel
theorem dX3_poke_40 : decode cX3_poke 40 = .ok (.iload 4, 2) := by decide +kernel
theorem dX3_poke_42 : decode cX3_poke 42 = .ok (.iaload, 1) := by decide +kernel
theorem dX3_poke_43 : decode cX3_poke 43 = .ok (.istore 5, 2) := by decide +kernel
theorem dX3_poke_45 : decode cX3_poke 45 = .ok (.aload_n 0, 1) := by decide +kernel
theorem dX3_poke_46 : decode cX3_poke 46 = .ok (.getfield 7, 3) := by decide +kernel
theorem dX3_poke_49 : decode cX3_poke 49 = .ok (.iload 4, 2) := by decide +kernel
theorem dX3_poke_51 : decode cX3_poke 51 = .ok (.iload_n 3, 1) := by decide +kernel
theorem dX3_poke_52 : decode cX3_poke 52 = .ok (.iastore, 1) := by decide +kernel
theorem dX3_poke_53 : decode cX3_poke 53 = .ok (.aload_n 0, 1) := by decide +kernel
theorem dX3_poke_54 : decode cX3_poke 54 = .ok (.invokevirtual 62, 3) := by decide +kernel
theorem dX3_poke_57 : decode cX3_poke 57 = .ok (.iload 5, 2) := by decide +kernel
theorem dX3_poke_59 : decode cX3_poke 59 = .ok (.ireturn, 1) := by decide +kernel
theorem dX3_of_0 : decode cX3_of 0 = .ok (.aload_n 0, 1) := by decide +kernel
theorem dX3_of_1 : decode cX3_of 1 = .ok (.getfield 7, 3) := by decide +kernel
theorem dX3_of_4 : decode cX3_of 4 = .ok (.sipush 150, 3) := by decide +kernel
theorem dX3_of_7 : decode cX3_of 7 = .ok (.bipush 25, 2) := by decide +kernel
theorem dX3_of_9 : decode cX3_of 9 = .ok (.iload_n 1, 1) := by decide +kernel
theorem dX3_of_10 : decode cX3_of 10 = .ok (.imul, 1) := by decide +kernel
theorem dX3_of_11 : decode cX3_of 11 = .ok (.iadd, 1) := by decide +kernel
theorem dX3_of_12 : decode cX3_of 12 = .ok (.iload_n 2, 1) := by decide +kernel
theorem dX3_of_13 : decode cX3_of 13 = .ok (.iadd, 1) := by decide +kernel
theorem dX3_of_14 : decode cX3_of 14 = .ok (.iaload, 1) := by decide +kernel
theorem dX3_of_15 : decode cX3_of 15 = .ok (.ireturn, 1) := by decide +kernel
theorem dX3_put_0 : decode cX3_put 0 = .ok (.aload_n 0, 1) := by decide +kernel
theorem dX3_put_1 : decode cX3_put 1 = .ok (.getfield 7, 3) := by decide +kernel
theorem dX3_put_4 : decode cX3_put 4 = .ok (.sipush 150, 3) := by decide +kernel
theorem dX3_put_7 : decode cX3_put 7 = .ok (.bipush 25, 2) := by decide +kernel
theorem dX3_put_9 : decode cX3_put 9 = .ok (.iload_n 1, 1) := by decide +kernel
theorem dX3_put_10 : decode cX3_put 10 = .ok (.imul, 1) := by decide +kernel
theorem dX3_put_11 : decode cX3_put 11 = .ok (.iadd, 1) := by decide +kernel
theorem dX3_put_12 : decode cX3_put 12 = .ok (.iload_n 2, 1) := by decide +kernel
theorem dX3_put_13 : decode cX3_put 13 = .ok (.iadd, 1) := by decide +kernel
theorem dX3_put_14 : decode cX3_put 14 = .ok (.iload_n 3, 1) := by decide +kernel
theorem dX3_put_15 : decode cX3_put 15 = .ok (.iastore, 1) := by decide +kernel
theorem dX3_put_16 : decode cX3_put 16 = .ok (.return_, 1) := by decide +kernel
theorem dX3_heldBy_0 : decode cX3_heldBy 0 = .ok (.aload_n 0, 1) := by decide +kernel
theorem dX3_heldBy_1 : decode cX3_heldBy 1 = .ok (.iload_n 1, 1) := by decide +kernel
theorem dX3_heldBy_2 : decode cX3_heldBy 2 = .ok (.bipush 6, 2) := by decide +kernel
theorem dX3_heldBy_4 : decode cX3_heldBy 4 = .ok (.invokevirtual 69, 3) := by decide +kernel
theorem dX3_heldBy_7 : decode cX3_heldBy 7 = .ok (.aload_n 0, 1) := by decide +kernel
theorem dX3_heldBy_8 : decode cX3_heldBy 8 = .ok (.iload_n 1, 1) := by decide +kernel
theorem dX3_heldBy_9 : decode cX3_heldBy 9 = .ok (.bipush 7, 2) := by decide +kernel
theorem dX3_heldBy_11 : decode cX3_heldBy 11 = .ok (.invokevirtual 69, 3) := by decide +kernel
theorem dX3_heldBy_14 : decode cX3_heldBy 14 = .ok (.iadd, 1) := by decide +kernel
theorem dX3_heldBy_15 : decode cX3_heldBy 15 = .ok (.aload_n 0, 1) := by decide +kernel
theorem dX3_heldBy_16 : decode cX3_heldBy 16 = .ok (.iload_n 1, 1) := by decide +kernel
theorem dX3_heldBy_17 : decode cX3_heldBy 17 = .ok (.bipush 8, 2) := by decide +kernel
theorem dX3_heldBy_19 : decode cX3_heldBy 19 = .ok (.invokevirtual 69, 3) := by decide +kernel
theorem dX3_heldBy_22 : decode cX3_heldBy 22 = .ok (.iadd, 1) := by decide +kernel
theorem dX3_heldBy_23 : decode cX3_heldBy 23 = .ok (.ireturn, 1) := by decide +kernel
theorem dX3_current_0 : decode cX3_current 0 = .ok (.bipush 6, 2) := by decide +kernel
theorem dX3_current_2 : decode cX3_current 2 = .ok (.aload_n 0, 1) := by decide +kernel
theorem dX3_current_3 : decode cX3_current 3 = .ok (.iload_n 1, 1) := by decide +kernel
theorem dX3_current_4 : decode cX3_current 4 = .ok (.iconst 5, 1) := by decide +kernel
theorem dX3_current_5 : decode cX3_current 5 = .ok (.invokevirtual 69, 3) := by decide +kernel
theorem dX3_current_8 : decode cX3_current 8 = .ok (.iadd, 1) := by decide +kernel
theorem dX3_current_9 : decode cX3_current 9 = .ok (.iconst 1, 1) := by decide +kernel
theorem dX3_current_10 : decode cX3_current 10 = .ok (.isub, 1) := by decide +kernel
theorem dX3_current_11 : decode cX3_current 11 = .ok (.ireturn, 1) := by decide +kernel
theorem dX3_pop_0 : decode cX3_pop 0 = .ok (.aload_n 0, 1) := by decide +kernel
theorem dX3_pop_1 : decode cX3_pop 1 = .ok (.iload_n 1, 1) := by decide +kernel
theorem dX3_pop_2 : decode cX3_pop 2 = .ok (.invokevirtual 73, 3) := by decide +kernel
theorem dX3_pop_5 : decode cX3_pop 5 = .ok (.istore_n 2, 1) := by decide +kernel
theorem dX3_pop_6 : decode cX3_pop 6 = .ok (.aload_n 0, 1) := by decide +kernel
theorem dX3_pop_7 : decode cX3_pop 7 = .ok (.iload_n 1, 1) := by decide +kernel
theorem dX3_pop_8 : decode cX3_pop 8 = .ok (.iload_n 2, 1) := by decide +kernel
theorem dX3_pop_9 : decode cX3_pop 9 = .ok (.invokevirtual 69, 3) := by decide +kernel
theorem dX3_pop_12 : decode cX3_pop 12 = .ok (.ifCond .ne 5, 3) := by decide +kernel
theorem dX3_pop_15 : decode cX3_pop 15 = .ok (.iconst 0, 1) := by decide +kernel
theorem dX3_pop_16 : decode cX3_pop 16 = .ok (.ireturn, 1) := by decide +kernel
theorem dX3_pop_17 : decode cX3_pop 17 = .ok (.bipush 9, 2) := by decide +kernel
theorem dX3_pop_19 : decode cX3_pop 19 = .ok (.aload_n 0, 1) := by decide +kernel
theorem dX3_pop_20 : decode cX3_pop 20 = .ok (.iload_n 1, 1) := by decide +kernel
theorem dX3_pop_21 : decode cX3_pop 21 = .ok (.invokevirtual 77, 3) := by decide +kernel
theorem dX3_pop_24 : decode cX3_pop 24 = .ok (.iadd, 1) := by decide +kernel
theorem dX3_pop_25 : decode cX3_pop 25 = .ok (.iconst 1, 1) := by decide +kernel
theorem dX3_pop_26 : decode cX3_pop 26 = .ok (.isub, 1) := by decide +kernel
theorem dX3_pop_27 : decode cX3_pop 27 = .ok (.istore_n 3, 1) := by decide +kernel
theorem dX3_pop_28 : decode cX3_pop 28 = .ok (.aload_n 0, 1) := by decide +kernel
theorem dX3_pop_29 : decode cX3_pop 29 = .ok (.iload_n 1, 1) := by decide +kernel
theorem dX3_pop_30 : decode cX3_pop 30 = .ok (.iload_n 3, 1) := by decide +kernel
theorem dX3_pop_31 : decode cX3_pop 31 = .ok (.invokevirtual 69, 3) := by decide +kernel
theorem dX3_pop_34 : decode cX3_pop 34 = .ok (.istore 4, 2) := by decide +kernel
theorem dX3_pop_36 : decode cX3_pop 36 = .ok (.aload_n 0, 1) := by decide +kernel
theorem dX3_pop_37 : decode cX3_pop 37 = .ok (.iload_n 1, 1) := by decide +kernel
theorem dX3_pop_38 : decode cX3_pop 38 = .ok (.iload_n 3, 1) := by decide +kernel
theorem dX3_pop_39 : decode cX3_pop 39 = .ok (.iconst 0, 1) := by decide +kernel
theorem dX3_pop_40 : decode cX3_pop 40 = .ok (.invokevirtual 80, 3) := by decide +kernel
theorem dX3_pop_43 : decode cX3_pop 43 = .ok (.aload_n 0, 1) := by decide +kernel
theorem dX3_pop_44 : decode cX3_pop 44 = .ok (.iload_n 1, 1) := by decide +kernel
theorem dX3_pop_45 : decode cX3_pop 45 = .ok (.iload_n 2, 1) := by decide +kernel
theorem dX3_pop_46 : decode cX3_pop 46 = .ok (.aload_n 0, 1) := by decide +kernel
theorem dX3_pop_47 : decode cX3_pop 47 = .ok (.iload_n 1, 1) := by decide +kernel
theorem dX3_pop_48 : decode cX3_pop 48 = .ok (.iload_n 2, 1) := by decide +kernel
theorem dX3_pop_49 : decode cX3_pop 49 = .ok (.invokevirtual 69, 3) := by decide +kernel
theorem dX3_pop_52 : decode cX3_pop 52 = .ok (.iconst 1, 1) := by decide +kernel
theorem dX3_pop_53 : decode cX3_pop 53 = .ok (.isub, 1) := by decide +kernel
theorem dX3_pop_54 : decode cX3_pop 54 = .ok (.invokevirtual 80, 3) := by decide +kernel
theorem dX3_pop_57 : decode cX3_pop 57 = .ok (.iload 4, 2) := by decide +kernel
theorem dX3_pop_59 : decode cX3_pop 59 = .ok (.ireturn, 1) := by decide +kernel
theorem dX3_push_0 : decode cX3_push 0 = .ok (.aload_n 0, 1) := by decide +kernel
theorem dX3_push_1 : decode cX3_push 1 = .ok (.iload_n 1, 1) := by decide +kernel
theorem dX3_push_2 : decode cX3_push 2 = .ok (.invokevirtual 77, 3) := by decide +kernel
theorem dX3_push_5 : decode cX3_push 5 = .ok (.istore_n 3, 1) := by decide +kernel
theorem dX3_push_6 : decode cX3_push 6 = .ok (.iload_n 3, 1) := by decide +kernel
theorem dX3_push_7 : decode cX3_push 7 = .ok (.bipush 16, 2) := by decide +kernel
theorem dX3_push_9 : decode cX3_push 9 = .ok (.if_icmp .ne 11, 3) := by decide +kernel
theorem dX3_push_12 : decode cX3_push 12 = .ok (.aload_n 0, 1) := by decide +kernel
theorem dX3_push_13 : decode cX3_push 13 = .ok (.iload_n 1, 1) := by decide +kernel
theorem dX3_push_14 : decode cX3_push 14 = .ok (.iconst 3, 1) := by decide +kernel
theorem dX3_push_15 : decode cX3_push 15 = .ok (.iconst 2, 1) := by decide +kernel
theorem dX3_push_16 : decode cX3_push 16 = .ok (.invokevirtual 80, 3) := by decide +kernel
theorem dX3_push_19 : decode cX3_push 19 = .ok (.return_, 1) := by decide +kernel
theorem dX3_push_20 : decode cX3_push 20 = .ok (.aload_n 0, 1) := by decide +kernel
theorem dX3_push_21 : decode cX3_push 21 = .ok (.iload_n 1, 1) := by decide +kernel
theorem dX3_push_22 : decode cX3_push 22 = .ok (.bipush 9, 2) := by decide +kernel
theorem dX3_push_24 : decode cX3_push 24 = .ok (.iload_n 3, 1) := by decide +kernel
theorem dX3_push_25 : decode cX3_push 25 = .ok (.iadd, 1) := by decide +kernel
theorem dX3_push_26 : decode cX3_push 26 = .ok (.iload_n 2, 1) := by decide +kernel
theorem dX3_push_27 : decode cX3_push 27 = .ok (.invokevirtual 80, 3) := by decide +kernel
theorem dX3_push_30 : decode cX3_push 30 = .ok (.aload_n 0, 1) := by decide +kernel
theorem dX3_push_31 : decode cX3_push 31 = .ok (.iload_n 1, 1) := by decide +kernel
theorem dX3_push_32 : decode cX3_push 32 = .ok (.aload_n 0, 1) := by decide +kernel
theorem dX3_push_33 : decode cX3_push 33 = .ok (.iload_n 1, 1) := by decide +kernel
theorem dX3_push_34 : decode cX3_push 34 = .ok (.invokevirtual 73, 3) := by decide +kernel
theorem dX3_push_37 : decode cX3_push 37 = .ok (.aload_n 0, 1) := by decide +kernel
theorem dX3_push_38 : decode cX3_push 38 = .ok (.iload_n 1, 1) := by decide +kernel
theorem dX3_push_39 : decode cX3_push 39 = .ok (.aload_n 0, 1) := by decide +kernel
theorem dX3_push_40 : decode cX3_push 40 = .ok (.iload_n 1, 1) := by decide +kernel
theorem dX3_push_41 : decode cX3_push 41 = .ok (.invokevirtual 73, 3) := by decide +kernel
theorem dX3_push_44 : decode cX3_push 44 = .ok (.invokevirtual 69, 3) := by decide +kernel
theorem dX3_push_47 : decode cX3_push 47 = .ok (.iconst 1, 1) := by decide +kernel
theorem dX3_push_48 : decode cX3_push 48 = .ok (.iadd, 1) := by decide +kernel
theorem dX3_push_49 : decode cX3_push 49 = .ok (.invokevirtual 80, 3) := by decide +kernel
theorem dX3_push_52 : decode cX3_push 52 = .ok (.return_, 1) := by decide +kernel
theorem dX3_modulo_0 : decode cX3_modulo 0 = .ok (.iload_n 0, 1) := by decide +kernel
theorem dX3_modulo_1 : decode cX3_modulo 1 = .ok (.iload_n 1, 1) := by decide +kernel
theorem dX3_modulo_2 : decode cX3_modulo 2 = .ok (.irem, 1) := by decide +kernel
theorem dX3_modulo_3 : decode cX3_modulo 3 = .ok (.istore_n 2, 1) := by decide +kernel
theorem dX3_modulo_4 : decode cX3_modulo 4 = .ok (.iload_n 2, 1) := by decide +kernel
theorem dX3_modulo_5 : decode cX3_modulo 5 = .ok (.ifCond .ge 9, 3) := by decide +kernel
theorem dX3_modulo_8 : decode cX3_modulo 8 = .ok (.iload_n 2, 1) := by decide +kernel
theorem dX3_modulo_9 : decode cX3_modulo 9 = .ok (.iload_n 1, 1) := by decide +kernel
theorem dX3_modulo_10 : decode cX3_modulo 10 = .ok (.iadd, 1) := by decide +kernel
theorem dX3_modulo_11 : decode cX3_modulo 11 = .ok (.goto 4, 3) := by decide +kernel
theorem dX3_modulo_14 : decode cX3_modulo 14 = .ok (.iload_n 2, 1) := by decide +kernel
theorem dX3_modulo_15 : decode cX3_modulo 15 = .ok (.ireturn, 1) := by decide +kernel
theorem dX3_move_0 : decode cX3_move 0 = .ok (.aload_n 0, 1) := by decide +kernel
theorem dX3_move_1 : decode cX3_move 1 = .ok (.iload_n 1, 1) := by decide +kernel
theorem dX3_move_2 : decode cX3_move 2 = .ok (.iconst 2, 1) := by decide +kernel
theorem dX3_move_3 : decode cX3_move 3 = .ok (.invokevirtual 69, 3) := by decide +kernel
theorem dX3_move_6 : decode cX3_move 6 = .ok (.istore_n 2, 1) := by decide +kernel
theorem dX3_move_7 : decode cX3_move 7 = .ok (.iload_n 2, 1) := by decide +kernel
theorem dX3_move_8 : decode cX3_move 8 = .ok (.ifCond .ne 7, 3) := by decide +kernel
theorem dX3_move_11 : decode cX3_move 11 = .ok (.iconst 1, 1) := by decide +kernel
theorem dX3_move_12 : decode cX3_move 12 = .ok (.goto 14, 3) := by decide +kernel
theorem dX3_move_15 : decode cX3_move 15 = .ok (.iload_n 2, 1) := by decide +kernel
theorem dX3_move_16 : decode cX3_move 16 = .ok (.iconst 2, 1) := by decide +kernel
theorem dX3_move_17 : decode cX3_move 17 = .ok (.if_icmp .ne 8, 3) := by decide +kernel
theorem dX3_move_20 : decode cX3_move 20 = .ok (.bipush 11, 2) := by decide +kernel
theorem dX3_move_22 : decode cX3_move 22 = .ok (.goto 4, 3) := by decide +kernel
theorem dX3_move_25 : decode cX3_move 25 = .ok (.iconst 0, 1) := by decide +kernel
theorem dX3_move_26 : decode cX3_move 26 = .ok (.istore_n 3, 1) := by decide +kernel
theorem dX3_move_27 : decode cX3_move 27 = .ok (.iload_n 2, 1) := by decide +kernel
theorem dX3_move_28 : decode cX3_move 28 = .ok (.iconst 1, 1) := by decide +kernel
theorem dX3_move_29 : decode cX3_move 29 = .ok (.if_icmp .ne 7, 3) := by decide +kernel
theorem dX3_move_32 : decode cX3_move 32 = .ok (.iconst 1, 1) := by decide +kernel
theorem dX3_move_33 : decode cX3_move 33 = .ok (.goto 13, 3) := by decide +kernel
theorem dX3_move_36 : decode cX3_move 36 = .ok (.iload_n 2, 1) := by decide +kernel
theorem dX3_move_37 : decode cX3_move 37 = .ok (.iconst 3, 1) := by decide +kernel
theorem dX3_move_38 : decode cX3_move 38 = .ok (.if_icmp .ne 7, 3) := by decide +kernel
theorem dX3_move_41 : decode cX3_move 41 = .ok (.iconst 5, 1) := by decide +kernel
theorem dX3_move_42 : decode cX3_move 42 = .ok (.goto 4, 3) := by decide +kernel
theorem dX3_move_45 : decode cX3_move 45 = .ok (.iconst 0, 1) := by decide +kernel
theorem dX3_move_46 : decode cX3_move 46 = .ok (.istore 4, 2) := by decide +kernel
theorem dX3_move_48 : decode cX3_move 48 = .ok (.aload_n 0, 1) := by decide +kernel
theorem dX3_move_49 : decode cX3_move 49 = .ok (.iload_n 1, 1) := by decide +kernel
theorem dX3_move_50 : decode cX3_move 50 = .ok (.iconst 0, 1) := by decide +kernel
theorem dX3_move_51 : decode cX3_move 51 = .ok (.aload_n 0, 1) := by decide +kernel
theorem dX3_move_52 : decode cX3_move 52 = .ok (.iload_n 1, 1) := by decide +kernel
theorem dX3_move_53 : decode cX3_move 53 = .ok (.iconst 0, 1) := by decide +kernel
theorem dX3_move_54 : decode cX3_move 54 = .ok (.invokevirtual 69, 3) := by decide +kernel
theorem dX3_move_57 : decode cX3_move 57 = .ok (.iload_n 3, 1) := by decide +kernel
theorem dX3_move_58 : decode cX3_move 58 = .ok (.iadd, 1) := by decide +kernel
theorem dX3_move_59 : decode cX3_move 59 = .ok (.bipush 12, 2) := by decide +kernel
theorem dX3_move_61 : decode cX3_move 61 = .ok (.irem, 1) := by decide +kernel
theorem dX3_move_62 : decode cX3_move 62 = .ok (.invokevirtual 80, 3) := by decide +kernel
theorem dX3_move_65 : decode cX3_move 65 = .ok (.aload_n 0, 1) := by decide +kernel
theorem dX3_move_66 : decode cX3_move 66 = .ok (.iload_n 1, 1) := by decide +kernel
theorem dX3_move_67 : decode cX3_move 67 = .ok (.iconst 1, 1) := by decide +kernel
theorem dX3_move_68 : decode cX3_move 68 = .ok (.aload_n 0, 1) := by decide +kernel
theorem dX3_move_69 : decode cX3_move 69 = .ok (.iload_n 1, 1) := by decide +kernel
theorem dX3_move_70 : decode cX3_move 70 = .ok (.iconst 1, 1) := by decide +kernel
theorem dX3_move_71 : decode cX3_move 71 = .ok (.invokevirtual 69, 3) := by decide +kernel
theorem dX3_move_74 : decode cX3_move 74 = .ok (.iload 4, 2) := by decide +kernel
theorem dX3_move_76 : decode cX3_move 76 = .ok (.iadd, 1) := by decide +kernel
theorem dX3_move_77 : decode cX3_move 77 = .ok (.bipush 6, 2) := by decide +kernel
theorem dX3_move_79 : decode cX3_move 79 = .ok (.irem, 1) := by decide +kernel
theorem dX3_move_80 : decode cX3_move 80 = .ok (.invokevirtual 80, 3) := by decide +kernel
theorem dX3_move_83 : decode cX3_move 83 = .ok (.return_, 1) := by decide +kernel
theorem dX3_turn_0 : decode cX3_turn 0 = .ok (.aload_n 0, 1) := by decide +kernel
theorem dX3_turn_1 : decode cX3_turn 1 = .ok (.iload_n 1, 1) := by decide +kernel
theorem dX3_turn_2 : decode cX3_turn 2 = .ok (.iconst 2, 1) := by decide +kernel
theorem dX3_turn_3 : decode cX3_turn 3 = .ok (.aload_n 0, 1) := by decide +kernel
theorem dX3_turn_4 : decode cX3_turn 4 = .ok (.iload_n 1, 1) := by decide +kernel
theorem dX3_turn_5 : decode cX3_turn 5 = .ok (.iconst 2, 1) := by decide +kernel
theorem dX3_turn_6 : decode cX3_turn 6 = .ok (.invokevirtual 69, 3) := by decide +kernel
theorem dX3_turn_9 : decode cX3_turn 9 = .ok (.iload_n 2, 1) := by decide +kernel
theorem dX3_turn_10 : decode cX3_turn 10 = .ok (.iadd, 1) := by decide +kernel
theorem dX3_turn_11 : decode cX3_turn 11 = .ok (.iconst 4, 1) := by decide +kernel
theorem dX3_turn_12 : decode cX3_turn 12 = .ok (.irem, 1) := by decide +kernel
theorem dX3_turn_13 : decode cX3_turn 13 = .ok (.invokevirtual 80, 3) := by decide +kernel
theorem dX3_turn_16 : decode cX3_turn 16 = .ok (.return_, 1) := by decide +kernel
theorem dX3_cell_0 : decode cX3_cell 0 = .ok (.bipush 72, 2) := by decide +kernel
theorem dX3_cell_2 : decode cX3_cell 2 = .ok (.bipush 12, 2) := by decide +kernel
theorem dX3_cell_4 : decode cX3_cell 4 = .ok (.iload_n 1, 1) := by decide +kernel
theorem dX3_cell_5 : decode cX3_cell 5 = .ok (.bipush 6, 2) := by decide +kernel
theorem dX3_cell_7 : decode cX3_cell 7 = .ok (.invokestatic 84, 3) := by decide +kernel
theorem dX3_cell_10 : decode cX3_cell 10 = .ok (.imul, 1) := by decide +kernel
theorem dX3_cell_11 : decode cX3_cell 11 = .ok (.iadd, 1) := by decide +kernel
theorem dX3_cell_12 : decode cX3_cell 12 = .ok (.iload_n 0, 1) := by decide +kernel
theorem dX3_cell_13 : decode cX3_cell 13 = .ok (.bipush 12, 2) := by decide +kernel
theorem dX3_cell_15 : decode cX3_cell 15 = .ok (.invokestatic 84, 3) := by decide +kernel
theorem dX3_cell_18 : decode cX3_cell 18 = .ok (.iadd, 1) := by decide +kernel
theorem dX3_cell_19 : decode cX3_cell 19 = .ok (.ireturn, 1) := by decide +kernel
theorem dX3_operate_0 : decode cX3_operate 0 = .ok (.iload_n 0, 1) := by decide +kernel
theorem dX3_operate_1 : decode cX3_operate 1 = .ok (.tableswitch 95 37 47 #[83, 95, 95, 95, 95, 67, 59, 95, 63, 95, 71], 59) := by decide +kernel
theorem dX3_operate_60 : decode cX3_operate 60 = .ok (.iload_n 1, 1) := by decide +kernel
theorem dX3_operate_61 : decode cX3_operate 61 = .ok (.iload_n 2, 1) := by decide +kernel
theorem dX3_operate_62 : decode cX3_operate 62 = .ok (.iadd, 1) := by decide +kernel
theorem dX3_operate_63 : decode cX3_operate 63 = .ok (.ireturn, 1) := by decide +kernel
theorem dX3_operate_64 : decode cX3_operate 64 = .ok (.iload_n 1, 1) := by decide +kernel
theorem dX3_operate_65 : decode cX3_operate 65 = .ok (.iload_n 2, 1) := by decide +kernel
theorem dX3_operate_66 : decode cX3_operate 66 = .ok (.isub, 1) := by decide +kernel
theorem dX3_operate_67 : decode cX3_operate 67 = .ok (.ireturn, 1) := by decide +kernel
theorem dX3_operate_68 : decode cX3_operate 68 = .ok (.iload_n 1, 1) := by decide +kernel
theorem dX3_operate_69 : decode cX3_operate 69 = .ok (.iload_n 2, 1) := by decide +kernel
theorem dX3_operate_70 : decode cX3_operate 70 = .ok (.imul, 1) := by decide +kernel
theorem dX3_operate_71 : decode cX3_operate 71 = .ok (.ireturn, 1) := by decide +kernel
theorem dX3_operate_72 : decode cX3_operate 72 = .ok (.iload_n 2, 1) := by decide +kernel
theorem dX3_operate_73 : decode cX3_operate 73 = .ok (.ifCond .ne 7, 3) := by decide +kernel
theorem dX3_operate_76 : decode cX3_operate 76 = .ok (.iconst 0, 1) := by decide +kernel
theorem dX3_operate_77 : decode cX3_operate 77 = .ok (.goto 6, 3) := by decide +kernel
theorem dX3_operate_80 : decode cX3_operate 80 = .ok (.iload_n 1, 1) := by decide +kernel
theorem dX3_operate_81 : decode cX3_operate 81 = .ok (.iload_n 2, 1) := by decide +kernel
theorem dX3_operate_82 : decode cX3_operate 82 = .ok (.idiv, 1) := by decide +kernel
theorem dX3_operate_83 : decode cX3_operate 83 = .ok (.ireturn, 1) := by decide +kernel
theorem dX3_operate_84 : decode cX3_operate 84 = .ok (.iload_n 2, 1) := by decide +kernel
theorem dX3_operate_85 : decode cX3_operate 85 = .ok (.ifCond .ne 7, 3) := by decide +kernel
theorem dX3_operate_88 : decode cX3_operate 88 = .ok (.iconst 0, 1) := by decide +kernel
theorem dX3_operate_89 : decode cX3_operate 89 = .ok (.goto 6, 3) := by decide +kernel
theorem dX3_operate_92 : decode cX3_operate 92 = .ok (.iload_n 1, 1) := by decide +kernel
theorem dX3_operate_93 : decode cX3_operate 93 = .ok (.iload_n 2, 1) := by decide +kernel
theorem dX3_operate_94 : decode cX3_operate 94 = .ok (.irem, 1) := by decide +kernel
theorem dX3_operate_95 : decode cX3_operate 95 = .ok (.ireturn, 1) := by decide +kernel
theorem dX3_operate_96 : decode cX3_operate 96 = .ok (.iload_n 1, 1) := by decide +kernel
theorem dX3_operate_97 : decode cX3_operate 97 = .ok (.iload_n 2, 1) := by decide +kernel
theorem dX3_operate_98 : decode cX3_operate 98 = .ok (.if_icmp .le 7, 3) := by decide +kernel
theorem dX3_operate_101 : decode cX3_operate 101 = .ok (.iconst 1, 1) := by decide +kernel
theorem dX3_operate_102 : decode cX3_operate 102 = .ok (.goto 4, 3) := by decide +kernel
theorem dX3_operate_105 : decode cX3_operate 105 = .ok (.iconst 0, 1) := by decide +kernel
theorem dX3_operate_106 : decode cX3_operate 106 = .ok (.ireturn, 1) := by decide +kernel
theorem dX3_clamp_0 : decode cX3_clamp 0 = .ok (.iload_n 0, 1) := by decide +kernel
theorem dX3_clamp_1 : decode cX3_clamp 1 = .ok (.ifCond .ge 7, 3) := by decide +kernel
theorem dX3_clamp_4 : decode cX3_clamp 4 = .ok (.iconst 0, 1) := by decide +kernel
theorem dX3_clamp_5 : decode cX3_clamp 5 = .ok (.goto 13, 3) := by decide +kernel
theorem dX3_clamp_8 : decode cX3_clamp 8 = .ok (.iload_n 0, 1) := by decide +kernel
theorem dX3_clamp_9 : decode cX3_clamp 9 = .ok (.iload_n 1, 1) := by decide +kernel
theorem dX3_clamp_10 : decode cX3_clamp 10 = .ok (.if_icmp .le 7, 3) := by decide +kernel
theorem dX3_clamp_13 : decode cX3_clamp 13 = .ok (.iload_n 1, 1) := by decide +kernel
theorem dX3_clamp_14 : decode cX3_clamp 14 = .ok (.goto 4, 3) := by decide +kernel
theorem dX3_clamp_17 : decode cX3_clamp 17 = .ok (.iload_n 0, 1) := by decide +kernel
theorem dX3_clamp_18 : decode cX3_clamp 18 = .ok (.ireturn, 1) := by decide +kernel
theorem dX3_openStack_0 : decode cX3_openStack 0 = .ok (.aload_n 0, 1) := by decide +kernel
theorem dX3_openStack_1 : decode cX3_openStack 1 = .ok (.iload_n 1, 1) := by decide +kernel
theorem dX3_openStack_2 : decode cX3_openStack 2 = .ok (.invokevirtual 87, 3) := by decide +kernel
theorem dX3_openStack_5 : decode cX3_openStack 5 = .ok (.istore_n 2, 1) := by decide +kernel
theorem dX3_openStack_6 : decode cX3_openStack 6 = .ok (.aload_n 0, 1) := by decide +kernel
theorem dX3_openStack_7 : decode cX3_openStack 7 = .ok (.iload_n 1, 1) := by decide +kernel
theorem dX3_openStack_8 : decode cX3_openStack 8 = .ok (.iconst 5, 1) := by decide +kernel
theorem dX3_openStack_9 : decode cX3_openStack 9 = .ok (.invokevirtual 69, 3) := by decide +kernel
theorem dX3_openStack_12 : decode cX3_openStack 12 = .ok (.iconst 3, 1) := by decide +kernel
theorem dX3_openStack_13 : decode cX3_openStack 13 = .ok (.if_icmp .ne 4, 3) := by decide +kernel
theorem dX3_openStack_16 : decode cX3_openStack 16 = .ok (.return_, 1) := by decide +kernel
theorem dX3_openStack_17 : decode cX3_openStack 17 = .ok (.aload_n 0, 1) := by decide +kernel
theorem dX3_openStack_18 : decode cX3_openStack 18 = .ok (.iload_n 1, 1) := by decide +kernel
theorem dX3_openStack_19 : decode cX3_openStack 19 = .ok (.invokevirtual 73, 3) := by decide +kernel
theorem dX3_openStack_22 : decode cX3_openStack 22 = .ok (.istore_n 3, 1) := by decide +kernel
theorem dX3_openStack_23 : decode cX3_openStack 23 = .ok (.iload_n 2, 1) := by decide +kernel
theorem dX3_openStack_24 : decode cX3_openStack 24 = .ok (.aload_n 0, 1) := by decide +kernel
theorem dX3_openStack_25 : decode cX3_openStack 25 = .ok (.iload_n 1, 1) := by decide +kernel
theorem dX3_openStack_26 : decode cX3_openStack 26 = .ok (.iload_n 3, 1) := by decide +kernel
theorem dX3_openStack_27 : decode cX3_openStack 27 = .ok (.invokevirtual 69, 3) := by decide +kernel
theorem dX3_openStack_30 : decode cX3_openStack 30 = .ok (.invokestatic 90, 3) := by decide +kernel
theorem dX3_openStack_33 : decode cX3_openStack 33 = .ok (.istore 4, 2) := by decide +kernel
theorem dX3_openStack_35 : decode cX3_openStack 35 = .ok (.aload_n 0, 1) := by decide +kernel
theorem dX3_openStack_36 : decode cX3_openStack 36 = .ok (.iload_n 1, 1) := by decide +kernel
theorem dX3_openStack_37 : decode cX3_openStack 37 = .ok (.iload_n 3, 1) := by decide +kernel
theorem dX3_openStack_38 : decode cX3_openStack 38 = .ok (.aload_n 0, 1) := by decide +kernel
theorem dX3_openStack_39 : decode cX3_openStack 39 = .ok (.iload_n 1, 1) := by decide +kernel
theorem dX3_openStack_40 : decode cX3_openStack 40 = .ok (.iload_n 3, 1) := by decide +kernel
theorem dX3_openStack_41 : decode cX3_openStack 41 = .ok (.invokevirtual 69, 3) := by decide +kernel
theorem dX3_openStack_44 : decode cX3_openStack 44 = .ok (.iload 4, 2) := by decide +kernel
theorem dX3_openStack_46 : decode cX3_openStack 46 = .ok (.isub, 1) := by decide +kernel
theorem dX3_openStack_47 : decode cX3_openStack 47 = .ok (.invokevirtual 80, 3) := by decide +kernel
theorem dX3_openStack_50 : decode cX3_openStack 50 = .ok (.aload_n 0, 1) := by decide +kernel
theorem dX3_openStack_51 : decode cX3_openStack 51 = .ok (.iload_n 1, 1) := by decide +kernel
theorem dX3_openStack_52 : decode cX3_openStack 52 = .ok (.iload_n 3, 1) := by decide +kernel
theorem dX3_openStack_53 : decode cX3_openStack 53 = .ok (.iconst 1, 1) := by decide +kernel
theorem dX3_openStack_54 : decode cX3_openStack 54 = .ok (.iadd, 1) := by decide +kernel
theorem dX3_openStack_55 : decode cX3_openStack 55 = .ok (.iload 4, 2) := by decide +kernel
theorem dX3_openStack_57 : decode cX3_openStack 57 = .ok (.invokevirtual 80, 3) := by decide +kernel
theorem dX3_openStack_60 : decode cX3_openStack 60 = .ok (.aload_n 0, 1) := by decide +kernel
theorem dX3_openStack_61 : decode cX3_openStack 61 = .ok (.iload_n 1, 1) := by decide +kernel
theorem dX3_openStack_62 : decode cX3_openStack 62 = .ok (.iconst 5, 1) := by decide +kernel
theorem dX3_openStack_63 : decode cX3_openStack 63 = .ok (.aload_n 0, 1) := by decide +kernel
theorem dX3_openStack_64 : decode cX3_openStack 64 = .ok (.iload_n 1, 1) := by decide +kernel
theorem dX3_openStack_65 : decode cX3_openStack 65 = .ok (.iconst 5, 1) := by decide +kernel
theorem dX3_openStack_66 : decode cX3_openStack 66 = .ok (.invokevirtual 69, 3) := by decide +kernel
theorem dX3_openStack_69 : decode cX3_openStack 69 = .ok (.iconst 1, 1) := by decide +kernel
theorem dX3_openStack_70 : decode cX3_openStack 70 = .ok (.iadd, 1) := by decide +kernel
theorem dX3_openStack_71 : decode cX3_openStack 71 = .ok (.invokevirtual 80, 3) := by decide +kernel
theorem dX3_openStack_74 : decode cX3_openStack 74 = .ok (.return_, 1) := by decide +kernel
theorem dX3_closeStack_0 : decode cX3_closeStack 0 = .ok (.aload_n 0, 1) := by decide +kernel
theorem dX3_closeStack_1 : decode cX3_closeStack 1 = .ok (.iload_n 1, 1) := by decide +kernel
theorem dX3_closeStack_2 : decode cX3_closeStack 2 = .ok (.iconst 5, 1) := by decide +kernel
theorem dX3_closeStack_3 : decode cX3_closeStack 3 = .ok (.invokevirtual 69, 3) := by decide +kernel
theorem dX3_closeStack_6 : decode cX3_closeStack 6 = .ok (.iconst 1, 1) := by decide +kernel
theorem dX3_closeStack_7 : decode cX3_closeStack 7 = .ok (.if_icmp .ne 10, 3) := by decide +kernel
theorem dX3_closeStack_10 : decode cX3_closeStack 10 = .ok (.aload_n 0, 1) := by decide +kernel
theorem dX3_closeStack_11 : decode cX3_closeStack 11 = .ok (.iload_n 1, 1) := by decide +kernel
theorem dX3_closeStack_12 : decode cX3_closeStack 12 = .ok (.iconst 2, 1) := by decide +kernel
theorem dX3_closeStack_13 : decode cX3_closeStack 13 = .ok (.invokevirtual 93, 3) := by decide +kernel
theorem dX3_closeStack_16 : decode cX3_closeStack 16 = .ok (.return_, 1) := by decide +kernel
theorem dX3_closeStack_17 : decode cX3_closeStack 17 = .ok (.aload_n 0, 1) := by decide +kernel
theorem dX3_closeStack_18 : decode cX3_closeStack 18 = .ok (.iload_n 1, 1) := by decide +kernel
theorem dX3_closeStack_19 : decode cX3_closeStack 19 = .ok (.invokevirtual 87, 3) := by decide +kernel
theorem dX3_closeStack_22 : decode cX3_closeStack 22 = .ok (.istore_n 2, 1) := by decide +kernel
theorem dX3_closeStack_23 : decode cX3_closeStack 23 = .ok (.aload_n 0, 1) := by decide +kernel
theorem dX3_closeStack_24 : decode cX3_closeStack 24 = .ok (.iload_n 1, 1) := by decide +kernel
theorem dX3_closeStack_25 : decode cX3_closeStack 25 = .ok (.invokevirtual 73, 3) := by decide +kernel
theorem dX3_closeStack_28 : decode cX3_closeStack 28 = .ok (.istore_n 3, 1) := by decide +kernel
theorem dX3_closeStack_29 : decode cX3_closeStack 29 = .ok (.iload_n 2, 1) := by decide +kernel
theorem dX3_closeStack_30 : decode cX3_closeStack 30 = .ok (.aload_n 0, 1) := by decide +kernel
theorem dX3_closeStack_31 : decode cX3_closeStack 31 = .ok (.iload_n 1, 1) := by decide +kernel
theorem dX3_closeStack_32 : decode cX3_closeStack 32 = .ok (.iload_n 3, 1) := by decide +kernel
theorem dX3_closeStack_33 : decode cX3_closeStack 33 = .ok (.invokevirtual 69, 3) := by decide +kernel
theorem dX3_closeStack_36 : decode cX3_closeStack 36 = .ok (.invokestatic 90, 3) := by decide +kernel
theorem dX3_closeStack_39 : decode cX3_closeStack 39 = .ok (.istore 4, 2) := by decide +kernel
theorem dX3_closeStack_41 : decode cX3_closeStack 41 = .ok (.aload_n 0, 1) := by decide +kernel
theorem dX3_closeStack_42 : decode cX3_closeStack 42 = .ok (.iload_n 1, 1) := by decide +kernel
theorem dX3_closeStack_43 : decode cX3_closeStack 43 = .ok (.iload_n 3, 1) := by decide +kernel
theorem dX3_closeStack_44 : decode cX3_closeStack 44 = .ok (.invokevirtual 69, 3) := by decide +kernel
theorem dX3_closeStack_47 : decode cX3_closeStack 47 = .ok (.iload 4, 2) := by decide +kernel
theorem dX3_closeStack_49 : decode cX3_closeStack 49 = .ok (.isub, 1) := by decide +kernel
theorem dX3_closeStack_50 : decode cX3_closeStack 50 = .ok (.istore 5, 2) := by decide +kernel
theorem dX3_closeStack_52 : decode cX3_closeStack 52 = .ok (.bipush 9, 2) := by decide +kernel
theorem dX3_closeStack_54 : decode cX3_closeStack 54 = .ok (.aload_n 0, 1) := by decide +kernel
theorem dX3_closeStack_55 : decode cX3_closeStack 55 = .ok (.iload_n 1, 1) := by decide +kernel
theorem dX3_closeStack_56 : decode cX3_closeStack 56 = .ok (.invokevirtual 77, 3) := by decide +kernel
theorem dX3_closeStack_59 : decode cX3_closeStack 59 = .ok (.iadd, 1) := by decide +kernel
theorem dX3_closeStack_60 : decode cX3_closeStack 60 = .ok (.istore 6, 2) := by decide +kernel
theorem dX3_closeStack_62 : decode cX3_closeStack 62 = .ok (.iload 6, 2) := by decide +kernel
theorem dX3_closeStack_64 : decode cX3_closeStack 64 = .ok (.iload 4, 2) := by decide +kernel
theorem dX3_closeStack_66 : decode cX3_closeStack 66 = .ok (.isub, 1) := by decide +kernel
theorem dX3_closeStack_67 : decode cX3_closeStack 67 = .ok (.istore 7, 2) := by decide +kernel
theorem dX3_closeStack_69 : decode cX3_closeStack 69 = .ok (.iload 7, 2) := by decide +kernel
theorem dX3_closeStack_71 : decode cX3_closeStack 71 = .ok (.iload 6, 2) := by decide +kernel
theorem dX3_closeStack_73 : decode cX3_closeStack 73 = .ok (.if_icmp .ge 26, 3) := by decide +kernel
theorem dX3_closeStack_76 : decode cX3_closeStack 76 = .ok (.aload_n 0, 1) := by decide +kernel
theorem dX3_closeStack_77 : decode cX3_closeStack 77 = .ok (.iload_n 1, 1) := by decide +kernel
theorem dX3_closeStack_78 : decode cX3_closeStack 78 = .ok (.iload 7, 2) := by decide +kernel
theorem dX3_closeStack_80 : decode cX3_closeStack 80 = .ok (.iload 5, 2) := by decide +kernel
theorem dX3_closeStack_82 : decode cX3_closeStack 82 = .ok (.isub, 1) := by decide +kernel
theorem dX3_closeStack_83 : decode cX3_closeStack 83 = .ok (.aload_n 0, 1) := by decide +kernel
theorem dX3_closeStack_84 : decode cX3_closeStack 84 = .ok (.iload_n 1, 1) := by decide +kernel
theorem dX3_closeStack_85 : decode cX3_closeStack 85 = .ok (.iload 7, 2) := by decide +kernel
theorem dX3_closeStack_87 : decode cX3_closeStack 87 = .ok (.invokevirtual 69, 3) := by decide +kernel
theorem dX3_closeStack_90 : decode cX3_closeStack 90 = .ok (.invokevirtual 80, 3) := by decide +kernel
theorem dX3_closeStack_93 : decode cX3_closeStack 93 = .ok (.iinc 7 1, 3) := by decide +kernel
theorem dX3_closeStack_96 : decode cX3_closeStack 96 = .ok (.goto (-27), 3) := by decide +kernel
theorem dX3_closeStack_99 : decode cX3_closeStack 99 = .ok (.iload 6, 2) := by decide +kernel
theorem dX3_closeStack_101 : decode cX3_closeStack 101 = .ok (.iload 5, 2) := by decide +kernel
theorem dX3_closeStack_103 : decode cX3_closeStack 103 = .ok (.isub, 1) := by decide +kernel
theorem dX3_closeStack_104 : decode cX3_closeStack 104 = .ok (.istore 7, 2) := by decide +kernel
theorem dX3_closeStack_106 : decode cX3_closeStack 106 = .ok (.iload 7, 2) := by decide +kernel
theorem dX3_closeStack_108 : decode cX3_closeStack 108 = .ok (.iload 6, 2) := by decide +kernel
theorem dX3_closeStack_110 : decode cX3_closeStack 110 = .ok (.if_icmp .ge 17, 3) := by decide +kernel
theorem dX3_closeStack_113 : decode cX3_closeStack 113 = .ok (.aload_n 0, 1) := by decide +kernel
theorem dX3_closeStack_114 : decode cX3_closeStack 114 = .ok (.iload_n 1, 1) := by decide +kernel
theorem dX3_closeStack_115 : decode cX3_closeStack 115 = .ok (.iload 7, 2) := by decide +kernel
theorem dX3_closeStack_117 : decode cX3_closeStack 117 = .ok (.iconst 0, 1) := by decide +kernel
theorem dX3_closeStack_118 : decode cX3_closeStack 118 = .ok (.invokevirtual 80, 3) := by decide +kernel
theorem dX3_closeStack_121 : decode cX3_closeStack 121 = .ok (.iinc 7 1, 3) := by decide +kernel
theorem dX3_closeStack_124 : decode cX3_closeStack 124 = .ok (.goto (-18), 3) := by decide +kernel
theorem dX3_closeStack_127 : decode cX3_closeStack 127 = .ok (.aload_n 0, 1) := by decide +kernel
theorem dX3_closeStack_128 : decode cX3_closeStack 128 = .ok (.iload_n 1, 1) := by decide +kernel
theorem dX3_closeStack_129 : decode cX3_closeStack 129 = .ok (.iload_n 3, 1) := by decide +kernel
theorem dX3_closeStack_130 : decode cX3_closeStack 130 = .ok (.iconst 0, 1) := by decide +kernel
theorem dX3_closeStack_131 : decode cX3_closeStack 131 = .ok (.invokevirtual 80, 3) := by decide +kernel
theorem dX3_closeStack_134 : decode cX3_closeStack 134 = .ok (.aload_n 0, 1) := by decide +kernel
theorem dX3_closeStack_135 : decode cX3_closeStack 135 = .ok (.iload_n 1, 1) := by decide +kernel
theorem dX3_closeStack_136 : decode cX3_closeStack 136 = .ok (.iload_n 3, 1) := by decide +kernel
theorem dX3_closeStack_137 : decode cX3_closeStack 137 = .ok (.iconst 1, 1) := by decide +kernel
theorem dX3_closeStack_138 : decode cX3_closeStack 138 = .ok (.isub, 1) := by decide +kernel
theorem dX3_closeStack_139 : decode cX3_closeStack 139 = .ok (.aload_n 0, 1) := by decide +kernel
theorem dX3_closeStack_140 : decode cX3_closeStack 140 = .ok (.iload_n 1, 1) := by decide +kernel
theorem dX3_closeStack_141 : decode cX3_closeStack 141 = .ok (.iload_n 3, 1) := by decide +kernel
theorem dX3_closeStack_142 : decode cX3_closeStack 142 = .ok (.iconst 1, 1) := by decide +kernel
theorem dX3_closeStack_143 : decode cX3_closeStack 143 = .ok (.isub, 1) := by decide +kernel
theorem dX3_closeStack_144 : decode cX3_closeStack 144 = .ok (.invokevirtual 69, 3) := by decide +kernel
theorem dX3_closeStack_147 : decode cX3_closeStack 147 = .ok (.iload 4, 2) := by decide +kernel
theorem dX3_closeStack_149 : decode cX3_closeStack 149 = .ok (.iadd, 1) := by decide +kernel
theorem dX3_closeStack_150 : decode cX3_closeStack 150 = .ok (.invokevirtual 80, 3) := by decide +kernel
theorem dX3_closeStack_153 : decode cX3_closeStack 153 = .ok (.aload_n 0, 1) := by decide +kernel
theorem dX3_closeStack_154 : decode cX3_closeStack 154 = .ok (.iload_n 1, 1) := by decide +kernel
theorem dX3_closeStack_155 : decode cX3_closeStack 155 = .ok (.iconst 5, 1) := by decide +kernel
theorem dX3_closeStack_156 : decode cX3_closeStack 156 = .ok (.aload_n 0, 1) := by decide +kernel
theorem dX3_closeStack_157 : decode cX3_closeStack 157 = .ok (.iload_n 1, 1) := by decide +kernel
theorem dX3_closeStack_158 : decode cX3_closeStack 158 = .ok (.iconst 5, 1) := by decide +kernel
theorem dX3_closeStack_159 : decode cX3_closeStack 159 = .ok (.invokevirtual 69, 3) := by decide +kernel
theorem dX3_closeStack_162 : decode cX3_closeStack 162 = .ok (.iconst 1, 1) := by decide +kernel
theorem dX3_closeStack_163 : decode cX3_closeStack 163 = .ok (.isub, 1) := by decide +kernel
theorem dX3_closeStack_164 : decode cX3_closeStack 164 = .ok (.invokevirtual 80, 3) := by decide +kernel
theorem dX3_closeStack_167 : decode cX3_closeStack 167 = .ok (.return_, 1) := by decide +kernel
theorem dX3_output_0 : decode cX3_output 0 = .ok (.aload_n 0, 1) := by decide +kernel
theorem dX3_output_1 : decode cX3_output 1 = .ok (.getfield 7, 3) := by decide +kernel
theorem dX3_output_4 : decode cX3_output 4 = .ok (.sipush 267, 3) := by decide +kernel
theorem dX3_output_7 : decode cX3_output 7 = .ok (.iaload, 1) := by decide +kernel
theorem dX3_output_8 : decode cX3_output 8 = .ok (.bipush 20, 2) := by decide +kernel
theorem dX3_output_10 : decode cX3_output 10 = .ok (.if_icmp .ne 51, 3) := by decide +kernel
theorem dX3_output_13 : decode cX3_output 13 = .ok (.iconst 1, 1) := by decide +kernel
theorem dX3_output_14 : decode cX3_output 14 = .ok (.istore_n 2, 1) := by decide +kernel
theorem dX3_output_15 : decode cX3_output 15 = .ok (.iload_n 2, 1) := by decide +kernel
theorem dX3_output_16 : decode cX3_output 16 = .ok (.bipush 20, 2) := by decide +kernel
theorem dX3_output_18 : decode cX3_output 18 = .ok (.if_icmp .ge 31, 3) := by decide +kernel
theorem dX3_output_21 : decode cX3_output 21 = .ok (.aload_n 0, 1) := by decide +kernel
theorem dX3_output_22 : decode cX3_output 22 = .ok (.getfield 7, 3) := by decide +kernel
theorem dX3_output_25 : decode cX3_output 25 = .ok (.sipush 267, 3) := by decide +kernel
theorem dX3_output_28 : decode cX3_output 28 = .ok (.iload_n 2, 1) := by decide +kernel
theorem dX3_output_29 : decode cX3_output 29 = .ok (.iadd, 1) := by decide +kernel
theorem dX3_output_30 : decode cX3_output 30 = .ok (.aload_n 0, 1) := by decide +kernel
theorem dX3_output_31 : decode cX3_output 31 = .ok (.getfield 7, 3) := by decide +kernel
theorem dX3_output_34 : decode cX3_output 34 = .ok (.sipush 267, 3) := by decide +kernel
theorem dX3_output_37 : decode cX3_output 37 = .ok (.iload_n 2, 1) := by decide +kernel
theorem dX3_output_38 : decode cX3_output 38 = .ok (.iadd, 1) := by decide +kernel
theorem dX3_output_39 : decode cX3_output 39 = .ok (.iconst 1, 1) := by decide +kernel
theorem dX3_output_40 : decode cX3_output 40 = .ok (.iadd, 1) := by decide +kernel
theorem dX3_output_41 : decode cX3_output 41 = .ok (.iaload, 1) := by decide +kernel
theorem dX3_output_42 : decode cX3_output 42 = .ok (.iastore, 1) := by decide +kernel
theorem dX3_output_43 : decode cX3_output 43 = .ok (.iinc 2 1, 3) := by decide +kernel
theorem dX3_output_46 : decode cX3_output 46 = .ok (.goto (-31), 3) := by decide +kernel
theorem dX3_output_49 : decode cX3_output 49 = .ok (.aload_n 0, 1) := by decide +kernel
theorem dX3_output_50 : decode cX3_output 50 = .ok (.getfield 7, 3) := by decide +kernel
theorem dX3_output_53 : decode cX3_output 53 = .ok (.sipush 267, 3) := by decide +kernel
theorem dX3_output_56 : decode cX3_output 56 = .ok (.dup2, 1) := by decide +kernel
theorem dX3_output_57 : decode cX3_output 57 = .ok (.iaload, 1) := by decide +kernel
theorem dX3_output_58 : decode cX3_output 58 = .ok (.iconst 1, 1) := by decide +kernel
theorem dX3_output_59 : decode cX3_output 59 = .ok (.isub, 1) := by decide +kernel
theorem dX3_output_60 : decode cX3_output 60 = .ok (.iastore, 1) := by decide +kernel
theorem dX3_output_61 : decode cX3_output 61 = .ok (.aload_n 0, 1) := by decide +kernel
theorem dX3_output_62 : decode cX3_output 62 = .ok (.getfield 7, 3) := by decide +kernel
theorem dX3_output_65 : decode cX3_output 65 = .ok (.sipush 267, 3) := by decide +kernel
theorem dX3_output_68 : decode cX3_output 68 = .ok (.dup2, 1) := by decide +kernel
theorem dX3_output_69 : decode cX3_output 69 = .ok (.iaload, 1) := by decide +kernel
theorem dX3_output_70 : decode cX3_output 70 = .ok (.iconst 1, 1) := by decide +kernel
theorem dX3_output_71 : decode cX3_output 71 = .ok (.iadd, 1) := by decide +kernel
theorem dX3_output_72 : decode cX3_output 72 = .ok (.iastore, 1) := by decide +kernel
theorem dX3_output_73 : decode cX3_output 73 = .ok (.aload_n 0, 1) := by decide +kernel
theorem dX3_output_74 : decode cX3_output 74 = .ok (.getfield 7, 3) := by decide +kernel
theorem dX3_output_77 : decode cX3_output 77 = .ok (.sipush 267, 3) := by decide +kernel
theorem dX3_output_80 : decode cX3_output 80 = .ok (.aload_n 0, 1) := by decide +kernel
theorem dX3_output_81 : decode cX3_output 81 = .ok (.getfield 7, 3) := by decide +kernel
theorem dX3_output_84 : decode cX3_output 84 = .ok (.sipush 267, 3) := by decide +kernel
theorem dX3_output_87 : decode cX3_output 87 = .ok (.iaload, 1) := by decide +kernel
theorem dX3_output_88 : decode cX3_output 88 = .ok (.iadd, 1) := by decide +kernel
theorem dX3_output_89 : decode cX3_output 89 = .ok (.iload_n 1, 1) := by decide +kernel
theorem dX3_output_90 : decode cX3_output 90 = .ok (.iastore, 1) := by decide +kernel
theorem dX3_output_91 : decode cX3_output 91 = .ok (.aload_n 0, 1) := by decide +kernel
theorem dX3_output_92 : decode cX3_output 92 = .ok (.getfield 7, 3) := by decide +kernel
theorem dX3_output_95 : decode cX3_output 95 = .ok (.sipush 288, 3) := by decide +kernel
theorem dX3_output_98 : decode cX3_output 98 = .ok (.dup2, 1) := by decide +kernel
theorem dX3_output_99 : decode cX3_output 99 = .ok (.iaload, 1) := by decide +kernel
theorem dX3_output_100 : decode cX3_output 100 = .ok (.iconst 1, 1) := by decide +kernel
theorem dX3_output_101 : decode cX3_output 101 = .ok (.iadd, 1) := by decide +kernel
theorem dX3_output_102 : decode cX3_output 102 = .ok (.iastore, 1) := by decide +kernel
theorem dX3_output_103 : decode cX3_output 103 = .ok (.return_, 1) := by decide +kernel
theorem dX3_input_0 : decode cX3_input 0 = .ok (.aload_n 0, 1) := by decide +kernel
theorem dX3_input_1 : decode cX3_input 1 = .ok (.getfield 7, 3) := by decide +kernel
theorem dX3_input_4 : decode cX3_input 4 = .ok (.sipush 250, 3) := by decide +kernel
theorem dX3_input_7 : decode cX3_input 7 = .ok (.iaload, 1) := by decide +kernel
theorem dX3_input_8 : decode cX3_input 8 = .ok (.ifCond .ne 10, 3) := by decide +kernel
theorem dX3_input_11 : decode cX3_input 11 = .ok (.aload_n 0, 1) := by decide +kernel
theorem dX3_input_12 : decode cX3_input 12 = .ok (.iload_n 1, 1) := by decide +kernel
theorem dX3_input_13 : decode cX3_input 13 = .ok (.iconst 2, 1) := by decide +kernel
theorem dX3_input_14 : decode cX3_input 14 = .ok (.invokevirtual 93, 3) := by decide +kernel
theorem dX3_input_17 : decode cX3_input 17 = .ok (.return_, 1) := by decide +kernel
theorem dX3_input_18 : decode cX3_input 18 = .ok (.aload_n 0, 1) := by decide +kernel
theorem dX3_input_19 : decode cX3_input 19 = .ok (.getfield 7, 3) := by decide +kernel
theorem dX3_input_22 : decode cX3_input 22 = .ok (.sipush 251, 3) := by decide +kernel
theorem dX3_input_25 : decode cX3_input 25 = .ok (.iaload, 1) := by decide +kernel
theorem dX3_input_26 : decode cX3_input 26 = .ok (.istore_n 2, 1) := by decide +kernel
theorem dX3_input_27 : decode cX3_input 27 = .ok (.iconst 1, 1) := by decide +kernel
theorem dX3_input_28 : decode cX3_input 28 = .ok (.istore_n 3, 1) := by decide +kernel
theorem dX3_input_29 : decode cX3_input 29 = .ok (.iload_n 3, 1) := by decide +kernel
theorem dX3_input_30 : decode cX3_input 30 = .ok (.aload_n 0, 1) := by decide +kernel
theorem dX3_input_31 : decode cX3_input 31 = .ok (.getfield 7, 3) := by decide +kernel
theorem dX3_input_34 : decode cX3_input 34 = .ok (.sipush 250, 3) := by decide +kernel
theorem dX3_input_37 : decode cX3_input 37 = .ok (.iaload, 1) := by decide +kernel
theorem dX3_input_38 : decode cX3_input 38 = .ok (.if_icmp .ge 31, 3) := by decide +kernel
theorem dX3_input_41 : decode cX3_input 41 = .ok (.aload_n 0, 1) := by decide +kernel
theorem dX3_input_42 : decode cX3_input 42 = .ok (.getfield 7, 3) := by decide +kernel
theorem dX3_input_45 : decode cX3_input 45 = .ok (.sipush 250, 3) := by decide +kernel
theorem dX3_input_48 : decode cX3_input 48 = .ok (.iload_n 3, 1) := by decide +kernel
theorem dX3_input_49 : decode cX3_input 49 = .ok (.iadd, 1) := by decide +kernel
theorem dX3_input_50 : decode cX3_input 50 = .ok (.aload_n 0, 1) := by decide +kernel
theorem dX3_input_51 : decode cX3_input 51 = .ok (.getfield 7, 3) := by decide +kernel
theorem dX3_input_54 : decode cX3_input 54 = .ok (.sipush 250, 3) := by decide +kernel
theorem dX3_input_57 : decode cX3_input 57 = .ok (.iload_n 3, 1) := by decide +kernel
theorem dX3_input_58 : decode cX3_input 58 = .ok (.iadd, 1) := by decide +kernel
theorem dX3_input_59 : decode cX3_input 59 = .ok (.iconst 1, 1) := by decide +kernel
theorem dX3_input_60 : decode cX3_input 60 = .ok (.iadd, 1) := by decide +kernel
theorem dX3_input_61 : decode cX3_input 61 = .ok (.iaload, 1) := by decide +kernel
theorem dX3_input_62 : decode cX3_input 62 = .ok (.iastore, 1) := by decide +kernel
theorem dX3_input_63 : decode cX3_input 63 = .ok (.iinc 3 1, 3) := by decide +kernel
theorem dX3_input_66 : decode cX3_input 66 = .ok (.goto (-37), 3) := by decide +kernel
theorem dX3_input_69 : decode cX3_input 69 = .ok (.aload_n 0, 1) := by decide +kernel
theorem dX3_input_70 : decode cX3_input 70 = .ok (.getfield 7, 3) := by decide +kernel
theorem dX3_input_73 : decode cX3_input 73 = .ok (.sipush 250, 3) := by decide +kernel
theorem dX3_input_76 : decode cX3_input 76 = .ok (.aload_n 0, 1) := by decide +kernel
theorem dX3_input_77 : decode cX3_input 77 = .ok (.getfield 7, 3) := by decide +kernel
theorem dX3_input_80 : decode cX3_input 80 = .ok (.sipush 250, 3) := by decide +kernel
theorem dX3_input_83 : decode cX3_input 83 = .ok (.iaload, 1) := by decide +kernel
theorem dX3_input_84 : decode cX3_input 84 = .ok (.iadd, 1) := by decide +kernel
theorem dX3_input_85 : decode cX3_input 85 = .ok (.iconst 0, 1) := by decide +kernel
theorem dX3_input_86 : decode cX3_input 86 = .ok (.iastore, 1) := by decide +kernel
theorem dX3_input_87 : decode cX3_input 87 = .ok (.aload_n 0, 1) := by decide +kernel
theorem dX3_input_88 : decode cX3_input 88 = .ok (.getfield 7, 3) := by decide +kernel
theorem dX3_input_91 : decode cX3_input 91 = .ok (.sipush 250, 3) := by decide +kernel
theorem dX3_input_94 : decode cX3_input 94 = .ok (.dup2, 1) := by decide +kernel
theorem dX3_input_95 : decode cX3_input 95 = .ok (.iaload, 1) := by decide +kernel
theorem dX3_input_96 : decode cX3_input 96 = .ok (.iconst 1, 1) := by decide +kernel
theorem dX3_input_97 : decode cX3_input 97 = .ok (.isub, 1) := by decide +kernel
theorem dX3_input_98 : decode cX3_input 98 = .ok (.iastore, 1) := by decide +kernel
theorem dX3_input_99 : decode cX3_input 99 = .ok (.aload_n 0, 1) := by decide +kernel
theorem dX3_input_100 : decode cX3_input 100 = .ok (.iload_n 1, 1) := by decide +kernel
theorem dX3_input_101 : decode cX3_input 101 = .ok (.iload_n 2, 1) := by decide +kernel
theorem dX3_input_102 : decode cX3_input 102 = .ok (.invokevirtual 97, 3) := by decide +kernel
theorem dX3_input_105 : decode cX3_input 105 = .ok (.return_, 1) := by decide +kernel
theorem dX3_split_0 : decode cX3_split 0 = .ok (.aload_n 0, 1) := by decide +kernel
theorem dX3_split_1 : decode cX3_split 1 = .ok (.getfield 7, 3) := by decide +kernel
theorem dX3_split_4 : decode cX3_split 4 = .ok (.sipush 145, 3) := by decide +kernel
theorem dX3_split_7 : decode cX3_split 7 = .ok (.iaload, 1) := by decide +kernel
theorem dX3_split_8 : decode cX3_split 8 = .ok (.iconst 4, 1) := by decide +kernel
theorem dX3_split_9 : decode cX3_split 9 = .ok (.if_icmp .ne 4, 3) := by decide +kernel
theorem dX3_split_12 : decode cX3_split 12 = .ok (.return_, 1) := by decide +kernel
theorem dX3_split_13 : decode cX3_split 13 = .ok (.aload_n 0, 1) := by decide +kernel
theorem dX3_split_14 : decode cX3_split 14 = .ok (.getfield 7, 3) := by decide +kernel
theorem dX3_split_17 : decode cX3_split 17 = .ok (.sipush 145, 3) := by decide +kernel
theorem dX3_split_20 : decode cX3_split 20 = .ok (.iaload, 1) := by decide +kernel
theorem dX3_split_21 : decode cX3_split 21 = .ok (.istore_n 2, 1) := by decide +kernel
theorem dX3_split_22 : decode cX3_split 22 = .ok (.iconst 0, 1) := by decide +kernel
theorem dX3_split_23 : decode cX3_split 23 = .ok (.istore_n 3, 1) := by decide +kernel
theorem dX3_split_24 : decode cX3_split 24 = .ok (.iload_n 3, 1) := by decide +kernel
theorem dX3_split_25 : decode cX3_split 25 = .ok (.bipush 25, 2) := by decide +kernel
theorem dX3_split_27 : decode cX3_split 27 = .ok (.if_icmp .ge 21, 3) := by decide +kernel
theorem dX3_split_30 : decode cX3_split 30 = .ok (.aload_n 0, 1) := by decide +kernel
theorem dX3_split_31 : decode cX3_split 31 = .ok (.iload_n 2, 1) := by decide +kernel
theorem dX3_split_32 : decode cX3_split 32 = .ok (.iload_n 3, 1) := by decide +kernel
theorem dX3_split_33 : decode cX3_split 33 = .ok (.aload_n 0, 1) := by decide +kernel
theorem dX3_split_34 : decode cX3_split 34 = .ok (.iload_n 1, 1) := by decide +kernel
theorem dX3_split_35 : decode cX3_split 35 = .ok (.iload_n 3, 1) := by decide +kernel
theorem dX3_split_36 : decode cX3_split 36 = .ok (.invokevirtual 69, 3) := by decide +kernel
theorem dX3_split_39 : decode cX3_split 39 = .ok (.invokevirtual 80, 3) := by decide +kernel
theorem dX3_split_42 : decode cX3_split 42 = .ok (.iinc 3 1, 3) := by decide +kernel
theorem dX3_split_45 : decode cX3_split 45 = .ok (.goto (-21), 3) := by decide +kernel
theorem dX3_split_48 : decode cX3_split 48 = .ok (.aload_n 0, 1) := by decide +kernel
theorem dX3_split_49 : decode cX3_split 49 = .ok (.iload_n 2, 1) := by decide +kernel
theorem dX3_split_50 : decode cX3_split 50 = .ok (.iconst 3, 1) := by decide +kernel
theorem dX3_split_51 : decode cX3_split 51 = .ok (.iconst 0, 1) := by decide +kernel
theorem dX3_split_52 : decode cX3_split 52 = .ok (.invokevirtual 80, 3) := by decide +kernel
theorem dX3_split_55 : decode cX3_split 55 = .ok (.aload_n 0, 1) := by decide +kernel
theorem dX3_split_56 : decode cX3_split 56 = .ok (.iload_n 2, 1) := by decide +kernel
theorem dX3_split_57 : decode cX3_split 57 = .ok (.iconst 4, 1) := by decide +kernel
theorem dX3_split_58 : decode cX3_split 58 = .ok (.iconst 0, 1) := by decide +kernel
theorem dX3_split_59 : decode cX3_split 59 = .ok (.invokevirtual 80, 3) := by decide +kernel
theorem dX3_split_62 : decode cX3_split 62 = .ok (.aload_n 0, 1) := by decide +kernel
theorem dX3_split_63 : decode cX3_split 63 = .ok (.iload_n 2, 1) := by decide +kernel
theorem dX3_split_64 : decode cX3_split 64 = .ok (.iconst 2, 1) := by decide +kernel
theorem dX3_split_65 : decode cX3_split 65 = .ok (.invokevirtual 93, 3) := by decide +kernel
theorem dX3_split_68 : decode cX3_split 68 = .ok (.aload_n 0, 1) := by decide +kernel
theorem dX3_split_69 : decode cX3_split 69 = .ok (.iload_n 2, 1) := by decide +kernel
theorem dX3_split_70 : decode cX3_split 70 = .ok (.invokevirtual 100, 3) := by decide +kernel
theorem dX3_split_73 : decode cX3_split 73 = .ok (.aload_n 0, 1) := by decide +kernel
theorem dX3_split_74 : decode cX3_split 74 = .ok (.getfield 7, 3) := by decide +kernel
theorem dX3_split_77 : decode cX3_split 77 = .ok (.sipush 145, 3) := by decide +kernel
theorem dX3_split_80 : decode cX3_split 80 = .ok (.iaload, 1) := by decide +kernel
theorem dX3_split_81 : decode cX3_split 81 = .ok (.istore_n 3, 1) := by decide +kernel
theorem dX3_split_82 : decode cX3_split 82 = .ok (.aload_n 0, 1) := by decide +kernel
theorem dX3_split_83 : decode cX3_split 83 = .ok (.getfield 7, 3) := by decide +kernel
theorem dX3_split_86 : decode cX3_split 86 = .ok (.sipush 146, 3) := by decide +kernel
theorem dX3_split_89 : decode cX3_split 89 = .ok (.iload_n 3, 1) := by decide +kernel
theorem dX3_split_90 : decode cX3_split 90 = .ok (.iadd, 1) := by decide +kernel
theorem dX3_split_91 : decode cX3_split 91 = .ok (.iconst 1, 1) := by decide +kernel
theorem dX3_split_92 : decode cX3_split 92 = .ok (.isub, 1) := by decide +kernel
theorem dX3_split_93 : decode cX3_split 93 = .ok (.iaload, 1) := by decide +kernel
theorem dX3_split_94 : decode cX3_split 94 = .ok (.iload_n 1, 1) := by decide +kernel
theorem dX3_split_95 : decode cX3_split 95 = .ok (.if_icmp .eq 31, 3) := by decide +kernel
theorem dX3_split_98 : decode cX3_split 98 = .ok (.aload_n 0, 1) := by decide +kernel
theorem dX3_split_99 : decode cX3_split 99 = .ok (.getfield 7, 3) := by decide +kernel
theorem dX3_split_102 : decode cX3_split 102 = .ok (.sipush 146, 3) := by decide +kernel
theorem dX3_split_105 : decode cX3_split 105 = .ok (.iload_n 3, 1) := by decide +kernel
theorem dX3_split_106 : decode cX3_split 106 = .ok (.iadd, 1) := by decide +kernel
theorem dX3_split_107 : decode cX3_split 107 = .ok (.aload_n 0, 1) := by decide +kernel
theorem dX3_split_108 : decode cX3_split 108 = .ok (.getfield 7, 3) := by decide +kernel
theorem dX3_split_111 : decode cX3_split 111 = .ok (.sipush 146, 3) := by decide +kernel
theorem dX3_split_114 : decode cX3_split 114 = .ok (.iload_n 3, 1) := by decide +kernel
theorem dX3_split_115 : decode cX3_split 115 = .ok (.iadd, 1) := by decide +kernel
theorem dX3_split_116 : decode cX3_split 116 = .ok (.iconst 1, 1) := by decide +kernel
theorem dX3_split_117 : decode cX3_split 117 = .ok (.isub, 1) := by decide +kernel
theorem dX3_split_118 : decode cX3_split 118 = .ok (.iaload, 1) := by decide +kernel
theorem dX3_split_119 : decode cX3_split 119 = .ok (.iastore, 1) := by decide +kernel
theorem dX3_split_120 : decode cX3_split 120 = .ok (.iinc 3 (-1), 3) := by decide +kernel
theorem dX3_split_123 : decode cX3_split 123 = .ok (.goto (-41), 3) := by decide +kernel
theorem dX3_split_126 : decode cX3_split 126 = .ok (.aload_n 0, 1) := by decide +kernel
theorem dX3_split_127 : decode cX3_split 127 = .ok (.getfield 7, 3) := by decide +kernel
theorem dX3_split_130 : decode cX3_split 130 = .ok (.sipush 146, 3) := by decide +kernel
theorem dX3_split_133 : decode cX3_split 133 = .ok (.iload_n 3, 1) := by decide +kernel
theorem dX3_split_134 : decode cX3_split 134 = .ok (.iadd, 1) := by decide +kernel
theorem dX3_split_135 : decode cX3_split 135 = .ok (.iload_n 2, 1) := by decide +kernel
theorem dX3_split_136 : decode cX3_split 136 = .ok (.iastore, 1) := by decide +kernel
theorem dX3_split_137 : decode cX3_split 137 = .ok (.aload_n 0, 1) := by decide +kernel
theorem dX3_split_138 : decode cX3_split 138 = .ok (.getfield 7, 3) := by decide +kernel
theorem dX3_split_141 : decode cX3_split 141 = .ok (.sipush 145, 3) := by decide +kernel
theorem dX3_split_144 : decode cX3_split 144 = .ok (.dup2, 1) := by decide +kernel
theorem dX3_split_145 : decode cX3_split 145 = .ok (.iaload, 1) := by decide +kernel
theorem dX3_split_146 : decode cX3_split 146 = .ok (.iconst 1, 1) := by decide +kernel
theorem dX3_split_147 : decode cX3_split 147 = .ok (.iadd, 1) := by decide +kernel
theorem dX3_split_148 : decode cX3_split 148 = .ok (.iastore, 1) := by decide +kernel
theorem dX3_split_149 : decode cX3_split 149 = .ok (.return_, 1) := by decide +kernel
theorem dX3_swapTop_0 : decode cX3_swapTop 0 = .ok (.aload_n 0, 1) := by decide +kernel
theorem dX3_swapTop_1 : decode cX3_swapTop 1 = .ok (.iload_n 1, 1) := by decide +kernel
theorem dX3_swapTop_2 : decode cX3_swapTop 2 = .ok (.invokevirtual 87, 3) := by decide +kernel
theorem dX3_swapTop_5 : decode cX3_swapTop 5 = .ok (.istore_n 2, 1) := by decide +kernel
theorem dX3_swapTop_6 : decode cX3_swapTop 6 = .ok (.aload_n 0, 1) := by decide +kernel
theorem dX3_swapTop_7 : decode cX3_swapTop 7 = .ok (.iload_n 1, 1) := by decide +kernel
theorem dX3_swapTop_8 : decode cX3_swapTop 8 = .ok (.invokevirtual 87, 3) := by decide +kernel
theorem dX3_swapTop_11 : decode cX3_swapTop 11 = .ok (.istore_n 3, 1) := by decide +kernel
theorem dX3_swapTop_12 : decode cX3_swapTop 12 = .ok (.aload_n 0, 1) := by decide +kernel
theorem dX3_swapTop_13 : decode cX3_swapTop 13 = .ok (.iload_n 1, 1) := by decide +kernel
theorem dX3_swapTop_14 : decode cX3_swapTop 14 = .ok (.iload_n 2, 1) := by decide +kernel
theorem dX3_swapTop_15 : decode cX3_swapTop 15 = .ok (.invokevirtual 97, 3) := by decide +kernel
theorem dX3_swapTop_18 : decode cX3_swapTop 18 = .ok (.aload_n 0, 1) := by decide +kernel
theorem dX3_swapTop_19 : decode cX3_swapTop 19 = .ok (.iload_n 1, 1) := by decide +kernel
theorem dX3_swapTop_20 : decode cX3_swapTop 20 = .ok (.iconst 3, 1) := by decide +kernel
theorem dX3_swapTop_21 : decode cX3_swapTop 21 = .ok (.invokevirtual 69, 3) := by decide +kernel
theorem dX3_swapTop_24 : decode cX3_swapTop 24 = .ok (.ifCond .ne 9, 3) := by decide +kernel
theorem dX3_swapTop_27 : decode cX3_swapTop 27 = .ok (.aload_n 0, 1) := by decide +kernel
theorem dX3_swapTop_28 : decode cX3_swapTop 28 = .ok (.iload_n 1, 1) := by decide +kernel
theorem dX3_swapTop_29 : decode cX3_swapTop 29 = .ok (.iload_n 3, 1) := by decide +kernel
theorem dX3_swapTop_30 : decode cX3_swapTop 30 = .ok (.invokevirtual 97, 3) := by decide +kernel
theorem dX3_swapTop_33 : decode cX3_swapTop 33 = .ok (.return_, 1) := by decide +kernel
theorem dX3_duplicate_0 : decode cX3_duplicate 0 = .ok (.aload_n 0, 1) := by decide +kernel
theorem dX3_duplicate_1 : decode cX3_duplicate 1 = .ok (.iload_n 1, 1) := by decide +kernel
theorem dX3_duplicate_2 : decode cX3_duplicate 2 = .ok (.invokevirtual 87, 3) := by decide +kernel
theorem dX3_duplicate_5 : decode cX3_duplicate 5 = .ok (.istore_n 2, 1) := by decide +kernel
theorem dX3_duplicate_6 : decode cX3_duplicate 6 = .ok (.aload_n 0, 1) := by decide +kernel
theorem dX3_duplicate_7 : decode cX3_duplicate 7 = .ok (.iload_n 1, 1) := by decide +kernel
theorem dX3_duplicate_8 : decode cX3_duplicate 8 = .ok (.iload_n 2, 1) := by decide +kernel
theorem dX3_duplicate_9 : decode cX3_duplicate 9 = .ok (.invokevirtual 97, 3) := by decide +kernel
theorem dX3_duplicate_12 : decode cX3_duplicate 12 = .ok (.aload_n 0, 1) := by decide +kernel
theorem dX3_duplicate_13 : decode cX3_duplicate 13 = .ok (.iload_n 1, 1) := by decide +kernel
theorem dX3_duplicate_14 : decode cX3_duplicate 14 = .ok (.iconst 3, 1) := by decide +kernel
theorem dX3_duplicate_15 : decode cX3_duplicate 15 = .ok (.invokevirtual 69, 3) := by decide +kernel
theorem dX3_duplicate_18 : decode cX3_duplicate 18 = .ok (.ifCond .ne 9, 3) := by decide +kernel
theorem dX3_duplicate_21 : decode cX3_duplicate 21 = .ok (.aload_n 0, 1) := by decide +kernel
theorem dX3_duplicate_22 : decode cX3_duplicate 22 = .ok (.iload_n 1, 1) := by decide +kernel
theorem dX3_duplicate_23 : decode cX3_duplicate 23 = .ok (.iload_n 2, 1) := by decide +kernel
theorem dX3_duplicate_24 : decode cX3_duplicate 24 = .ok (.invokevirtual 97, 3) := by decide +kernel
theorem dX3_duplicate_27 : decode cX3_duplicate 27 = .ok (.return_, 1) := by decide +kernel
theorem dX3_store_0 : decode cX3_store 0 = .ok (.aload_n 0, 1) := by decide +kernel
theorem dX3_store_1 : decode cX3_store 1 = .ok (.iload_n 1, 1) := by decide +kernel
theorem dX3_store_2 : decode cX3_store 2 = .ok (.invokevirtual 87, 3) := by decide +kernel
theorem dX3_store_5 : decode cX3_store 5 = .ok (.istore_n 2, 1) := by decide +kernel
theorem dX3_store_6 : decode cX3_store 6 = .ok (.aload_n 0, 1) := by decide +kernel
theorem dX3_store_7 : decode cX3_store 7 = .ok (.iload_n 1, 1) := by decide +kernel
theorem dX3_store_8 : decode cX3_store 8 = .ok (.invokevirtual 87, 3) := by decide +kernel
theorem dX3_store_11 : decode cX3_store 11 = .ok (.istore_n 3, 1) := by decide +kernel
theorem dX3_store_12 : decode cX3_store 12 = .ok (.aload_n 0, 1) := by decide +kernel
theorem dX3_store_13 : decode cX3_store 13 = .ok (.iload_n 1, 1) := by decide +kernel
theorem dX3_store_14 : decode cX3_store 14 = .ok (.invokevirtual 87, 3) := by decide +kernel
theorem dX3_store_17 : decode cX3_store 17 = .ok (.istore 4, 2) := by decide +kernel
theorem dX3_store_19 : decode cX3_store 19 = .ok (.iload 4, 2) := by decide +kernel
theorem dX3_store_21 : decode cX3_store 21 = .ok (.bipush 32, 2) := by decide +kernel
theorem dX3_store_23 : decode cX3_store 23 = .ok (.bipush 126, 2) := by decide +kernel
theorem dX3_store_25 : decode cX3_store 25 = .ok (.invokestatic 44, 3) := by decide +kernel
theorem dX3_store_28 : decode cX3_store 28 = .ok (.ifCond .eq 15, 3) := by decide +kernel
theorem dX3_store_31 : decode cX3_store 31 = .ok (.aload_n 0, 1) := by decide +kernel
