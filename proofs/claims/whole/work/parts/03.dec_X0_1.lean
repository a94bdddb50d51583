theorem dX0_init_0 : decode cX0_init 0 = .ok (.aload_n 0, 1) := by decide +kernel
theorem dX0_init_1 : decode cX0_init 1 = .ok (.invokespecial 3, 3) := by decide +kernel
theorem dX0_init_4 : decode cX0_init 4 = .ok (.aload_n 0, 1) := by decide +kernel
theorem dX0_init_5 : decode cX0_init 5 = .ok (.bipush 16, 2) := by decide +kernel
theorem dX0_init_7 : decode cX0_init 7 = .ok (.newarray .int, 2) := by decide +kernel
theorem dX0_init_9 : decode cX0_init 9 = .ok (.putfield 9, 3) := by decide +kernel
theorem dX0_init_12 : decode cX0_init 12 = .ok (.aload_n 0, 1) := by decide +kernel
theorem dX0_init_13 : decode cX0_init 13 = .ok (.iconst 3, 1) := by decide +kernel
theorem dX0_init_14 : decode cX0_init 14 = .ok (.newarray .int, 2) := by decide +kernel
theorem dX0_init_16 : decode cX0_init 16 = .ok (.putfield 15, 3) := by decide +kernel
theorem dX0_init_19 : decode cX0_init 19 = .ok (.aload_n 0, 1) := by decide +kernel
theorem dX0_init_20 : decode cX0_init 20 = .ok (.iconst 1, 1) := by decide +kernel
theorem dX0_init_21 : decode cX0_init 21 = .ok (.putfield 18, 3) := by decide +kernel
theorem dX0_init_24 : decode cX0_init 24 = .ok (.return_, 1) := by decide +kernel
theorem dX0_reset_0 : decode cX0_reset 0 = .ok (.aload_n 0, 1) := by decide +kernel
theorem dX0_reset_1 : decode cX0_reset 1 = .ok (.iconst 0, 1) := by decide +kernel
theorem dX0_reset_2 : decode cX0_reset 2 = .ok (.putfield 22, 3) := by decide +kernel
theorem dX0_reset_5 : decode cX0_reset 5 = .ok (.aload_n 0, 1) := by decide +kernel
theorem dX0_reset_6 : decode cX0_reset 6 = .ok (.iconst 0, 1) := by decide +kernel
theorem dX0_reset_7 : decode cX0_reset 7 = .ok (.putfield 25, 3) := by decide +kernel
theorem dX0_reset_10 : decode cX0_reset 10 = .ok (.aload_n 0, 1) := by decide +kernel
theorem dX0_reset_11 : decode cX0_reset 11 = .ok (.iconst 0, 1) := by decide +kernel
theorem dX0_reset_12 : decode cX0_reset 12 = .ok (.putfield 28, 3) := by decide +kernel
theorem dX0_reset_15 : decode cX0_reset 15 = .ok (.aload_n 0, 1) := by decide +kernel
theorem dX0_reset_16 : decode cX0_reset 16 = .ok (.iconst 0, 1) := by decide +kernel
theorem dX0_reset_17 : decode cX0_reset 17 = .ok (.putfield 31, 3) := by decide +kernel
theorem dX0_reset_20 : decode cX0_reset 20 = .ok (.aload_n 0, 1) := by decide +kernel
theorem dX0_reset_21 : decode cX0_reset 21 = .ok (.iconst 0, 1) := by decide +kernel
theorem dX0_reset_22 : decode cX0_reset 22 = .ok (.putfield 34, 3) := by decide +kernel
theorem dX0_reset_25 : decode cX0_reset 25 = .ok (.aload_n 0, 1) := by decide +kernel
theorem dX0_reset_26 : decode cX0_reset 26 = .ok (.iconst 0, 1) := by decide +kernel
theorem dX0_reset_27 : decode cX0_reset 27 = .ok (.putfield 37, 3) := by decide +kernel
theorem dX0_reset_30 : decode cX0_reset 30 = .ok (.aload_n 0, 1) := by decide +kernel
theorem dX0_reset_31 : decode cX0_reset 31 = .ok (.getfield 15, 3) := by decide +kernel
theorem dX0_reset_34 : decode cX0_reset 34 = .ok (.iconst 0, 1) := by decide +kernel
theorem dX0_reset_35 : decode cX0_reset 35 = .ok (.iconst 0, 1) := by decide +kernel
theorem dX0_reset_36 : decode cX0_reset 36 = .ok (.iastore, 1) := by decide +kernel
theorem dX0_reset_37 : decode cX0_reset 37 = .ok (.aload_n 0, 1) := by decide +kernel
theorem dX0_reset_38 : decode cX0_reset 38 = .ok (.iconst 1, 1) := by decide +kernel
theorem dX0_reset_39 : decode cX0_reset 39 = .ok (.putfield 18, 3) := by decide +kernel
theorem dX0_reset_42 : decode cX0_reset 42 = .ok (.return_, 1) := by decide +kernel
theorem dX0_copyFrom_0 : decode cX0_copyFrom 0 = .ok (.aload_n 0, 1) := by decide +kernel
theorem dX0_copyFrom_1 : decode cX0_copyFrom 1 = .ok (.aload_n 1, 1) := by decide +kernel
theorem dX0_copyFrom_2 : decode cX0_copyFrom 2 = .ok (.getfield 22, 3) := by decide +kernel
theorem dX0_copyFrom_5 : decode cX0_copyFrom 5 = .ok (.putfield 22, 3) := by decide +kernel
theorem dX0_copyFrom_8 : decode cX0_copyFrom 8 = .ok (.aload_n 0, 1) := by decide +kernel
theorem dX0_copyFrom_9 : decode cX0_copyFrom 9 = .ok (.aload_n 1, 1) := by decide +kernel
theorem dX0_copyFrom_10 : decode cX0_copyFrom 10 = .ok (.getfield 25, 3) := by decide +kernel
theorem dX0_copyFrom_13 : decode cX0_copyFrom 13 = .ok (.putfield 25, 3) := by decide +kernel
theorem dX0_copyFrom_16 : decode cX0_copyFrom 16 = .ok (.aload_n 0, 1) := by decide +kernel
theorem dX0_copyFrom_17 : decode cX0_copyFrom 17 = .ok (.aload_n 1, 1) := by decide +kernel
theorem dX0_copyFrom_18 : decode cX0_copyFrom 18 = .ok (.getfield 28, 3) := by decide +kernel
theorem dX0_copyFrom_21 : decode cX0_copyFrom 21 = .ok (.putfield 28, 3) := by decide +kernel
theorem dX0_copyFrom_24 : decode cX0_copyFrom 24 = .ok (.aload_n 0, 1) := by decide +kernel
theorem dX0_copyFrom_25 : decode cX0_copyFrom 25 = .ok (.aload_n 1, 1) := by decide +kernel
theorem dX0_copyFrom_26 : decode cX0_copyFrom 26 = .ok (.getfield 31, 3) := by decide +kernel
theorem dX0_copyFrom_29 : decode cX0_copyFrom 29 = .ok (.putfield 31, 3) := by decide +kernel
theorem dX0_copyFrom_32 : decode cX0_copyFrom 32 = .ok (.aload_n 0, 1) := by decide +kernel
theorem dX0_copyFrom_33 : decode cX0_copyFrom 33 = .ok (.aload_n 1, 1) := by decide +kernel
theorem dX0_copyFrom_34 : decode cX0_copyFrom 34 = .ok (.getfield 34, 3) := by decide +kernel
theorem dX0_copyFrom_37 : decode cX0_copyFrom 37 = .ok (.putfield 34, 3) := by decide +kernel
theorem dX0_copyFrom_40 : decode cX0_copyFrom 40 = .ok (.aload_n 1, 1) := by decide +kernel
theorem dX0_copyFrom_41 : decode cX0_copyFrom 41 = .ok (.getfield 9, 3) := by decide +kernel
theorem dX0_copyFrom_44 : decode cX0_copyFrom 44 = .ok (.iconst 0, 1) := by decide +kernel
theorem dX0_copyFrom_45 : decode cX0_copyFrom 45 = .ok (.aload_n 0, 1) := by decide +kernel
theorem dX0_copyFrom_46 : decode cX0_copyFrom 46 = .ok (.getfield 9, 3) := by decide +kernel
theorem dX0_copyFrom_49 : decode cX0_copyFrom 49 = .ok (.iconst 0, 1) := by decide +kernel
theorem dX0_copyFrom_50 : decode cX0_copyFrom 50 = .ok (.bipush 16, 2) := by decide +kernel
theorem dX0_copyFrom_52 : decode cX0_copyFrom 52 = .ok (.invokestatic 40, 3) := by decide +kernel
theorem dX0_copyFrom_55 : decode cX0_copyFrom 55 = .ok (.aload_n 0, 1) := by decide +kernel
theorem dX0_copyFrom_56 : decode cX0_copyFrom 56 = .ok (.aload_n 1, 1) := by decide +kernel
theorem dX0_copyFrom_57 : decode cX0_copyFrom 57 = .ok (.getfield 37, 3) := by decide +kernel
theorem dX0_copyFrom_60 : decode cX0_copyFrom 60 = .ok (.putfield 37, 3) := by decide +kernel
theorem dX0_copyFrom_63 : decode cX0_copyFrom 63 = .ok (.aload_n 1, 1) := by decide +kernel
theorem dX0_copyFrom_64 : decode cX0_copyFrom 64 = .ok (.getfield 15, 3) := by decide +kernel
theorem dX0_copyFrom_67 : decode cX0_copyFrom 67 = .ok (.iconst 0, 1) := by decide +kernel
theorem dX0_copyFrom_68 : decode cX0_copyFrom 68 = .ok (.aload_n 0, 1) := by decide +kernel
theorem dX0_copyFrom_69 : decode cX0_copyFrom 69 = .ok (.getfield 15, 3) := by decide +kernel
theorem dX0_copyFrom_72 : decode cX0_copyFrom 72 = .ok (.iconst 0, 1) := by decide +kernel
theorem dX0_copyFrom_73 : decode cX0_copyFrom 73 = .ok (.iconst 3, 1) := by decide +kernel
theorem dX0_copyFrom_74 : decode cX0_copyFrom 74 = .ok (.invokestatic 40, 3) := by decide +kernel
theorem dX0_copyFrom_77 : decode cX0_copyFrom 77 = .ok (.aload_n 0, 1) := by decide +kernel
theorem dX0_copyFrom_78 : decode cX0_copyFrom 78 = .ok (.aload_n 1, 1) := by decide +kernel
theorem dX0_copyFrom_79 : decode cX0_copyFrom 79 = .ok (.getfield 18, 3) := by decide +kernel
theorem dX0_copyFrom_82 : decode cX0_copyFrom 82 = .ok (.putfield 18, 3) := by decide +kernel
theorem dX0_copyFrom_85 : decode cX0_copyFrom 85 = .ok (.return_, 1) := by decide +kernel
theorem dX0_isLike_0 : decode cX0_isLike 0 = .ok (.aload_n 0, 1) := by decide +kernel
theorem dX0_isLike_1 : decode cX0_isLike 1 = .ok (.getfield 22, 3) := by decide +kernel
theorem dX0_isLike_4 : decode cX0_isLike 4 = .ok (.aload_n 1, 1) := by decide +kernel
theorem dX0_isLike_5 : decode cX0_isLike 5 = .ok (.getfield 22, 3) := by decide +kernel
theorem dX0_isLike_8 : decode cX0_isLike 8 = .ok (.if_icmp .ne 25, 3) := by decide +kernel
theorem dX0_isLike_11 : decode cX0_isLike 11 = .ok (.aload_n 0, 1) := by decide +kernel
theorem dX0_isLike_12 : decode cX0_isLike 12 = .ok (.getfield 25, 3) := by decide +kernel
theorem dX0_isLike_15 : decode cX0_isLike 15 = .ok (.aload_n 1, 1) := by decide +kernel
theorem dX0_isLike_16 : decode cX0_isLike 16 = .ok (.getfield 25, 3) := by decide +kernel
theorem dX0_isLike_19 : decode cX0_isLike 19 = .ok (.if_icmp .ne 14, 3) := by decide +kernel
theorem dX0_isLike_22 : decode cX0_isLike 22 = .ok (.aload_n 0, 1) := by decide +kernel
theorem dX0_isLike_23 : decode cX0_isLike 23 = .ok (.getfield 28, 3) := by decide +kernel
theorem dX0_isLike_26 : decode cX0_isLike 26 = .ok (.aload_n 1, 1) := by decide +kernel
theorem dX0_isLike_27 : decode cX0_isLike 27 = .ok (.getfield 28, 3) := by decide +kernel
theorem dX0_isLike_30 : decode cX0_isLike 30 = .ok (.if_icmp .eq 5, 3) := by decide +kernel
theorem dX0_isLike_33 : decode cX0_isLike 33 = .ok (.iconst 0, 1) := by decide +kernel
theorem dX0_isLike_34 : decode cX0_isLike 34 = .ok (.ireturn, 1) := by decide +kernel
theorem dX0_isLike_35 : decode cX0_isLike 35 = .ok (.aload_n 0, 1) := by decide +kernel
theorem dX0_isLike_36 : decode cX0_isLike 36 = .ok (.getfield 31, 3) := by decide +kernel
theorem dX0_isLike_39 : decode cX0_isLike 39 = .ok (.aload_n 1, 1) := by decide +kernel
theorem dX0_isLike_40 : decode cX0_isLike 40 = .ok (.getfield 31, 3) := by decide +kernel
theorem dX0_isLike_43 : decode cX0_isLike 43 = .ok (.if_icmp .ne 14, 3) := by decide +kernel
theorem dX0_isLike_46 : decode cX0_isLike 46 = .ok (.aload_n 0, 1) := by decide +kernel
theorem dX0_isLike_47 : decode cX0_isLike 47 = .ok (.getfield 34, 3) := by decide +kernel
theorem dX0_isLike_50 : decode cX0_isLike 50 = .ok (.aload_n 1, 1) := by decide +kernel
theorem dX0_isLike_51 : decode cX0_isLike 51 = .ok (.getfield 34, 3) := by decide +kernel
theorem dX0_isLike_54 : decode cX0_isLike 54 = .ok (.if_icmp .eq 5, 3) := by decide +kernel
theorem dX0_isLike_57 : decode cX0_isLike 57 = .ok (.iconst 0, 1) := by decide +kernel
theorem dX0_isLike_58 : decode cX0_isLike 58 = .ok (.ireturn, 1) := by decide +kernel
theorem dX0_isLike_59 : decode cX0_isLike 59 = .ok (.aload_n 0, 1) := by decide +kernel
theorem dX0_isLike_60 : decode cX0_isLike 60 = .ok (.getfield 37, 3) := by decide +kernel
theorem dX0_isLike_63 : decode cX0_isLike 63 = .ok (.aload_n 1, 1) := by decide +kernel
theorem dX0_isLike_64 : decode cX0_isLike 64 = .ok (.getfield 37, 3) := by decide +kernel
theorem dX0_isLike_67 : decode cX0_isLike 67 = .ok (.if_icmp .ne 14, 3) := by decide +kernel
theorem dX0_isLike_70 : decode cX0_isLike 70 = .ok (.aload_n 0, 1) := by decide +kernel
theorem dX0_isLike_71 : decode cX0_isLike 71 = .ok (.getfield 18, 3) := by decide +kernel
theorem dX0_isLike_74 : decode cX0_isLike 74 = .ok (.aload_n 1, 1) := by decide +kernel
theorem dX0_isLike_75 : decode cX0_isLike 75 = .ok (.getfield 18, 3) := by decide +kernel
theorem dX0_isLike_78 : decode cX0_isLike 78 = .ok (.if_icmp .eq 5, 3) := by decide +kernel
theorem dX0_isLike_81 : decode cX0_isLike 81 = .ok (.iconst 0, 1) := by decide +kernel
theorem dX0_isLike_82 : decode cX0_isLike 82 = .ok (.ireturn, 1) := by decide +kernel
theorem dX0_isLike_83 : decode cX0_isLike 83 = .ok (.iconst 0, 1) := by decide +kernel
theorem dX0_isLike_84 : decode cX0_isLike 84 = .ok (.istore_n 2, 1) := by decide +kernel
theorem dX0_isLike_85 : decode cX0_isLike 85 = .ok (.iload_n 2, 1) := by decide +kernel
theorem dX0_isLike_86 : decode cX0_isLike 86 = .ok (.aload_n 0, 1) := by decide +kernel
theorem dX0_isLike_87 : decode cX0_isLike 87 = .ok (.getfield 18, 3) := by decide +kernel
theorem dX0_isLike_90 : decode cX0_isLike 90 = .ok (.if_icmp .ge 26, 3) := by decide +kernel
theorem dX0_isLike_93 : decode cX0_isLike 93 = .ok (.aload_n 0, 1) := by decide +kernel
theorem dX0_isLike_94 : decode cX0_isLike 94 = .ok (.getfield 15, 3) := by decide +kernel
theorem dX0_isLike_97 : decode cX0_isLike 97 = .ok (.iload_n 2, 1) := by decide +kernel
theorem dX0_isLike_98 : decode cX0_isLike 98 = .ok (.iaload, 1) := by decide +kernel
theorem dX0_isLike_99 : decode cX0_isLike 99 = .ok (.aload_n 1, 1) := by decide +kernel
theorem dX0_isLike_100 : decode cX0_isLike 100 = .ok (.getfield 15, 3) := by decide +kernel
theorem dX0_isLike_103 : decode cX0_isLike 103 = .ok (.iload_n 2, 1) := by decide +kernel
theorem dX0_isLike_104 : decode cX0_isLike 104 = .ok (.iaload, 1) := by decide +kernel
theorem dX0_isLike_105 : decode cX0_isLike 105 = .ok (.if_icmp .eq 5, 3) := by decide +kernel
theorem dX0_isLike_108 : decode cX0_isLike 108 = .ok (.iconst 0, 1) := by decide +kernel
theorem dX0_isLike_109 : decode cX0_isLike 109 = .ok (.ireturn, 1) := by decide +kernel
theorem dX0_isLike_110 : decode cX0_isLike 110 = .ok (.iinc 2 1, 3) := by decide +kernel
theorem dX0_isLike_113 : decode cX0_isLike 113 = .ok (.goto (-28), 3) := by decide +kernel
theorem dX0_isLike_116 : decode cX0_isLike 116 = .ok (.iconst 0, 1) := by decide +kernel
theorem dX0_isLike_117 : decode cX0_isLike 117 = .ok (.istore_n 2, 1) := by decide +kernel
theorem dX0_isLike_118 : decode cX0_isLike 118 = .ok (.iload_n 2, 1) := by decide +kernel
theorem dX0_isLike_119 : decode cX0_isLike 119 = .ok (.aload_n 0, 1) := by decide +kernel
theorem dX0_isLike_120 : decode cX0_isLike 120 = .ok (.getfield 37, 3) := by decide +kernel
theorem dX0_isLike_123 : decode cX0_isLike 123 = .ok (.if_icmp .ge 26, 3) := by decide +kernel
theorem dX0_isLike_126 : decode cX0_isLike 126 = .ok (.aload_n 0, 1) := by decide +kernel
theorem dX0_isLike_127 : decode cX0_isLike 127 = .ok (.getfield 9, 3) := by decide +kernel
theorem dX0_isLike_130 : decode cX0_isLike 130 = .ok (.iload_n 2, 1) := by decide +kernel
theorem dX0_isLike_131 : decode cX0_isLike 131 = .ok (.iaload, 1) := by decide +kernel
theorem dX0_isLike_132 : decode cX0_isLike 132 = .ok (.aload_n 1, 1) := by decide +kernel
theorem dX0_isLike_133 : decode cX0_isLike 133 = .ok (.getfield 9, 3) := by decide +kernel
theorem dX0_isLike_136 : decode cX0_isLike 136 = .ok (.iload_n 2, 1) := by decide +kernel
theorem dX0_isLike_137 : decode cX0_isLike 137 = .ok (.iaload, 1) := by decide +kernel
theorem dX0_isLike_138 : decode cX0_isLike 138 = .ok (.if_icmp .eq 5, 3) := by decide +kernel
theorem dX0_isLike_141 : decode cX0_isLike 141 = .ok (.iconst 0, 1) := by decide +kernel
theorem dX0_isLike_142 : decode cX0_isLike 142 = .ok (.ireturn, 1) := by decide +kernel
theorem dX0_isLike_143 : decode cX0_isLike 143 = .ok (.iinc 2 1, 3) := by decide +kernel
theorem dX0_isLike_146 : decode cX0_isLike 146 = .ok (.goto (-28), 3) := by decide +kernel
theorem dX0_isLike_149 : decode cX0_isLike 149 = .ok (.iconst 1, 1) := by decide +kernel
theorem dX0_isLike_150 : decode cX0_isLike 150 = .ok (.ireturn, 1) := by decide +kernel
theorem dX0_cell_0 : decode cX0_cell 0 = .ok (.bipush 12, 2) := by decide +kernel
theorem dX0_cell_2 : decode cX0_cell 2 = .ok (.aload_n 0, 1) := by decide +kernel
theorem dX0_cell_3 : decode cX0_cell 3 = .ok (.getfield 25, 3) := by decide +kernel
theorem dX0_cell_6 : decode cX0_cell 6 = .ok (.imul, 1) := by decide +kernel
theorem dX0_cell_7 : decode cX0_cell 7 = .ok (.aload_n 0, 1) := by decide +kernel
theorem dX0_cell_8 : decode cX0_cell 8 = .ok (.getfield 22, 3) := by decide +kernel
theorem dX0_cell_11 : decode cX0_cell 11 = .ok (.iadd, 1) := by decide +kernel
theorem dX0_cell_12 : decode cX0_cell 12 = .ok (.ireturn, 1) := by decide +kernel
theorem dX0_stackBegin_0 : decode cX0_stackBegin 0 = .ok (.iconst 0, 1) := by decide +kernel
theorem dX0_stackBegin_1 : decode cX0_stackBegin 1 = .ok (.istore_n 2, 1) := by decide +kernel
theorem dX0_stackBegin_2 : decode cX0_stackBegin 2 = .ok (.iconst 0, 1) := by decide +kernel
theorem dX0_stackBegin_3 : decode cX0_stackBegin 3 = .ok (.istore_n 3, 1) := by decide +kernel
theorem dX0_stackBegin_4 : decode cX0_stackBegin 4 = .ok (.iload_n 3, 1) := by decide +kernel
theorem dX0_stackBegin_5 : decode cX0_stackBegin 5 = .ok (.iload_n 1, 1) := by decide +kernel
theorem dX0_stackBegin_6 : decode cX0_stackBegin 6 = .ok (.if_icmp .ge 18, 3) := by decide +kernel
theorem dX0_stackBegin_9 : decode cX0_stackBegin 9 = .ok (.iload_n 2, 1) := by decide +kernel
theorem dX0_stackBegin_10 : decode cX0_stackBegin 10 = .ok (.aload_n 0, 1) := by decide +kernel
theorem dX0_stackBegin_11 : decode cX0_stackBegin 11 = .ok (.getfield 15, 3) := by decide +kernel
theorem dX0_stackBegin_14 : decode cX0_stackBegin 14 = .ok (.iload_n 3, 1) := by decide +kernel
theorem dX0_stackBegin_15 : decode cX0_stackBegin 15 = .ok (.iaload, 1) := by decide +kernel
theorem dX0_stackBegin_16 : decode cX0_stackBegin 16 = .ok (.iadd, 1) := by decide +kernel
theorem dX0_stackBegin_17 : decode cX0_stackBegin 17 = .ok (.istore_n 2, 1) := by decide +kernel
theorem dX0_stackBegin_18 : decode cX0_stackBegin 18 = .ok (.iinc 3 1, 3) := by decide +kernel
theorem dX0_stackBegin_21 : decode cX0_stackBegin 21 = .ok (.goto (-17), 3) := by decide +kernel
theorem dX0_stackBegin_24 : decode cX0_stackBegin 24 = .ok (.iload_n 2, 1) := by decide +kernel
theorem dX0_stackBegin_25 : decode cX0_stackBegin 25 = .ok (.ireturn, 1) := by decide +kernel
theorem dX0_step_0 : decode cX0_step 0 = .ok (.aload_n 0, 1) := by decide +kernel
theorem dX0_step_1 : decode cX0_step 1 = .ok (.getfield 28, 3) := by decide +kernel
theorem dX0_step_4 : decode cX0_step 4 = .ok (.tableswitch 104 0 2 #[28, 54, 79], 28) := by decide +kernel
theorem dX0_step_32 : decode cX0_step 32 = .ok (.aload_n 0, 1) := by decide +kernel
theorem dX0_step_33 : decode cX0_step 33 = .ok (.aload_n 0, 1) := by decide +kernel
theorem dX0_step_34 : decode cX0_step 34 = .ok (.getfield 22, 3) := by decide +kernel
theorem dX0_step_37 : decode cX0_step 37 = .ok (.bipush 11, 2) := by decide +kernel
theorem dX0_step_39 : decode cX0_step 39 = .ok (.if_icmp .ge 12, 3) := by decide +kernel
theorem dX0_step_42 : decode cX0_step 42 = .ok (.aload_n 0, 1) := by decide +kernel
theorem dX0_step_43 : decode cX0_step 43 = .ok (.getfield 22, 3) := by decide +kernel
theorem dX0_step_46 : decode cX0_step 46 = .ok (.iconst 1, 1) := by decide +kernel
theorem dX0_step_47 : decode cX0_step 47 = .ok (.iadd, 1) := by decide +kernel
theorem dX0_step_48 : decode cX0_step 48 = .ok (.goto 4, 3) := by decide +kernel
theorem dX0_step_51 : decode cX0_step 51 = .ok (.iconst 0, 1) := by decide +kernel
theorem dX0_step_52 : decode cX0_step 52 = .ok (.putfield 22, 3) := by decide +kernel
theorem dX0_step_55 : decode cX0_step 55 = .ok (.goto 74, 3) := by decide +kernel
theorem dX0_step_58 : decode cX0_step 58 = .ok (.aload_n 0, 1) := by decide +kernel
theorem dX0_step_59 : decode cX0_step 59 = .ok (.aload_n 0, 1) := by decide +kernel
theorem dX0_step_60 : decode cX0_step 60 = .ok (.getfield 25, 3) := by decide +kernel
theorem dX0_step_63 : decode cX0_step 63 = .ok (.iconst 5, 1) := by decide +kernel
theorem dX0_step_64 : decode cX0_step 64 = .ok (.if_icmp .ge 12, 3) := by decide +kernel
theorem dX0_step_67 : decode cX0_step 67 = .ok (.aload_n 0, 1) := by decide +kernel
theorem dX0_step_68 : decode cX0_step 68 = .ok (.getfield 25, 3) := by decide +kernel
theorem dX0_step_71 : decode cX0_step 71 = .ok (.iconst 1, 1) := by decide +kernel
theorem dX0_step_72 : decode cX0_step 72 = .ok (.iadd, 1) := by decide +kernel
theorem dX0_step_73 : decode cX0_step 73 = .ok (.goto 4, 3) := by decide +kernel
theorem dX0_step_76 : decode cX0_step 76 = .ok (.iconst 0, 1) := by decide +kernel
theorem dX0_step_77 : decode cX0_step 77 = .ok (.putfield 25, 3) := by decide +kernel
theorem dX0_step_80 : decode cX0_step 80 = .ok (.goto 49, 3) := by decide +kernel
theorem dX0_step_83 : decode cX0_step 83 = .ok (.aload_n 0, 1) := by decide +kernel
theorem dX0_step_84 : decode cX0_step 84 = .ok (.aload_n 0, 1) := by decide +kernel
theorem dX0_step_85 : decode cX0_step 85 = .ok (.getfield 22, 3) := by decide +kernel
theorem dX0_step_88 : decode cX0_step 88 = .ok (.ifCond .le 12, 3) := by decide +kernel
theorem dX0_step_91 : decode cX0_step 91 = .ok (.aload_n 0, 1) := by decide +kernel
theorem dX0_step_92 : decode cX0_step 92 = .ok (.getfield 22, 3) := by decide +kernel
theorem dX0_step_95 : decode cX0_step 95 = .ok (.iconst 1, 1) := by decide +kernel
theorem dX0_step_96 : decode cX0_step 96 = .ok (.isub, 1) := by decide +kernel
theorem dX0_step_97 : decode cX0_step 97 = .ok (.goto 5, 3) := by decide +kernel
theorem dX0_step_100 : decode cX0_step 100 = .ok (.bipush 11, 2) := by decide +kernel
theorem dX0_step_102 : decode cX0_step 102 = .ok (.putfield 22, 3) := by decide +kernel
theorem dX0_step_105 : decode cX0_step 105 = .ok (.goto 24, 3) := by decide +kernel
theorem dX0_step_108 : decode cX0_step 108 = .ok (.aload_n 0, 1) := by decide +kernel
theorem dX0_step_109 : decode cX0_step 109 = .ok (.aload_n 0, 1) := by decide +kernel
theorem dX0_step_110 : decode cX0_step 110 = .ok (.getfield 25, 3) := by decide +kernel
theorem dX0_step_113 : decode cX0_step 113 = .ok (.ifCond .le 12, 3) := by decide +kernel
theorem dX0_step_116 : decode cX0_step 116 = .ok (.aload_n 0, 1) := by decide +kernel
theorem dX0_step_117 : decode cX0_step 117 = .ok (.getfield 25, 3) := by decide +kernel
theorem dX0_step_120 : decode cX0_step 120 = .ok (.iconst 1, 1) := by decide +kernel
theorem dX0_step_121 : decode cX0_step 121 = .ok (.isub, 1) := by decide +kernel
theorem dX0_step_122 : decode cX0_step 122 = .ok (.goto 4, 3) := by decide +kernel
theorem dX0_step_125 : decode cX0_step 125 = .ok (.iconst 5, 1) := by decide +kernel
theorem dX0_step_126 : decode cX0_step 126 = .ok (.putfield 25, 3) := by decide +kernel
theorem dX0_step_129 : decode cX0_step 129 = .ok (.return_, 1) := by decide +kernel
theorem dX0_turn_0 : decode cX0_turn 0 = .ok (.aload_n 0, 1) := by decide +kernel
theorem dX0_turn_1 : decode cX0_turn 1 = .ok (.aload_n 0, 1) := by decide +kernel
theorem dX0_turn_2 : decode cX0_turn 2 = .ok (.getfield 28, 3) := by decide +kernel
theorem dX0_turn_5 : decode cX0_turn 5 = .ok (.iload_n 1, 1) := by decide +kernel
theorem dX0_turn_6 : decode cX0_turn 6 = .ok (.iadd, 1) := by decide +kernel
theorem dX0_turn_7 : decode cX0_turn 7 = .ok (.iconst 3, 1) := by decide +kernel
theorem dX0_turn_8 : decode cX0_turn 8 = .ok (.iand, 1) := by decide +kernel
theorem dX0_turn_9 : decode cX0_turn 9 = .ok (.putfield 28, 3) := by decide +kernel
theorem dX0_turn_12 : decode cX0_turn 12 = .ok (.return_, 1) := by decide +kernel
theorem dX0_pop_0 : decode cX0_pop 0 = .ok (.aload_n 0, 1) := by decide +kernel
theorem dX0_pop_1 : decode cX0_pop 1 = .ok (.getfield 18, 3) := by decide +kernel
theorem dX0_pop_4 : decode cX0_pop 4 = .ok (.iconst 1, 1) := by decide +kernel
theorem dX0_pop_5 : decode cX0_pop 5 = .ok (.isub, 1) := by decide +kernel
theorem dX0_pop_6 : decode cX0_pop 6 = .ok (.istore_n 1, 1) := by decide +kernel
theorem dX0_pop_7 : decode cX0_pop 7 = .ok (.aload_n 0, 1) := by decide +kernel
theorem dX0_pop_8 : decode cX0_pop 8 = .ok (.getfield 15, 3) := by decide +kernel
theorem dX0_pop_11 : decode cX0_pop 11 = .ok (.iload_n 1, 1) := by decide +kernel
theorem dX0_pop_12 : decode cX0_pop 12 = .ok (.iaload, 1) := by decide +kernel
theorem dX0_pop_13 : decode cX0_pop 13 = .ok (.ifCond .gt 5, 3) := by decide +kernel
theorem dX0_pop_16 : decode cX0_pop 16 = .ok (.iconst 0, 1) := by decide +kernel
theorem dX0_pop_17 : decode cX0_pop 17 = .ok (.ireturn, 1) := by decide +kernel
theorem dX0_pop_18 : decode cX0_pop 18 = .ok (.aload_n 0, 1) := by decide +kernel
theorem dX0_pop_19 : decode cX0_pop 19 = .ok (.getfield 15, 3) := by decide +kernel
theorem dX0_pop_22 : decode cX0_pop 22 = .ok (.iload_n 1, 1) := by decide +kernel
theorem dX0_pop_23 : decode cX0_pop 23 = .ok (.dup2, 1) := by decide +kernel
theorem dX0_pop_24 : decode cX0_pop 24 = .ok (.iaload, 1) := by decide +kernel
theorem dX0_pop_25 : decode cX0_pop 25 = .ok (.iconst 1, 1) := by decide +kernel
theorem dX0_pop_26 : decode cX0_pop 26 = .ok (.isub, 1) := by decide +kernel
theorem dX0_pop_27 : decode cX0_pop 27 = .ok (.iastore, 1) := by decide +kernel
theorem dX0_pop_28 : decode cX0_pop 28 = .ok (.aload_n 0, 1) := by decide +kernel
theorem dX0_pop_29 : decode cX0_pop 29 = .ok (.dup, 1) := by decide +kernel
theorem dX0_pop_30 : decode cX0_pop 30 = .ok (.getfield 37, 3) := by decide +kernel
theorem dX0_pop_33 : decode cX0_pop 33 = .ok (.iconst 1, 1) := by decide +kernel
theorem dX0_pop_34 : decode cX0_pop 34 = .ok (.isub, 1) := by decide +kernel
theorem dX0_pop_35 : decode cX0_pop 35 = .ok (.putfield 37, 3) := by decide +kernel
theorem dX0_pop_38 : decode cX0_pop 38 = .ok (.aload_n 0, 1) := by decide +kernel
theorem dX0_pop_39 : decode cX0_pop 39 = .ok (.getfield 9, 3) := by decide +kernel
theorem dX0_pop_42 : decode cX0_pop 42 = .ok (.aload_n 0, 1) := by decide +kernel
theorem dX0_pop_43 : decode cX0_pop 43 = .ok (.getfield 37, 3) := by decide +kernel
theorem dX0_pop_46 : decode cX0_pop 46 = .ok (.iaload, 1) := by decide +kernel
theorem dX0_pop_47 : decode cX0_pop 47 = .ok (.ireturn, 1) := by decide +kernel
theorem dX0_push_0 : decode cX0_push 0 = .ok (.aload_n 0, 1) := by decide +kernel
theorem dX0_push_1 : decode cX0_push 1 = .ok (.getfield 37, 3) := by decide +kernel
theorem dX0_push_4 : decode cX0_push 4 = .ok (.bipush 16, 2) := by decide +kernel
theorem dX0_push_6 : decode cX0_push 6 = .ok (.if_icmp .lt 9, 3) := by decide +kernel
theorem dX0_push_9 : decode cX0_push 9 = .ok (.aload_n 0, 1) := by decide +kernel
theorem dX0_push_10 : decode cX0_push 10 = .ok (.iconst 2, 1) := by decide +kernel
theorem dX0_push_11 : decode cX0_push 11 = .ok (.putfield 31, 3) := by decide +kernel
theorem dX0_push_14 : decode cX0_push 14 = .ok (.return_, 1) := by decide +kernel
theorem dX0_push_15 : decode cX0_push 15 = .ok (.aload_n 0, 1) := by decide +kernel
theorem dX0_push_16 : decode cX0_push 16 = .ok (.getfield 9, 3) := by decide +kernel
theorem dX0_push_19 : decode cX0_push 19 = .ok (.aload_n 0, 1) := by decide +kernel
theorem dX0_push_20 : decode cX0_push 20 = .ok (.getfield 37, 3) := by decide +kernel
theorem dX0_push_23 : decode cX0_push 23 = .ok (.iload_n 1, 1) := by decide +kernel
theorem dX0_push_24 : decode cX0_push 24 = .ok (.iastore, 1) := by decide +kernel
theorem dX0_push_25 : decode cX0_push 25 = .ok (.aload_n 0, 1) := by decide +kernel
theorem dX0_push_26 : decode cX0_push 26 = .ok (.dup, 1) := by decide +kernel
theorem dX0_push_27 : decode cX0_push 27 = .ok (.getfield 37, 3) := by decide +kernel
theorem dX0_push_30 : decode cX0_push 30 = .ok (.iconst 1, 1) := by decide +kernel
theorem dX0_push_31 : decode cX0_push 31 = .ok (.iadd, 1) := by decide +kernel
theorem dX0_push_32 : decode cX0_push 32 = .ok (.putfield 37, 3) := by decide +kernel
theorem dX0_push_35 : decode cX0_push 35 = .ok (.aload_n 0, 1) := by decide +kernel
theorem dX0_push_36 : decode cX0_push 36 = .ok (.getfield 15, 3) := by decide +kernel
theorem dX0_push_39 : decode cX0_push 39 = .ok (.aload_n 0, 1) := by decide +kernel
theorem dX0_push_40 : decode cX0_push 40 = .ok (.getfield 18, 3) := by decide +kernel
theorem dX0_push_43 : decode cX0_push 43 = .ok (.iconst 1, 1) := by decide +kernel
theorem dX0_push_44 : decode cX0_push 44 = .ok (.isub, 1) := by decide +kernel
theorem dX0_push_45 : decode cX0_push 45 = .ok (.dup2, 1) := by decide +kernel
theorem dX0_push_46 : decode cX0_push 46 = .ok (.iaload, 1) := by decide +kernel
theorem dX0_push_47 : decode cX0_push 47 = .ok (.iconst 1, 1) := by decide +kernel
theorem dX0_push_48 : decode cX0_push 48 = .ok (.iadd, 1) := by decide +kernel
theorem dX0_push_49 : decode cX0_push 49 = .ok (.iastore, 1) := by decide +kernel
theorem dX0_push_50 : decode cX0_push 50 = .ok (.return_, 1) := by decide +kernel
theorem dX0_perform_0 : decode cX0_perform 0 = .ok (.iload_n 1, 1) := by decide +kernel
theorem dX0_perform_1 : decode cX0_perform 1 = .ok (.bipush 48, 2) := by decide +kernel
theorem dX0_perform_3 : decode cX0_perform 3 = .ok (.if_icmp .lt 18, 3) := by decide +kernel
theorem dX0_perform_6 : decode cX0_perform 6 = .ok (.iload_n 1, 1) := by decide +kernel
theorem dX0_perform_7 : decode cX0_perform 7 = .ok (.bipush 57, 2) := by decide +kernel
theorem dX0_perform_9 : decode cX0_perform 9 = .ok (.if_icmp .gt 12, 3) := by decide +kernel
theorem dX0_perform_12 : decode cX0_perform 12 = .ok (.aload_n 0, 1) := by decide +kernel
theorem dX0_perform_13 : decode cX0_perform 13 = .ok (.iload_n 1, 1) := by decide +kernel
theorem dX0_perform_14 : decode cX0_perform 14 = .ok (.bipush 48, 2) := by decide +kernel
theorem dX0_perform_16 : decode cX0_perform 16 = .ok (.isub, 1) := by decide +kernel
theorem dX0_perform_17 : decode cX0_perform 17 = .ok (.invokevirtual 46, 3) := by decide +kernel
theorem dX0_perform_20 : decode cX0_perform 20 = .ok (.return_, 1) := by decide +kernel
theorem dX0_perform_21 : decode cX0_perform 21 = .ok (.iload_n 1, 1) := by decide +kernel
theorem dX0_perform_22 : decode cX0_perform 22 = .ok (.lookupswitch 266 #[(33, 145), (36, 212), (37, 122), (42, 122), (43, 122), (45, 122), (47, 122), (58, 164), (64, 258), (92, 185), (96, 122), (119, 238), (123, 220), (125, 231)], 122) := by decide +kernel
theorem dX0_perform_144 : decode cX0_perform 144 = .ok (.aload_n 0, 1) := by decide +kernel
theorem dX0_perform_145 : decode cX0_perform 145 = .ok (.invokevirtual 50, 3) := by decide +kernel
theorem dX0_perform_148 : decode cX0_perform 148 = .ok (.istore_n 2, 1) := by decide +kernel
theorem dX0_perform_149 : decode cX0_perform 149 = .ok (.aload_n 0, 1) := by decide +kernel
theorem dX0_perform_150 : decode cX0_perform 150 = .ok (.invokevirtual 50, 3) := by decide +kernel
theorem dX0_perform_153 : decode cX0_perform 153 = .ok (.istore_n 3, 1) := by decide +kernel
theorem dX0_perform_154 : decode cX0_perform 154 = .ok (.aload_n 0, 1) := by decide +kernel
theorem dX0_perform_155 : decode cX0_perform 155 = .ok (.iload_n 1, 1) := by decide +kernel
theorem dX0_perform_156 : decode cX0_perform 156 = .ok (.iload_n 3, 1) := by decide +kernel
theorem dX0_perform_157 : decode cX0_perform 157 = .ok (.iload_n 2, 1) := by decide +kernel
theorem dX0_perform_158 : decode cX0_perform 158 = .ok (.invokestatic 54, 3) := by decide +kernel
theorem dX0_perform_161 : decode cX0_perform 161 = .ok (.invokevirtual 46, 3) := by decide +kernel
theorem dX0_perform_164 : decode cX0_perform 164 = .ok (.goto 129, 3) := by decide +kernel
theorem dX0_perform_167 : decode cX0_perform 167 = .ok (.aload_n 0, 1) := by decide +kernel
theorem dX0_perform_168 : decode cX0_perform 168 = .ok (.aload_n 0, 1) := by decide +kernel
theorem dX0_perform_169 : decode cX0_perform 169 = .ok (.invokevirtual 50, 3) := by decide +kernel
theorem dX0_perform_172 : decode cX0_perform 172 = .ok (.ifCond .ne 7, 3) := by decide +kernel
theorem dX0_perform_175 : decode cX0_perform 175 = .ok (.iconst 1, 1) := by decide +kernel
theorem dX0_perform_176 : decode cX0_perform 176 = .ok (.goto 4, 3) := by decide +kernel
theorem dX0_perform_179 : decode cX0_perform 179 = .ok (.iconst 0, 1) := by decide +kernel
theorem dX0_perform_180 : decode cX0_perform 180 = .ok (.invokevirtual 46, 3) := by decide +kernel
theorem dX0_perform_183 : decode cX0_perform 183 = .ok (.goto 110, 3) := by decide +kernel
theorem dX0_perform_186 : decode cX0_perform 186 = .ok (.aload_n 0, 1) := by decide +kernel
theorem dX0_perform_187 : decode cX0_perform 187 = .ok (.invokevirtual 50, 3) := by decide +kernel
theorem dX0_perform_190 : decode cX0_perform 190 = .ok (.istore 4, 2) := by decide +kernel
theorem dX0_perform_192 : decode cX0_perform 192 = .ok (.aload_n 0, 1) := by decide +kernel
theorem dX0_perform_193 : decode cX0_perform 193 = .ok (.iload 4, 2) := by decide +kernel
theorem dX0_perform_195 : decode cX0_perform 195 = .ok (.invokevirtual 46, 3) := by decide +kernel
theorem dX0_perform_198 : decode cX0_perform 198 = .ok (.aload_n 0, 1) := by decide +kernel
theorem dX0_perform_199 : decode cX0_perform 199 = .ok (.iload 4, 2) := by decide +kernel
theorem dX0_perform_201 : decode cX0_perform 201 = .ok (.invokevirtual 46, 3) := by decide +kernel
theorem dX0_perform_204 : decode cX0_perform 204 = .ok (.goto 89, 3) := by decide +kernel
theorem dX0_perform_207 : decode cX0_perform 207 = .ok (.aload_n 0, 1) := by decide +kernel
theorem dX0_perform_208 : decode cX0_perform 208 = .ok (.invokevirtual 50, 3) := by decide +kernel
theorem dX0_perform_211 : decode cX0_perform 211 = .ok (.istore 5, 2) := by decide +kernel
theorem dX0_perform_213 : decode cX0_perform 213 = .ok (.aload_n 0, 1) := by decide +kernel
theorem dX0_perform_214 : decode cX0_perform 214 = .ok (.invokevirtual 50, 3) := by decide +kernel
theorem dX0_perform_217 : decode cX0_perform 217 = .ok (.istore 6, 2) := by decide +kernel
theorem dX0_perform_219 : decode cX0_perform 219 = .ok (.aload_n 0, 1) := by decide +kernel
theorem dX0_perform_220 : decode cX0_perform 220 = .ok (.iload 5, 2) := by decide +kernel
theorem dX0_perform_222 : decode cX0_perform 222 = .ok (.invokevirtual 46, 3) := by decide +kernel
theorem dX0_perform_225 : decode cX0_perform 225 = .ok (.aload_n 0, 1) := by decide +kernel
theorem dX0_perform_226 : decode cX0_perform 226 = .ok (.iload 6, 2) := by decide +kernel
theorem dX0_perform_228 : decode cX0_perform 228 = .ok (.invokevirtual 46, 3) := by decide +kernel
theorem dX0_perform_231 : decode cX0_perform 231 = .ok (.goto 62, 3) := by decide +kernel
theorem dX0_perform_234 : decode cX0_perform 234 = .ok (.aload_n 0, 1) := by decide +kernel
theorem dX0_perform_235 : decode cX0_perform 235 = .ok (.invokevirtual 50, 3) := by decide +kernel
theorem dX0_perform_238 : decode cX0_perform 238 = .ok (.pop, 1) := by decide +kernel
theorem dX0_perform_239 : decode cX0_perform 239 = .ok (.goto 54, 3) := by decide +kernel
theorem dX0_perform_242 : decode cX0_perform 242 = .ok (.aload_n 0, 1) := by decide +kernel
theorem dX0_perform_243 : decode cX0_perform 243 = .ok (.aload_n 0, 1) := by decide +kernel
theorem dX0_perform_244 : decode cX0_perform 244 = .ok (.invokevirtual 50, 3) := by decide +kernel
theorem dX0_perform_247 : decode cX0_perform 247 = .ok (.invokevirtual 58, 3) := by decide +kernel
theorem dX0_perform_250 : decode cX0_perform 250 = .ok (.goto 43, 3) := by decide +kernel
theorem dX0_perform_253 : decode cX0_perform 253 = .ok (.aload_n 0, 1) := by decide +kernel
theorem dX0_perform_254 : decode cX0_perform 254 = .ok (.invokevirtual 61, 3) := by decide +kernel
theorem dX0_perform_257 : decode cX0_perform 257 = .ok (.goto 36, 3) := by decide +kernel
theorem dX0_perform_260 : decode cX0_perform 260 = .ok (.aload_n 0, 1) := by decide +kernel
theorem dX0_perform_261 : decode cX0_perform 261 = .ok (.iconst 0, 1) := by decide +kernel
theorem dX0_perform_262 : decode cX0_perform 262 = .ok (.bipush 9, 2) := by decide +kernel
theorem dX0_perform_264 : decode cX0_perform 264 = .ok (.aload_n 0, 1) := by decide +kernel
theorem dX0_perform_265 : decode cX0_perform 265 = .ok (.invokevirtual 50, 3) := by decide +kernel
theorem dX0_perform_268 : decode cX0_perform 268 = .ok (.invokestatic 64, 3) := by decide +kernel
theorem dX0_perform_271 : decode cX0_perform 271 = .ok (.invokestatic 70, 3) := by decide +kernel
theorem dX0_perform_274 : decode cX0_perform 274 = .ok (.putfield 34, 3) := by decide +kernel
theorem dX0_perform_277 : decode cX0_perform 277 = .ok (.goto 16, 3) := by decide +kernel
theorem dX0_perform_280 : decode cX0_perform 280 = .ok (.aload_n 0, 1) := by decide +kernel
theorem dX0_perform_281 : decode cX0_perform 281 = .ok (.iconst 1, 1) := by decide +kernel
theorem dX0_perform_282 : decode cX0_perform 282 = .ok (.putfield 31, 3) := by decide +kernel
theorem dX0_perform_285 : decode cX0_perform 285 = .ok (.goto 8, 3) := by decide +kernel
theorem dX0_perform_288 : decode cX0_perform 288 = .ok (.aload_n 0, 1) := by decide +kernel
theorem dX0_perform_289 : decode cX0_perform 289 = .ok (.iload_n 1, 1) := by decide +kernel
theorem dX0_perform_290 : decode cX0_perform 290 = .ok (.invokevirtual 73, 3) := by decide +kernel
theorem dX0_perform_293 : decode cX0_perform 293 = .ok (.return_, 1) := by decide +kernel
theorem dX0_combine_0 : decode cX0_combine 0 = .ok (.iload_n 0, 1) := by decide +kernel
theorem dX0_combine_1 : decode cX0_combine 1 = .ok (.tableswitch 95 37 47 #[83, 95, 95, 95, 95, 67, 59, 95, 63, 95, 71], 59) := by decide +kernel
theorem dX0_combine_60 : decode cX0_combine 60 = .ok (.iload_n 1, 1) := by decide +kernel
theorem dX0_combine_61 : decode cX0_combine 61 = .ok (.iload_n 2, 1) := by decide +kernel
theorem dX0_combine_62 : decode cX0_combine 62 = .ok (.iadd, 1) := by decide +kernel
theorem dX0_combine_63 : decode cX0_combine 63 = .ok (.ireturn, 1) := by decide +kernel
theorem dX0_combine_64 : decode cX0_combine 64 = .ok (.iload_n 1, 1) := by decide +kernel
theorem dX0_combine_65 : decode cX0_combine 65 = .ok (.iload_n 2, 1) := by decide +kernel
theorem dX0_combine_66 : decode cX0_combine 66 = .ok (.isub, 1) := by decide +kernel
theorem dX0_combine_67 : decode cX0_combine 67 = .ok (.ireturn, 1) := by decide +kernel
theorem dX0_combine_68 : decode cX0_combine 68 = .ok (.iload_n 1, 1) := by decide +kernel
theorem dX0_combine_69 : decode cX0_combine 69 = .ok (.iload_n 2, 1) := by decide +kernel
theorem dX0_combine_70 : decode cX0_combine 70 = .ok (.imul, 1) := by decide +kernel
theorem dX0_combine_71 : decode cX0_combine 71 = .ok (.ireturn, 1) := by decide +kernel
theorem dX0_combine_72 : decode cX0_combine 72 = .ok (.iload_n 2, 1) := by decide +kernel
theorem dX0_combine_73 : decode cX0_combine 73 = .ok (.ifCond .ne 7, 3) := by decide +kernel
theorem dX0_combine_76 : decode cX0_combine 76 = .ok (.iconst 0, 1) := by decide +kernel
theorem dX0_combine_77 : decode cX0_combine 77 = .ok (.goto 6, 3) := by decide +kernel
theorem dX0_combine_80 : decode cX0_combine 80 = .ok (.iload_n 1, 1) := by decide +kernel
theorem dX0_combine_81 : decode cX0_combine 81 = .ok (.iload_n 2, 1) := by decide +kernel
theorem dX0_combine_82 : decode cX0_combine 82 = .ok (.idiv, 1) := by decide +kernel
theorem dX0_combine_83 : decode cX0_combine 83 = .ok (.ireturn, 1) := by decide +kernel
theorem dX0_combine_84 : decode cX0_combine 84 = .ok (.iload_n 2, 1) := by decide +kernel
theorem dX0_combine_85 : decode cX0_combine 85 = .ok (.ifCond .ne 7, 3) := by decide +kernel
theorem dX0_combine_88 : decode cX0_combine 88 = .ok (.iconst 0, 1) := by decide +kernel
theorem dX0_combine_89 : decode cX0_combine 89 = .ok (.goto 6, 3) := by decide +kernel
theorem dX0_combine_92 : decode cX0_combine 92 = .ok (.iload_n 1, 1) := by decide +kernel
theorem dX0_combine_93 : decode cX0_combine 93 = .ok (.iload_n 2, 1) := by decide +kernel
theorem dX0_combine_94 : decode cX0_combine 94 = .ok (.irem, 1) := by decide +kernel
theorem dX0_combine_95 : decode cX0_combine 95 = .ok (.ireturn, 1) := by decide +kernel
theorem dX0_combine_96 : decode cX0_combine 96 = .ok (.iload_n 1, 1) := by decide +kernel
theorem dX0_combine_97 : decode cX0_combine 97 = .ok (.iload_n 2, 1) := by decide +kernel
theorem dX0_combine_98 : decode cX0_combine 98 = .ok (.if_icmp .le 7, 3) := by decide +kernel
theorem dX0_combine_101 : decode cX0_combine 101 = .ok (.iconst 1, 1) := by decide +kernel
theorem dX0_combine_102 : decode cX0_combine 102 = .ok (.goto 4, 3) := by decide +kernel
theorem dX0_combine_105 : decode cX0_combine 105 = .ok (.iconst 0, 1) := by decide +kernel
theorem dX0_combine_106 : decode cX0_combine 106 = .ok (.ireturn, 1) := by decide +kernel
theorem dX0_steer_0 : decode cX0_steer 0 = .ok (.iload_n 1, 1) := by decide +kernel
theorem dX0_steer_1 : decode cX0_steer 1 = .ok (.lookupswitch 192 #[(35, 185), (60, 107), (62, 91), (91, 161), (93, 169), (94, 115), (95, 123), (114, 177), (118, 99), (124, 142)], 91) := by decide +kernel
theorem dX0_steer_92 : decode cX0_steer 92 = .ok (.aload_n 0, 1) := by decide +kernel
theorem dX0_steer_93 : decode cX0_steer 93 = .ok (.iconst 0, 1) := by decide +kernel
theorem dX0_steer_94 : decode cX0_steer 94 = .ok (.putfield 28, 3) := by decide +kernel
theorem dX0_steer_97 : decode cX0_steer 97 = .ok (.goto 96, 3) := by decide +kernel
theorem dX0_steer_100 : decode cX0_steer 100 = .ok (.aload_n 0, 1) := by decide +kernel
theorem dX0_steer_101 : decode cX0_steer 101 = .ok (.iconst 1, 1) := by decide +kernel
theorem dX0_steer_102 : decode cX0_steer 102 = .ok (.putfield 28, 3) := by decide +kernel
theorem dX0_steer_105 : decode cX0_steer 105 = .ok (.goto 88, 3) := by decide +kernel
theorem dX0_steer_108 : decode cX0_steer 108 = .ok (.aload_n 0, 1) := by decide +kernel
theorem dX0_steer_109 : decode cX0_steer 109 = .ok (.iconst 2, 1) := by decide +kernel
theorem dX0_steer_110 : decode cX0_steer 110 = .ok (.putfield 28, 3) := by decide +kernel
theorem dX0_steer_113 : decode cX0_steer 113 = .ok (.goto 80, 3) := by decide +kernel
theorem dX0_steer_116 : decode cX0_steer 116 = .ok (.aload_n 0, 1) := by decide +kernel
theorem dX0_steer_117 : decode cX0_steer 117 = .ok (.iconst 3, 1) := by decide +kernel
theorem dX0_steer_118 : decode cX0_steer 118 = .ok (.putfield 28, 3) := by decide +kernel
theorem dX0_steer_121 : decode cX0_steer 121 = .ok (.goto 72, 3) := by decide +kernel
theorem dX0_steer_124 : decode cX0_steer 124 = .ok (.aload_n 0, 1) := by decide +kernel
theorem dX0_steer_125 : decode cX0_steer 125 = .ok (.aload_n 0, 1) := by decide +kernel
theorem dX0_steer_126 : decode cX0_steer 126 = .ok (.invokevirtual 50, 3) := by decide +kernel
theorem dX0_steer_129 : decode cX0_steer 129 = .ok (.ifCond .ne 7, 3) := by decide +kernel
theorem dX0_steer_132 : decode cX0_steer 132 = .ok (.iconst 0, 1) := by decide +kernel
theorem dX0_steer_133 : decode cX0_steer 133 = .ok (.goto 4, 3) := by decide +kernel
theorem dX0_steer_136 : decode cX0_steer 136 = .ok (.iconst 2, 1) := by decide +kernel
theorem dX0_steer_137 : decode cX0_steer 137 = .ok (.putfield 28, 3) := by decide +kernel
theorem dX0_steer_140 : decode cX0_steer 140 = .ok (.goto 53, 3) := by decide +kernel
theorem dX0_steer_143 : decode cX0_steer 143 = .ok (.aload_n 0, 1) := by decide +kernel
theorem dX0_steer_144 : decode cX0_steer 144 = .ok (.aload_n 0, 1) := by decide +kernel
theorem dX0_steer_145 : decode cX0_steer 145 = .ok (.invokevirtual 50, 3) := by decide +kernel
theorem dX0_steer_148 : decode cX0_steer 148 = .ok (.ifCond .ne 7, 3) := by decide +kernel
theorem dX0_steer_151 : decode cX0_steer 151 = .ok (.iconst 1, 1) := by decide +kernel
theorem dX0_steer_152 : decode cX0_steer 152 = .ok (.goto 4, 3) := by decide +kernel
theorem dX0_steer_155 : decode cX0_steer 155 = .ok (.iconst 3, 1) := by decide +kernel
theorem dX0_steer_156 : decode cX0_steer 156 = .ok (.putfield 28, 3) := by decide +kernel
theorem dX0_steer_159 : decode cX0_steer 159 = .ok (.goto 34, 3) := by decide +kernel
theorem dX0_steer_162 : decode cX0_steer 162 = .ok (.aload_n 0, 1) := by decide +kernel
theorem dX0_steer_163 : decode cX0_steer 163 = .ok (.iconst 3, 1) := by decide +kernel
theorem dX0_steer_164 : decode cX0_steer 164 = .ok (.invokevirtual 76, 3) := by decide +kernel
theorem dX0_steer_167 : decode cX0_steer 167 = .ok (.goto 26, 3) := by decide +kernel
theorem dX0_steer_170 : decode cX0_steer 170 = .ok (.aload_n 0, 1) := by decide +kernel
theorem dX0_steer_171 : decode cX0_steer 171 = .ok (.iconst 1, 1) := by decide +kernel
theorem dX0_steer_172 : decode cX0_steer 172 = .ok (.invokevirtual 76, 3) := by decide +kernel
theorem dX0_steer_175 : decode cX0_steer 175 = .ok (.goto 18, 3) := by decide +kernel
theorem dX0_steer_178 : decode cX0_steer 178 = .ok (.aload_n 0, 1) := by decide +kernel
theorem dX0_steer_179 : decode cX0_steer 179 = .ok (.iconst 2, 1) := by decide +kernel
theorem dX0_steer_180 : decode cX0_steer 180 = .ok (.invokevirtual 76, 3) := by decide +kernel
theorem dX0_steer_183 : decode cX0_steer 183 = .ok (.goto 10, 3) := by decide +kernel
theorem dX0_steer_186 : decode cX0_steer 186 = .ok (.aload_n 0, 1) := by decide +kernel
theorem dX0_steer_187 : decode cX0_steer 187 = .ok (.invokevirtual 79, 3) := by decide +kernel
theorem dX0_steer_190 : decode cX0_steer 190 = .ok (.goto 3, 3) := by decide +kernel
theorem dX0_steer_193 : decode cX0_steer 193 = .ok (.return_, 1) := by decide +kernel
theorem dX0_movable_0 : decode cX0_movable 0 = .ok (.aload_n 0, 1) := by decide +kernel
theorem dX0_movable_1 : decode cX0_movable 1 = .ok (.getfield 15, 3) := by decide +kernel
theorem dX0_movable_4 : decode cX0_movable 4 = .ok (.aload_n 0, 1) := by decide +kernel
theorem dX0_movable_5 : decode cX0_movable 5 = .ok (.getfield 18, 3) := by decide +kernel
theorem dX0_movable_8 : decode cX0_movable 8 = .ok (.iconst 1, 1) := by decide +kernel
theorem dX0_movable_9 : decode cX0_movable 9 = .ok (.isub, 1) := by decide +kernel
theorem dX0_movable_10 : decode cX0_movable 10 = .ok (.iaload, 1) := by decide +kernel
theorem dX0_movable_11 : decode cX0_movable 11 = .ok (.istore_n 2, 1) := by decide +kernel
theorem dX0_movable_12 : decode cX0_movable 12 = .ok (.iload_n 1, 1) := by decide +kernel
theorem dX0_movable_13 : decode cX0_movable 13 = .ok (.ifCond .ge 5, 3) := by decide +kernel
theorem dX0_movable_16 : decode cX0_movable 16 = .ok (.iconst 0, 1) := by decide +kernel
theorem dX0_movable_17 : decode cX0_movable 17 = .ok (.ireturn, 1) := by decide +kernel
theorem dX0_movable_18 : decode cX0_movable 18 = .ok (.iload_n 1, 1) := by decide +kernel
theorem dX0_movable_19 : decode cX0_movable 19 = .ok (.iload_n 2, 1) := by decide +kernel
theorem dX0_movable_20 : decode cX0_movable 20 = .ok (.if_icmp .le 7, 3) := by decide +kernel
theorem dX0_movable_23 : decode cX0_movable 23 = .ok (.iload_n 2, 1) := by decide +kernel
theorem dX0_movable_24 : decode cX0_movable 24 = .ok (.goto 4, 3) := by decide +kernel
theorem dX0_movable_27 : decode cX0_movable 27 = .ok (.iload_n 1, 1) := by decide +kernel
theorem dX0_movable_28 : decode cX0_movable 28 = .ok (.ireturn, 1) := by decide +kernel
theorem dX0_openStack_0 : decode cX0_openStack 0 = .ok (.aload_n 0, 1) := by decide +kernel
theorem dX0_openStack_1 : decode cX0_openStack 1 = .ok (.getfield 18, 3) := by decide +kernel
theorem dX0_openStack_4 : decode cX0_openStack 4 = .ok (.iconst 3, 1) := by decide +kernel
theorem dX0_openStack_5 : decode cX0_openStack 5 = .ok (.if_icmp .lt 4, 3) := by decide +kernel
theorem dX0_openStack_8 : decode cX0_openStack 8 = .ok (.return_, 1) := by decide +kernel
theorem dX0_openStack_9 : decode cX0_openStack 9 = .ok (.aload_n 0, 1) := by decide +kernel
theorem dX0_openStack_10 : decode cX0_openStack 10 = .ok (.iload_n 1, 1) := by decide +kernel
theorem dX0_openStack_11 : decode cX0_openStack 11 = .ok (.invokevirtual 82, 3) := by decide +kernel
theorem dX0_openStack_14 : decode cX0_openStack 14 = .ok (.istore_n 2, 1) := by decide +kernel
theorem dX0_openStack_15 : decode cX0_openStack 15 = .ok (.aload_n 0, 1) := by decide +kernel
theorem dX0_openStack_16 : decode cX0_openStack 16 = .ok (.getfield 15, 3) := by decide +kernel
theorem dX0_openStack_19 : decode cX0_openStack 19 = .ok (.aload_n 0, 1) := by decide +kernel
theorem dX0_openStack_20 : decode cX0_openStack 20 = .ok (.getfield 18, 3) := by decide +kernel
theorem dX0_openStack_23 : decode cX0_openStack 23 = .ok (.iconst 1, 1) := by decide +kernel
theorem dX0_openStack_24 : decode cX0_openStack 24 = .ok (.isub, 1) := by decide +kernel
theorem dX0_openStack_25 : decode cX0_openStack 25 = .ok (.dup2, 1) := by decide +kernel
theorem dX0_openStack_26 : decode cX0_openStack 26 = .ok (.iaload, 1) := by decide +kernel
theorem dX0_openStack_27 : decode cX0_openStack 27 = .ok (.iload_n 2, 1) := by decide +kernel
theorem dX0_openStack_28 : decode cX0_openStack 28 = .ok (.isub, 1) := by decide +kernel
theorem dX0_openStack_29 : decode cX0_openStack 29 = .ok (.iastore, 1) := by decide +kernel
theorem dX0_openStack_30 : decode cX0_openStack 30 = .ok (.aload_n 0, 1) := by decide +kernel
theorem dX0_openStack_31 : decode cX0_openStack 31 = .ok (.getfield 15, 3) := by decide +kernel
theorem dX0_openStack_34 : decode cX0_openStack 34 = .ok (.aload_n 0, 1) := by decide +kernel
theorem dX0_openStack_35 : decode cX0_openStack 35 = .ok (.getfield 18, 3) := by decide +kernel
theorem dX0_openStack_38 : decode cX0_openStack 38 = .ok (.iload_n 2, 1) := by decide +kernel
theorem dX0_openStack_39 : decode cX0_openStack 39 = .ok (.iastore, 1) := by decide +kernel
theorem dX0_openStack_40 : decode cX0_openStack 40 = .ok (.aload_n 0, 1) := by decide +kernel
theorem dX0_openStack_41 : decode cX0_openStack 41 = .ok (.dup, 1) := by decide +kernel
theorem dX0_openStack_42 : decode cX0_openStack 42 = .ok (.getfield 18, 3) := by decide +kernel
theorem dX0_openStack_45 : decode cX0_openStack 45 = .ok (.iconst 1, 1) := by decide +kernel
theorem dX0_openStack_46 : decode cX0_openStack 46 = .ok (.iadd, 1) := by decide +kernel
theorem dX0_openStack_47 : decode cX0_openStack 47 = .ok (.putfield 18, 3) := by decide +kernel
theorem dX0_openStack_50 : decode cX0_openStack 50 = .ok (.return_, 1) := by decide +kernel
theorem dX0_closeStack_0 : decode cX0_closeStack 0 = .ok (.aload_n 0, 1) := by decide +kernel
theorem dX0_closeStack_1 : decode cX0_closeStack 1 = .ok (.getfield 18, 3) := by decide +kernel
theorem dX0_closeStack_4 : decode cX0_closeStack 4 = .ok (.iconst 1, 1) := by decide +kernel
theorem dX0_closeStack_5 : decode cX0_closeStack 5 = .ok (.if_icmp .gt 9, 3) := by decide +kernel
theorem dX0_closeStack_8 : decode cX0_closeStack 8 = .ok (.aload_n 0, 1) := by decide +kernel
theorem dX0_closeStack_9 : decode cX0_closeStack 9 = .ok (.iconst 2, 1) := by decide +kernel
theorem dX0_closeStack_10 : decode cX0_closeStack 10 = .ok (.invokevirtual 76, 3) := by decide +kernel
theorem dX0_closeStack_13 : decode cX0_closeStack 13 = .ok (.return_, 1) := by decide +kernel
theorem dX0_closeStack_14 : decode cX0_closeStack 14 = .ok (.aload_n 0, 1) := by decide +kernel
theorem dX0_closeStack_15 : decode cX0_closeStack 15 = .ok (.aload_n 0, 1) := by decide +kernel
theorem dX0_closeStack_16 : decode cX0_closeStack 16 = .ok (.invokevirtual 50, 3) := by decide +kernel
theorem dX0_closeStack_19 : decode cX0_closeStack 19 = .ok (.invokevirtual 82, 3) := by decide +kernel
theorem dX0_closeStack_22 : decode cX0_closeStack 22 = .ok (.istore_n 1, 1) := by decide +kernel
theorem dX0_closeStack_23 : decode cX0_closeStack 23 = .ok (.aload_n 0, 1) := by decide +kernel
theorem dX0_closeStack_24 : decode cX0_closeStack 24 = .ok (.getfield 18, 3) := by decide +kernel
theorem dX0_closeStack_27 : decode cX0_closeStack 27 = .ok (.iconst 1, 1) := by decide +kernel
theorem dX0_closeStack_28 : decode cX0_closeStack 28 = .ok (.isub, 1) := by decide +kernel
theorem dX0_closeStack_29 : decode cX0_closeStack 29 = .ok (.istore_n 2, 1) := by decide +kernel
theorem dX0_closeStack_30 : decode cX0_closeStack 30 = .ok (.aload_n 0, 1) := by decide +kernel
theorem dX0_closeStack_31 : decode cX0_closeStack 31 = .ok (.getfield 37, 3) := by decide +kernel
theorem dX0_closeStack_34 : decode cX0_closeStack 34 = .ok (.aload_n 0, 1) := by decide +kernel
theorem dX0_closeStack_35 : decode cX0_closeStack 35 = .ok (.getfield 15, 3) := by decide +kernel
theorem dX0_closeStack_38 : decode cX0_closeStack 38 = .ok (.iload_n 2, 1) := by decide +kernel
theorem dX0_closeStack_39 : decode cX0_closeStack 39 = .ok (.iaload, 1) := by decide +kernel
theorem dX0_closeStack_40 : decode cX0_closeStack 40 = .ok (.isub, 1) := by decide +kernel
theorem dX0_closeStack_41 : decode cX0_closeStack 41 = .ok (.istore_n 3, 1) := by decide +kernel
theorem dX0_closeStack_42 : decode cX0_closeStack 42 = .ok (.aload_n 0, 1) := by decide +kernel
theorem dX0_closeStack_43 : decode cX0_closeStack 43 = .ok (.getfield 9, 3) := by decide +kernel
theorem dX0_closeStack_46 : decode cX0_closeStack 46 = .ok (.aload_n 0, 1) := by decide +kernel
theorem dX0_closeStack_47 : decode cX0_closeStack 47 = .ok (.getfield 37, 3) := by decide +kernel
theorem dX0_closeStack_50 : decode cX0_closeStack 50 = .ok (.iload_n 1, 1) := by decide +kernel
theorem dX0_closeStack_51 : decode cX0_closeStack 51 = .ok (.isub, 1) := by decide +kernel
theorem dX0_closeStack_52 : decode cX0_closeStack 52 = .ok (.aload_n 0, 1) := by decide +kernel
theorem dX0_closeStack_53 : decode cX0_closeStack 53 = .ok (.getfield 9, 3) := by decide +kernel
theorem dX0_closeStack_56 : decode cX0_closeStack 56 = .ok (.iload_n 3, 1) := by decide +kernel
theorem dX0_closeStack_57 : decode cX0_closeStack 57 = .ok (.iload_n 1, 1) := by decide +kernel
theorem dX0_closeStack_58 : decode cX0_closeStack 58 = .ok (.invokestatic 40, 3) := by decide +kernel
theorem dX0_closeStack_61 : decode cX0_closeStack 61 = .ok (.aload_n 0, 1) := by decide +kernel
theorem dX0_closeStack_62 : decode cX0_closeStack 62 = .ok (.iload_n 3, 1) := by decide +kernel
theorem dX0_closeStack_63 : decode cX0_closeStack 63 = .ok (.iload_n 1, 1) := by decide +kernel
theorem dX0_closeStack_64 : decode cX0_closeStack 64 = .ok (.iadd, 1) := by decide +kernel
theorem dX0_closeStack_65 : decode cX0_closeStack 65 = .ok (.putfield 37, 3) := by decide +kernel
theorem dX0_closeStack_68 : decode cX0_closeStack 68 = .ok (.aload_n 0, 1) := by decide +kernel
theorem dX0_closeStack_69 : decode cX0_closeStack 69 = .ok (.getfield 15, 3) := by decide +kernel
theorem dX0_closeStack_72 : decode cX0_closeStack 72 = .ok (.iload_n 2, 1) := by decide +kernel
theorem dX0_closeStack_73 : decode cX0_closeStack 73 = .ok (.iconst 1, 1) := by decide +kernel
theorem dX0_closeStack_74 : decode cX0_closeStack 74 = .ok (.isub, 1) := by decide +kernel
theorem dX0_closeStack_75 : decode cX0_closeStack 75 = .ok (.dup2, 1) := by decide +kernel
theorem dX0_closeStack_76 : decode cX0_closeStack 76 = .ok (.iaload, 1) := by decide +kernel
theorem dX0_closeStack_77 : decode cX0_closeStack 77 = .ok (.iload_n 1, 1) := by decide +kernel
theorem dX0_closeStack_78 : decode cX0_closeStack 78 = .ok (.iadd, 1) := by decide +kernel
theorem dX0_closeStack_79 : decode cX0_closeStack 79 = .ok (.iastore, 1) := by decide +kernel
theorem dX0_closeStack_80 : decode cX0_closeStack 80 = .ok (.aload_n 0, 1) := by decide +kernel
theorem dX0_closeStack_81 : decode cX0_closeStack 81 = .ok (.dup, 1) := by decide +kernel
theorem dX0_closeStack_82 : decode cX0_closeStack 82 = .ok (.getfield 18, 3) := by decide +kernel
theorem dX0_closeStack_85 : decode cX0_closeStack 85 = .ok (.iconst 1, 1) := by decide +kernel
theorem dX0_closeStack_86 : decode cX0_closeStack 86 = .ok (.isub, 1) := by decide +kernel
theorem dX0_closeStack_87 : decode cX0_closeStack 87 = .ok (.putfield 18, 3) := by decide +kernel
theorem dX0_closeStack_90 : decode cX0_closeStack 90 = .ok (.return_, 1) := by decide +kernel
