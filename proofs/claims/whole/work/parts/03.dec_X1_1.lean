theorem dX1_init_0 : decode cX1_init 0 = .ok (.aload_n 0, 1) := by decide +kernel
theorem dX1_init_1 : decode cX1_init 1 = .ok (.invokespecial 3, 3) := by decide +kernel
theorem dX1_init_4 : decode cX1_init 4 = .ok (.aload_n 0, 1) := by decide +kernel
theorem dX1_init_5 : decode cX1_init 5 = .ok (.bipush 72, 2) := by decide +kernel
theorem dX1_init_7 : decode cX1_init 7 = .ok (.newarray .int, 2) := by decide +kernel
theorem dX1_init_9 : decode cX1_init 9 = .ok (.putfield 9, 3) := by decide +kernel
theorem dX1_init_12 : decode cX1_init 12 = .ok (.aload_n 0, 1) := by decide +kernel
theorem dX1_init_13 : decode cX1_init 13 = .ok (.bipush 72, 2) := by decide +kernel
theorem dX1_init_15 : decode cX1_init 15 = .ok (.newarray .int, 2) := by decide +kernel
theorem dX1_init_17 : decode cX1_init 17 = .ok (.putfield 15, 3) := by decide +kernel
theorem dX1_init_20 : decode cX1_init 20 = .ok (.aload_n 0, 1) := by decide +kernel
theorem dX1_init_21 : decode cX1_init 21 = .ok (.iconst 4, 1) := by decide +kernel
theorem dX1_init_22 : decode cX1_init 22 = .ok (.anewarray 18, 3) := by decide +kernel
theorem dX1_init_25 : decode cX1_init 25 = .ok (.putfield 20, 3) := by decide +kernel
theorem dX1_init_28 : decode cX1_init 28 = .ok (.aload_n 0, 1) := by decide +kernel
theorem dX1_init_29 : decode cX1_init 29 = .ok (.iconst 4, 1) := by decide +kernel
theorem dX1_init_30 : decode cX1_init 30 = .ok (.newarray .int, 2) := by decide +kernel
theorem dX1_init_32 : decode cX1_init 32 = .ok (.putfield 24, 3) := by decide +kernel
theorem dX1_init_35 : decode cX1_init 35 = .ok (.aload_n 0, 1) := by decide +kernel
theorem dX1_init_36 : decode cX1_init 36 = .ok (.bipush 16, 2) := by decide +kernel
theorem dX1_init_38 : decode cX1_init 38 = .ok (.newarray .int, 2) := by decide +kernel
theorem dX1_init_40 : decode cX1_init 40 = .ok (.putfield 27, 3) := by decide +kernel
theorem dX1_init_43 : decode cX1_init 43 = .ok (.aload_n 0, 1) := by decide +kernel
theorem dX1_init_44 : decode cX1_init 44 = .ok (.bipush 20, 2) := by decide +kernel
theorem dX1_init_46 : decode cX1_init 46 = .ok (.newarray .int, 2) := by decide +kernel
theorem dX1_init_48 : decode cX1_init 48 = .ok (.putfield 30, 3) := by decide +kernel
theorem dX1_init_51 : decode cX1_init 51 = .ok (.iconst 0, 1) := by decide +kernel
theorem dX1_init_52 : decode cX1_init 52 = .ok (.istore_n 1, 1) := by decide +kernel
theorem dX1_init_53 : decode cX1_init 53 = .ok (.iload_n 1, 1) := by decide +kernel
theorem dX1_init_54 : decode cX1_init 54 = .ok (.bipush 72, 2) := by decide +kernel
theorem dX1_init_56 : decode cX1_init 56 = .ok (.if_icmp .ge 25, 3) := by decide +kernel
theorem dX1_init_59 : decode cX1_init 59 = .ok (.aload_n 0, 1) := by decide +kernel
theorem dX1_init_60 : decode cX1_init 60 = .ok (.getfield 9, 3) := by decide +kernel
theorem dX1_init_63 : decode cX1_init 63 = .ok (.iload_n 1, 1) := by decide +kernel
theorem dX1_init_64 : decode cX1_init 64 = .ok (.bipush 32, 2) := by decide +kernel
theorem dX1_init_66 : decode cX1_init 66 = .ok (.iastore, 1) := by decide +kernel
theorem dX1_init_67 : decode cX1_init 67 = .ok (.aload_n 0, 1) := by decide +kernel
theorem dX1_init_68 : decode cX1_init 68 = .ok (.getfield 15, 3) := by decide +kernel
theorem dX1_init_71 : decode cX1_init 71 = .ok (.iload_n 1, 1) := by decide +kernel
theorem dX1_init_72 : decode cX1_init 72 = .ok (.bipush 32, 2) := by decide +kernel
theorem dX1_init_74 : decode cX1_init 74 = .ok (.iastore, 1) := by decide +kernel
theorem dX1_init_75 : decode cX1_init 75 = .ok (.iinc 1 1, 3) := by decide +kernel
theorem dX1_init_78 : decode cX1_init 78 = .ok (.goto (-25), 3) := by decide +kernel
theorem dX1_init_81 : decode cX1_init 81 = .ok (.iconst 0, 1) := by decide +kernel
theorem dX1_init_82 : decode cX1_init 82 = .ok (.istore_n 1, 1) := by decide +kernel
theorem dX1_init_83 : decode cX1_init 83 = .ok (.iload_n 1, 1) := by decide +kernel
theorem dX1_init_84 : decode cX1_init 84 = .ok (.iconst 4, 1) := by decide +kernel
theorem dX1_init_85 : decode cX1_init 85 = .ok (.if_icmp .ge 22, 3) := by decide +kernel
theorem dX1_init_88 : decode cX1_init 88 = .ok (.aload_n 0, 1) := by decide +kernel
theorem dX1_init_89 : decode cX1_init 89 = .ok (.getfield 20, 3) := by decide +kernel
theorem dX1_init_92 : decode cX1_init 92 = .ok (.iload_n 1, 1) := by decide +kernel
theorem dX1_init_93 : decode cX1_init 93 = .ok (.new 18, 3) := by decide +kernel
theorem dX1_init_96 : decode cX1_init 96 = .ok (.dup, 1) := by decide +kernel
theorem dX1_init_97 : decode cX1_init 97 = .ok (.invokespecial 33, 3) := by decide +kernel
theorem dX1_init_100 : decode cX1_init 100 = .ok (.aastore, 1) := by decide +kernel
theorem dX1_init_101 : decode cX1_init 101 = .ok (.iinc 1 1, 3) := by decide +kernel
theorem dX1_init_104 : decode cX1_init 104 = .ok (.goto (-21), 3) := by decide +kernel
theorem dX1_init_107 : decode cX1_init 107 = .ok (.aload_n 0, 1) := by decide +kernel
theorem dX1_init_108 : decode cX1_init 108 = .ok (.iconst 1, 1) := by decide +kernel
theorem dX1_init_109 : decode cX1_init 109 = .ok (.putfield 34, 3) := by decide +kernel
theorem dX1_init_112 : decode cX1_init 112 = .ok (.return_, 1) := by decide +kernel
theorem dX1_copyFrom_0 : decode cX1_copyFrom 0 = .ok (.aload_n 1, 1) := by decide +kernel
theorem dX1_copyFrom_1 : decode cX1_copyFrom 1 = .ok (.getfield 9, 3) := by decide +kernel
theorem dX1_copyFrom_4 : decode cX1_copyFrom 4 = .ok (.iconst 0, 1) := by decide +kernel
theorem dX1_copyFrom_5 : decode cX1_copyFrom 5 = .ok (.aload_n 0, 1) := by decide +kernel
theorem dX1_copyFrom_6 : decode cX1_copyFrom 6 = .ok (.getfield 9, 3) := by decide +kernel
theorem dX1_copyFrom_9 : decode cX1_copyFrom 9 = .ok (.iconst 0, 1) := by decide +kernel
theorem dX1_copyFrom_10 : decode cX1_copyFrom 10 = .ok (.bipush 72, 2) := by decide +kernel
theorem dX1_copyFrom_12 : decode cX1_copyFrom 12 = .ok (.invokestatic 38, 3) := by decide +kernel
theorem dX1_copyFrom_15 : decode cX1_copyFrom 15 = .ok (.aload_n 1, 1) := by decide +kernel
theorem dX1_copyFrom_16 : decode cX1_copyFrom 16 = .ok (.getfield 15, 3) := by decide +kernel
theorem dX1_copyFrom_19 : decode cX1_copyFrom 19 = .ok (.iconst 0, 1) := by decide +kernel
theorem dX1_copyFrom_20 : decode cX1_copyFrom 20 = .ok (.aload_n 0, 1) := by decide +kernel
theorem dX1_copyFrom_21 : decode cX1_copyFrom 21 = .ok (.getfield 15, 3) := by decide +kernel
theorem dX1_copyFrom_24 : decode cX1_copyFrom 24 = .ok (.iconst 0, 1) := by decide +kernel
theorem dX1_copyFrom_25 : decode cX1_copyFrom 25 = .ok (.bipush 72, 2) := by decide +kernel
theorem dX1_copyFrom_27 : decode cX1_copyFrom 27 = .ok (.invokestatic 38, 3) := by decide +kernel
theorem dX1_copyFrom_30 : decode cX1_copyFrom 30 = .ok (.aload_n 0, 1) := by decide +kernel
theorem dX1_copyFrom_31 : decode cX1_copyFrom 31 = .ok (.aload_n 1, 1) := by decide +kernel
theorem dX1_copyFrom_32 : decode cX1_copyFrom 32 = .ok (.getfield 34, 3) := by decide +kernel
theorem dX1_copyFrom_35 : decode cX1_copyFrom 35 = .ok (.putfield 34, 3) := by decide +kernel
theorem dX1_copyFrom_38 : decode cX1_copyFrom 38 = .ok (.iconst 0, 1) := by decide +kernel
theorem dX1_copyFrom_39 : decode cX1_copyFrom 39 = .ok (.istore_n 2, 1) := by decide +kernel
theorem dX1_copyFrom_40 : decode cX1_copyFrom 40 = .ok (.iload_n 2, 1) := by decide +kernel
theorem dX1_copyFrom_41 : decode cX1_copyFrom 41 = .ok (.aload_n 0, 1) := by decide +kernel
theorem dX1_copyFrom_42 : decode cX1_copyFrom 42 = .ok (.getfield 34, 3) := by decide +kernel
theorem dX1_copyFrom_45 : decode cX1_copyFrom 45 = .ok (.if_icmp .ge 36, 3) := by decide +kernel
theorem dX1_copyFrom_48 : decode cX1_copyFrom 48 = .ok (.aload_n 0, 1) := by decide +kernel
theorem dX1_copyFrom_49 : decode cX1_copyFrom 49 = .ok (.getfield 20, 3) := by decide +kernel
theorem dX1_copyFrom_52 : decode cX1_copyFrom 52 = .ok (.iload_n 2, 1) := by decide +kernel
theorem dX1_copyFrom_53 : decode cX1_copyFrom 53 = .ok (.aaload, 1) := by decide +kernel
theorem dX1_copyFrom_54 : decode cX1_copyFrom 54 = .ok (.aload_n 1, 1) := by decide +kernel
theorem dX1_copyFrom_55 : decode cX1_copyFrom 55 = .ok (.getfield 20, 3) := by decide +kernel
theorem dX1_copyFrom_58 : decode cX1_copyFrom 58 = .ok (.iload_n 2, 1) := by decide +kernel
theorem dX1_copyFrom_59 : decode cX1_copyFrom 59 = .ok (.aaload, 1) := by decide +kernel
theorem dX1_copyFrom_60 : decode cX1_copyFrom 60 = .ok (.invokevirtual 44, 3) := by decide +kernel
theorem dX1_copyFrom_63 : decode cX1_copyFrom 63 = .ok (.aload_n 0, 1) := by decide +kernel
theorem dX1_copyFrom_64 : decode cX1_copyFrom 64 = .ok (.getfield 24, 3) := by decide +kernel
theorem dX1_copyFrom_67 : decode cX1_copyFrom 67 = .ok (.iload_n 2, 1) := by decide +kernel
theorem dX1_copyFrom_68 : decode cX1_copyFrom 68 = .ok (.aload_n 1, 1) := by decide +kernel
theorem dX1_copyFrom_69 : decode cX1_copyFrom 69 = .ok (.getfield 24, 3) := by decide +kernel
theorem dX1_copyFrom_72 : decode cX1_copyFrom 72 = .ok (.iload_n 2, 1) := by decide +kernel
theorem dX1_copyFrom_73 : decode cX1_copyFrom 73 = .ok (.iaload, 1) := by decide +kernel
theorem dX1_copyFrom_74 : decode cX1_copyFrom 74 = .ok (.iastore, 1) := by decide +kernel
theorem dX1_copyFrom_75 : decode cX1_copyFrom 75 = .ok (.iinc 2 1, 3) := by decide +kernel
theorem dX1_copyFrom_78 : decode cX1_copyFrom 78 = .ok (.goto (-38), 3) := by decide +kernel
theorem dX1_copyFrom_81 : decode cX1_copyFrom 81 = .ok (.aload_n 1, 1) := by decide +kernel
theorem dX1_copyFrom_82 : decode cX1_copyFrom 82 = .ok (.getfield 27, 3) := by decide +kernel
theorem dX1_copyFrom_85 : decode cX1_copyFrom 85 = .ok (.iconst 0, 1) := by decide +kernel
theorem dX1_copyFrom_86 : decode cX1_copyFrom 86 = .ok (.aload_n 0, 1) := by decide +kernel
theorem dX1_copyFrom_87 : decode cX1_copyFrom 87 = .ok (.getfield 27, 3) := by decide +kernel
theorem dX1_copyFrom_90 : decode cX1_copyFrom 90 = .ok (.iconst 0, 1) := by decide +kernel
theorem dX1_copyFrom_91 : decode cX1_copyFrom 91 = .ok (.bipush 16, 2) := by decide +kernel
theorem dX1_copyFrom_93 : decode cX1_copyFrom 93 = .ok (.invokestatic 38, 3) := by decide +kernel
theorem dX1_copyFrom_96 : decode cX1_copyFrom 96 = .ok (.aload_n 0, 1) := by decide +kernel
theorem dX1_copyFrom_97 : decode cX1_copyFrom 97 = .ok (.aload_n 1, 1) := by decide +kernel
theorem dX1_copyFrom_98 : decode cX1_copyFrom 98 = .ok (.getfield 48, 3) := by decide +kernel
theorem dX1_copyFrom_101 : decode cX1_copyFrom 101 = .ok (.putfield 48, 3) := by decide +kernel
theorem dX1_copyFrom_104 : decode cX1_copyFrom 104 = .ok (.aload_n 1, 1) := by decide +kernel
theorem dX1_copyFrom_105 : decode cX1_copyFrom 105 = .ok (.getfield 30, 3) := by decide +kernel
theorem dX1_copyFrom_108 : decode cX1_copyFrom 108 = .ok (.iconst 0, 1) := by decide +kernel
theorem dX1_copyFrom_109 : decode cX1_copyFrom 109 = .ok (.aload_n 0, 1) := by decide +kernel
theorem dX1_copyFrom_110 : decode cX1_copyFrom 110 = .ok (.getfield 30, 3) := by decide +kernel
theorem dX1_copyFrom_113 : decode cX1_copyFrom 113 = .ok (.iconst 0, 1) := by decide +kernel
theorem dX1_copyFrom_114 : decode cX1_copyFrom 114 = .ok (.bipush 20, 2) := by decide +kernel
theorem dX1_copyFrom_116 : decode cX1_copyFrom 116 = .ok (.invokestatic 38, 3) := by decide +kernel
theorem dX1_copyFrom_119 : decode cX1_copyFrom 119 = .ok (.aload_n 0, 1) := by decide +kernel
theorem dX1_copyFrom_120 : decode cX1_copyFrom 120 = .ok (.aload_n 1, 1) := by decide +kernel
theorem dX1_copyFrom_121 : decode cX1_copyFrom 121 = .ok (.getfield 51, 3) := by decide +kernel
theorem dX1_copyFrom_124 : decode cX1_copyFrom 124 = .ok (.putfield 51, 3) := by decide +kernel
theorem dX1_copyFrom_127 : decode cX1_copyFrom 127 = .ok (.aload_n 0, 1) := by decide +kernel
theorem dX1_copyFrom_128 : decode cX1_copyFrom 128 = .ok (.aload_n 1, 1) := by decide +kernel
theorem dX1_copyFrom_129 : decode cX1_copyFrom 129 = .ok (.getfield 54, 3) := by decide +kernel
theorem dX1_copyFrom_132 : decode cX1_copyFrom 132 = .ok (.putfield 54, 3) := by decide +kernel
theorem dX1_copyFrom_135 : decode cX1_copyFrom 135 = .ok (.aload_n 0, 1) := by decide +kernel
theorem dX1_copyFrom_136 : decode cX1_copyFrom 136 = .ok (.aload_n 1, 1) := by decide +kernel
theorem dX1_copyFrom_137 : decode cX1_copyFrom 137 = .ok (.getfield 57, 3) := by decide +kernel
theorem dX1_copyFrom_140 : decode cX1_copyFrom 140 = .ok (.putfield 57, 3) := by decide +kernel
theorem dX1_copyFrom_143 : decode cX1_copyFrom 143 = .ok (.return_, 1) := by decide +kernel
theorem dX1_hasConfigurationOf_0 : decode cX1_hasConfigurationOf 0 = .ok (.aload_n 0, 1) := by decide +kernel
theorem dX1_hasConfigurationOf_1 : decode cX1_hasConfigurationOf 1 = .ok (.getfield 34, 3) := by decide +kernel
theorem dX1_hasConfigurationOf_4 : decode cX1_hasConfigurationOf 4 = .ok (.aload_n 1, 1) := by decide +kernel
theorem dX1_hasConfigurationOf_5 : decode cX1_hasConfigurationOf 5 = .ok (.getfield 34, 3) := by decide +kernel
theorem dX1_hasConfigurationOf_8 : decode cX1_hasConfigurationOf 8 = .ok (.if_icmp .ne 14, 3) := by decide +kernel
theorem dX1_hasConfigurationOf_11 : decode cX1_hasConfigurationOf 11 = .ok (.aload_n 0, 1) := by decide +kernel
theorem dX1_hasConfigurationOf_12 : decode cX1_hasConfigurationOf 12 = .ok (.getfield 48, 3) := by decide +kernel
theorem dX1_hasConfigurationOf_15 : decode cX1_hasConfigurationOf 15 = .ok (.aload_n 1, 1) := by decide +kernel
theorem dX1_hasConfigurationOf_16 : decode cX1_hasConfigurationOf 16 = .ok (.getfield 48, 3) := by decide +kernel
theorem dX1_hasConfigurationOf_19 : decode cX1_hasConfigurationOf 19 = .ok (.if_icmp .eq 5, 3) := by decide +kernel
theorem dX1_hasConfigurationOf_22 : decode cX1_hasConfigurationOf 22 = .ok (.iconst 0, 1) := by decide +kernel
theorem dX1_hasConfigurationOf_23 : decode cX1_hasConfigurationOf 23 = .ok (.ireturn, 1) := by decide +kernel
theorem dX1_hasConfigurationOf_24 : decode cX1_hasConfigurationOf 24 = .ok (.iconst 0, 1) := by decide +kernel
theorem dX1_hasConfigurationOf_25 : decode cX1_hasConfigurationOf 25 = .ok (.istore_n 2, 1) := by decide +kernel
theorem dX1_hasConfigurationOf_26 : decode cX1_hasConfigurationOf 26 = .ok (.iload_n 2, 1) := by decide +kernel
theorem dX1_hasConfigurationOf_27 : decode cX1_hasConfigurationOf 27 = .ok (.aload_n 0, 1) := by decide +kernel
theorem dX1_hasConfigurationOf_28 : decode cX1_hasConfigurationOf 28 = .ok (.getfield 34, 3) := by decide +kernel
theorem dX1_hasConfigurationOf_31 : decode cX1_hasConfigurationOf 31 = .ok (.if_icmp .ge 44, 3) := by decide +kernel
theorem dX1_hasConfigurationOf_34 : decode cX1_hasConfigurationOf 34 = .ok (.aload_n 0, 1) := by decide +kernel
theorem dX1_hasConfigurationOf_35 : decode cX1_hasConfigurationOf 35 = .ok (.getfield 24, 3) := by decide +kernel
theorem dX1_hasConfigurationOf_38 : decode cX1_hasConfigurationOf 38 = .ok (.iload_n 2, 1) := by decide +kernel
theorem dX1_hasConfigurationOf_39 : decode cX1_hasConfigurationOf 39 = .ok (.iaload, 1) := by decide +kernel
theorem dX1_hasConfigurationOf_40 : decode cX1_hasConfigurationOf 40 = .ok (.aload_n 1, 1) := by decide +kernel
theorem dX1_hasConfigurationOf_41 : decode cX1_hasConfigurationOf 41 = .ok (.getfield 24, 3) := by decide +kernel
theorem dX1_hasConfigurationOf_44 : decode cX1_hasConfigurationOf 44 = .ok (.iload_n 2, 1) := by decide +kernel
theorem dX1_hasConfigurationOf_45 : decode cX1_hasConfigurationOf 45 = .ok (.iaload, 1) := by decide +kernel
theorem dX1_hasConfigurationOf_46 : decode cX1_hasConfigurationOf 46 = .ok (.if_icmp .ne 21, 3) := by decide +kernel
theorem dX1_hasConfigurationOf_49 : decode cX1_hasConfigurationOf 49 = .ok (.aload_n 0, 1) := by decide +kernel
theorem dX1_hasConfigurationOf_50 : decode cX1_hasConfigurationOf 50 = .ok (.getfield 20, 3) := by decide +kernel
theorem dX1_hasConfigurationOf_53 : decode cX1_hasConfigurationOf 53 = .ok (.iload_n 2, 1) := by decide +kernel
theorem dX1_hasConfigurationOf_54 : decode cX1_hasConfigurationOf 54 = .ok (.aaload, 1) := by decide +kernel
theorem dX1_hasConfigurationOf_55 : decode cX1_hasConfigurationOf 55 = .ok (.aload_n 1, 1) := by decide +kernel
theorem dX1_hasConfigurationOf_56 : decode cX1_hasConfigurationOf 56 = .ok (.getfield 20, 3) := by decide +kernel
theorem dX1_hasConfigurationOf_59 : decode cX1_hasConfigurationOf 59 = .ok (.iload_n 2, 1) := by decide +kernel
theorem dX1_hasConfigurationOf_60 : decode cX1_hasConfigurationOf 60 = .ok (.aaload, 1) := by decide +kernel
theorem dX1_hasConfigurationOf_61 : decode cX1_hasConfigurationOf 61 = .ok (.invokevirtual 60, 3) := by decide +kernel
theorem dX1_hasConfigurationOf_64 : decode cX1_hasConfigurationOf 64 = .ok (.ifCond .ne 5, 3) := by decide +kernel
theorem dX1_hasConfigurationOf_67 : decode cX1_hasConfigurationOf 67 = .ok (.iconst 0, 1) := by decide +kernel
theorem dX1_hasConfigurationOf_68 : decode cX1_hasConfigurationOf 68 = .ok (.ireturn, 1) := by decide +kernel
theorem dX1_hasConfigurationOf_69 : decode cX1_hasConfigurationOf 69 = .ok (.iinc 2 1, 3) := by decide +kernel
theorem dX1_hasConfigurationOf_72 : decode cX1_hasConfigurationOf 72 = .ok (.goto (-46), 3) := by decide +kernel
theorem dX1_hasConfigurationOf_75 : decode cX1_hasConfigurationOf 75 = .ok (.iconst 0, 1) := by decide +kernel
theorem dX1_hasConfigurationOf_76 : decode cX1_hasConfigurationOf 76 = .ok (.istore_n 2, 1) := by decide +kernel
theorem dX1_hasConfigurationOf_77 : decode cX1_hasConfigurationOf 77 = .ok (.iload_n 2, 1) := by decide +kernel
theorem dX1_hasConfigurationOf_78 : decode cX1_hasConfigurationOf 78 = .ok (.aload_n 0, 1) := by decide +kernel
theorem dX1_hasConfigurationOf_79 : decode cX1_hasConfigurationOf 79 = .ok (.getfield 48, 3) := by decide +kernel
theorem dX1_hasConfigurationOf_82 : decode cX1_hasConfigurationOf 82 = .ok (.if_icmp .ge 26, 3) := by decide +kernel
theorem dX1_hasConfigurationOf_85 : decode cX1_hasConfigurationOf 85 = .ok (.aload_n 0, 1) := by decide +kernel
theorem dX1_hasConfigurationOf_86 : decode cX1_hasConfigurationOf 86 = .ok (.getfield 27, 3) := by decide +kernel
theorem dX1_hasConfigurationOf_89 : decode cX1_hasConfigurationOf 89 = .ok (.iload_n 2, 1) := by decide +kernel
theorem dX1_hasConfigurationOf_90 : decode cX1_hasConfigurationOf 90 = .ok (.iaload, 1) := by decide +kernel
theorem dX1_hasConfigurationOf_91 : decode cX1_hasConfigurationOf 91 = .ok (.aload_n 1, 1) := by decide +kernel
theorem dX1_hasConfigurationOf_92 : decode cX1_hasConfigurationOf 92 = .ok (.getfield 27, 3) := by decide +kernel
theorem dX1_hasConfigurationOf_95 : decode cX1_hasConfigurationOf 95 = .ok (.iload_n 2, 1) := by decide +kernel
theorem dX1_hasConfigurationOf_96 : decode cX1_hasConfigurationOf 96 = .ok (.iaload, 1) := by decide +kernel
theorem dX1_hasConfigurationOf_97 : decode cX1_hasConfigurationOf 97 = .ok (.if_icmp .eq 5, 3) := by decide +kernel
theorem dX1_hasConfigurationOf_100 : decode cX1_hasConfigurationOf 100 = .ok (.iconst 0, 1) := by decide +kernel
theorem dX1_hasConfigurationOf_101 : decode cX1_hasConfigurationOf 101 = .ok (.ireturn, 1) := by decide +kernel
theorem dX1_hasConfigurationOf_102 : decode cX1_hasConfigurationOf 102 = .ok (.iinc 2 1, 3) := by decide +kernel
theorem dX1_hasConfigurationOf_105 : decode cX1_hasConfigurationOf 105 = .ok (.goto (-28), 3) := by decide +kernel
theorem dX1_hasConfigurationOf_108 : decode cX1_hasConfigurationOf 108 = .ok (.iconst 0, 1) := by decide +kernel
theorem dX1_hasConfigurationOf_109 : decode cX1_hasConfigurationOf 109 = .ok (.istore_n 2, 1) := by decide +kernel
theorem dX1_hasConfigurationOf_110 : decode cX1_hasConfigurationOf 110 = .ok (.iload_n 2, 1) := by decide +kernel
theorem dX1_hasConfigurationOf_111 : decode cX1_hasConfigurationOf 111 = .ok (.bipush 72, 2) := by decide +kernel
theorem dX1_hasConfigurationOf_113 : decode cX1_hasConfigurationOf 113 = .ok (.if_icmp .ge 26, 3) := by decide +kernel
theorem dX1_hasConfigurationOf_116 : decode cX1_hasConfigurationOf 116 = .ok (.aload_n 0, 1) := by decide +kernel
theorem dX1_hasConfigurationOf_117 : decode cX1_hasConfigurationOf 117 = .ok (.getfield 15, 3) := by decide +kernel
theorem dX1_hasConfigurationOf_120 : decode cX1_hasConfigurationOf 120 = .ok (.iload_n 2, 1) := by decide +kernel
theorem dX1_hasConfigurationOf_121 : decode cX1_hasConfigurationOf 121 = .ok (.iaload, 1) := by decide +kernel
theorem dX1_hasConfigurationOf_122 : decode cX1_hasConfigurationOf 122 = .ok (.aload_n 1, 1) := by decide +kernel
theorem dX1_hasConfigurationOf_123 : decode cX1_hasConfigurationOf 123 = .ok (.getfield 15, 3) := by decide +kernel
theorem dX1_hasConfigurationOf_126 : decode cX1_hasConfigurationOf 126 = .ok (.iload_n 2, 1) := by decide +kernel
theorem dX1_hasConfigurationOf_127 : decode cX1_hasConfigurationOf 127 = .ok (.iaload, 1) := by decide +kernel
theorem dX1_hasConfigurationOf_128 : decode cX1_hasConfigurationOf 128 = .ok (.if_icmp .eq 5, 3) := by decide +kernel
theorem dX1_hasConfigurationOf_131 : decode cX1_hasConfigurationOf 131 = .ok (.iconst 0, 1) := by decide +kernel
theorem dX1_hasConfigurationOf_132 : decode cX1_hasConfigurationOf 132 = .ok (.ireturn, 1) := by decide +kernel
theorem dX1_hasConfigurationOf_133 : decode cX1_hasConfigurationOf 133 = .ok (.iinc 2 1, 3) := by decide +kernel
theorem dX1_hasConfigurationOf_136 : decode cX1_hasConfigurationOf 136 = .ok (.goto (-26), 3) := by decide +kernel
theorem dX1_hasConfigurationOf_139 : decode cX1_hasConfigurationOf 139 = .ok (.iconst 1, 1) := by decide +kernel
theorem dX1_hasConfigurationOf_140 : decode cX1_hasConfigurationOf 140 = .ok (.ireturn, 1) := by decide +kernel
theorem dX1_beginRun_0 : decode cX1_beginRun 0 = .ok (.aload_n 0, 1) := by decide +kernel
theorem dX1_beginRun_1 : decode cX1_beginRun 1 = .ok (.getfield 9, 3) := by decide +kernel
theorem dX1_beginRun_4 : decode cX1_beginRun 4 = .ok (.iconst 0, 1) := by decide +kernel
theorem dX1_beginRun_5 : decode cX1_beginRun 5 = .ok (.aload_n 0, 1) := by decide +kernel
theorem dX1_beginRun_6 : decode cX1_beginRun 6 = .ok (.getfield 15, 3) := by decide +kernel
theorem dX1_beginRun_9 : decode cX1_beginRun 9 = .ok (.iconst 0, 1) := by decide +kernel
theorem dX1_beginRun_10 : decode cX1_beginRun 10 = .ok (.bipush 72, 2) := by decide +kernel
theorem dX1_beginRun_12 : decode cX1_beginRun 12 = .ok (.invokestatic 38, 3) := by decide +kernel
theorem dX1_beginRun_15 : decode cX1_beginRun 15 = .ok (.aload_n 0, 1) := by decide +kernel
theorem dX1_beginRun_16 : decode cX1_beginRun 16 = .ok (.getfield 20, 3) := by decide +kernel
theorem dX1_beginRun_19 : decode cX1_beginRun 19 = .ok (.iconst 0, 1) := by decide +kernel
theorem dX1_beginRun_20 : decode cX1_beginRun 20 = .ok (.aaload, 1) := by decide +kernel
theorem dX1_beginRun_21 : decode cX1_beginRun 21 = .ok (.invokevirtual 64, 3) := by decide +kernel
theorem dX1_beginRun_24 : decode cX1_beginRun 24 = .ok (.aload_n 0, 1) := by decide +kernel
theorem dX1_beginRun_25 : decode cX1_beginRun 25 = .ok (.getfield 24, 3) := by decide +kernel
theorem dX1_beginRun_28 : decode cX1_beginRun 28 = .ok (.iconst 0, 1) := by decide +kernel
theorem dX1_beginRun_29 : decode cX1_beginRun 29 = .ok (.iconst 0, 1) := by decide +kernel
theorem dX1_beginRun_30 : decode cX1_beginRun 30 = .ok (.iastore, 1) := by decide +kernel
theorem dX1_beginRun_31 : decode cX1_beginRun 31 = .ok (.aload_n 0, 1) := by decide +kernel
theorem dX1_beginRun_32 : decode cX1_beginRun 32 = .ok (.iconst 1, 1) := by decide +kernel
theorem dX1_beginRun_33 : decode cX1_beginRun 33 = .ok (.putfield 34, 3) := by decide +kernel
theorem dX1_beginRun_36 : decode cX1_beginRun 36 = .ok (.aload_n 0, 1) := by decide +kernel
theorem dX1_beginRun_37 : decode cX1_beginRun 37 = .ok (.iconst 0, 1) := by decide +kernel
theorem dX1_beginRun_38 : decode cX1_beginRun 38 = .ok (.putfield 51, 3) := by decide +kernel
theorem dX1_beginRun_41 : decode cX1_beginRun 41 = .ok (.aload_n 0, 1) := by decide +kernel
theorem dX1_beginRun_42 : decode cX1_beginRun 42 = .ok (.iconst 0, 1) := by decide +kernel
theorem dX1_beginRun_43 : decode cX1_beginRun 43 = .ok (.putfield 54, 3) := by decide +kernel
theorem dX1_beginRun_46 : decode cX1_beginRun 46 = .ok (.aload_n 0, 1) := by decide +kernel
theorem dX1_beginRun_47 : decode cX1_beginRun 47 = .ok (.iconst 0, 1) := by decide +kernel
theorem dX1_beginRun_48 : decode cX1_beginRun 48 = .ok (.putfield 57, 3) := by decide +kernel
theorem dX1_beginRun_51 : decode cX1_beginRun 51 = .ok (.return_, 1) := by decide +kernel
theorem dX1_countFilledCells_0 : decode cX1_countFilledCells 0 = .ok (.iconst 0, 1) := by decide +kernel
theorem dX1_countFilledCells_1 : decode cX1_countFilledCells 1 = .ok (.istore_n 1, 1) := by decide +kernel
theorem dX1_countFilledCells_2 : decode cX1_countFilledCells 2 = .ok (.iconst 0, 1) := by decide +kernel
theorem dX1_countFilledCells_3 : decode cX1_countFilledCells 3 = .ok (.istore_n 2, 1) := by decide +kernel
theorem dX1_countFilledCells_4 : decode cX1_countFilledCells 4 = .ok (.iload_n 2, 1) := by decide +kernel
theorem dX1_countFilledCells_5 : decode cX1_countFilledCells 5 = .ok (.bipush 72, 2) := by decide +kernel
theorem dX1_countFilledCells_7 : decode cX1_countFilledCells 7 = .ok (.if_icmp .ge 23, 3) := by decide +kernel
theorem dX1_countFilledCells_10 : decode cX1_countFilledCells 10 = .ok (.aload_n 0, 1) := by decide +kernel
theorem dX1_countFilledCells_11 : decode cX1_countFilledCells 11 = .ok (.getfield 15, 3) := by decide +kernel
theorem dX1_countFilledCells_14 : decode cX1_countFilledCells 14 = .ok (.iload_n 2, 1) := by decide +kernel
theorem dX1_countFilledCells_15 : decode cX1_countFilledCells 15 = .ok (.iaload, 1) := by decide +kernel
theorem dX1_countFilledCells_16 : decode cX1_countFilledCells 16 = .ok (.bipush 32, 2) := by decide +kernel
theorem dX1_countFilledCells_18 : decode cX1_countFilledCells 18 = .ok (.if_icmp .eq 6, 3) := by decide +kernel
theorem dX1_countFilledCells_21 : decode cX1_countFilledCells 21 = .ok (.iinc 1 1, 3) := by decide +kernel
theorem dX1_countFilledCells_24 : decode cX1_countFilledCells 24 = .ok (.iinc 2 1, 3) := by decide +kernel
theorem dX1_countFilledCells_27 : decode cX1_countFilledCells 27 = .ok (.goto (-23), 3) := by decide +kernel
theorem dX1_countFilledCells_30 : decode cX1_countFilledCells 30 = .ok (.iload_n 1, 1) := by decide +kernel
theorem dX1_countFilledCells_31 : decode cX1_countFilledCells 31 = .ok (.ireturn, 1) := by decide +kernel
theorem dX1_isHalted_0 : decode cX1_isHalted 0 = .ok (.iconst 0, 1) := by decide +kernel
theorem dX1_isHalted_1 : decode cX1_isHalted 1 = .ok (.istore_n 1, 1) := by decide +kernel
theorem dX1_isHalted_2 : decode cX1_isHalted 2 = .ok (.iload_n 1, 1) := by decide +kernel
theorem dX1_isHalted_3 : decode cX1_isHalted 3 = .ok (.aload_n 0, 1) := by decide +kernel
theorem dX1_isHalted_4 : decode cX1_isHalted 4 = .ok (.getfield 34, 3) := by decide +kernel
theorem dX1_isHalted_7 : decode cX1_isHalted 7 = .ok (.if_icmp .ge 23, 3) := by decide +kernel
theorem dX1_isHalted_10 : decode cX1_isHalted 10 = .ok (.aload_n 0, 1) := by decide +kernel
theorem dX1_isHalted_11 : decode cX1_isHalted 11 = .ok (.getfield 20, 3) := by decide +kernel
theorem dX1_isHalted_14 : decode cX1_isHalted 14 = .ok (.iload_n 1, 1) := by decide +kernel
theorem dX1_isHalted_15 : decode cX1_isHalted 15 = .ok (.aaload, 1) := by decide +kernel
theorem dX1_isHalted_16 : decode cX1_isHalted 16 = .ok (.getfield 67, 3) := by decide +kernel
theorem dX1_isHalted_19 : decode cX1_isHalted 19 = .ok (.ifCond .ne 5, 3) := by decide +kernel
theorem dX1_isHalted_22 : decode cX1_isHalted 22 = .ok (.iconst 0, 1) := by decide +kernel
theorem dX1_isHalted_23 : decode cX1_isHalted 23 = .ok (.ireturn, 1) := by decide +kernel
theorem dX1_isHalted_24 : decode cX1_isHalted 24 = .ok (.iinc 1 1, 3) := by decide +kernel
theorem dX1_isHalted_27 : decode cX1_isHalted 27 = .ok (.goto (-25), 3) := by decide +kernel
theorem dX1_isHalted_30 : decode cX1_isHalted 30 = .ok (.iconst 1, 1) := by decide +kernel
theorem dX1_isHalted_31 : decode cX1_isHalted 31 = .ok (.ireturn, 1) := by decide +kernel
theorem dX1_addInput_0 : decode cX1_addInput 0 = .ok (.aload_n 0, 1) := by decide +kernel
theorem dX1_addInput_1 : decode cX1_addInput 1 = .ok (.getfield 48, 3) := by decide +kernel
theorem dX1_addInput_4 : decode cX1_addInput 4 = .ok (.bipush 16, 2) := by decide +kernel
theorem dX1_addInput_6 : decode cX1_addInput 6 = .ok (.if_icmp .ge 23, 3) := by decide +kernel
theorem dX1_addInput_9 : decode cX1_addInput 9 = .ok (.aload_n 0, 1) := by decide +kernel
theorem dX1_addInput_10 : decode cX1_addInput 10 = .ok (.getfield 27, 3) := by decide +kernel
theorem dX1_addInput_13 : decode cX1_addInput 13 = .ok (.aload_n 0, 1) := by decide +kernel
theorem dX1_addInput_14 : decode cX1_addInput 14 = .ok (.getfield 48, 3) := by decide +kernel
theorem dX1_addInput_17 : decode cX1_addInput 17 = .ok (.iload_n 1, 1) := by decide +kernel
theorem dX1_addInput_18 : decode cX1_addInput 18 = .ok (.iastore, 1) := by decide +kernel
theorem dX1_addInput_19 : decode cX1_addInput 19 = .ok (.aload_n 0, 1) := by decide +kernel
theorem dX1_addInput_20 : decode cX1_addInput 20 = .ok (.dup, 1) := by decide +kernel
theorem dX1_addInput_21 : decode cX1_addInput 21 = .ok (.getfield 48, 3) := by decide +kernel
theorem dX1_addInput_24 : decode cX1_addInput 24 = .ok (.iconst 1, 1) := by decide +kernel
theorem dX1_addInput_25 : decode cX1_addInput 25 = .ok (.iadd, 1) := by decide +kernel
theorem dX1_addInput_26 : decode cX1_addInput 26 = .ok (.putfield 48, 3) := by decide +kernel
theorem dX1_addInput_29 : decode cX1_addInput 29 = .ok (.return_, 1) := by decide +kernel
theorem dX1_performTick_0 : decode cX1_performTick 0 = .ok (.aload_n 0, 1) := by decide +kernel
theorem dX1_performTick_1 : decode cX1_performTick 1 = .ok (.getfield 34, 3) := by decide +kernel
theorem dX1_performTick_4 : decode cX1_performTick 4 = .ok (.istore_n 1, 1) := by decide +kernel
theorem dX1_performTick_5 : decode cX1_performTick 5 = .ok (.iconst 0, 1) := by decide +kernel
theorem dX1_performTick_6 : decode cX1_performTick 6 = .ok (.istore_n 2, 1) := by decide +kernel
theorem dX1_performTick_7 : decode cX1_performTick 7 = .ok (.iload_n 2, 1) := by decide +kernel
theorem dX1_performTick_8 : decode cX1_performTick 8 = .ok (.iconst 4, 1) := by decide +kernel
theorem dX1_performTick_9 : decode cX1_performTick 9 = .ok (.if_icmp .ge 32, 3) := by decide +kernel
theorem dX1_performTick_12 : decode cX1_performTick 12 = .ok (.iload_n 2, 1) := by decide +kernel
theorem dX1_performTick_13 : decode cX1_performTick 13 = .ok (.aload_n 0, 1) := by decide +kernel
theorem dX1_performTick_14 : decode cX1_performTick 14 = .ok (.getfield 34, 3) := by decide +kernel
theorem dX1_performTick_17 : decode cX1_performTick 17 = .ok (.if_icmp .ge 18, 3) := by decide +kernel
theorem dX1_performTick_20 : decode cX1_performTick 20 = .ok (.aload_n 0, 1) := by decide +kernel
theorem dX1_performTick_21 : decode cX1_performTick 21 = .ok (.getfield 24, 3) := by decide +kernel
theorem dX1_performTick_24 : decode cX1_performTick 24 = .ok (.iload_n 2, 1) := by decide +kernel
theorem dX1_performTick_25 : decode cX1_performTick 25 = .ok (.iaload, 1) := by decide +kernel
theorem dX1_performTick_26 : decode cX1_performTick 26 = .ok (.iload_n 1, 1) := by decide +kernel
theorem dX1_performTick_27 : decode cX1_performTick 27 = .ok (.if_icmp .ge 8, 3) := by decide +kernel
theorem dX1_performTick_30 : decode cX1_performTick 30 = .ok (.aload_n 0, 1) := by decide +kernel
theorem dX1_performTick_31 : decode cX1_performTick 31 = .ok (.iload_n 2, 1) := by decide +kernel
theorem dX1_performTick_32 : decode cX1_performTick 32 = .ok (.invokevirtual 70, 3) := by decide +kernel
theorem dX1_performTick_35 : decode cX1_performTick 35 = .ok (.iinc 2 1, 3) := by decide +kernel
theorem dX1_performTick_38 : decode cX1_performTick 38 = .ok (.goto (-31), 3) := by decide +kernel
theorem dX1_performTick_41 : decode cX1_performTick 41 = .ok (.aload_n 0, 1) := by decide +kernel
theorem dX1_performTick_42 : decode cX1_performTick 42 = .ok (.dup, 1) := by decide +kernel
theorem dX1_performTick_43 : decode cX1_performTick 43 = .ok (.getfield 57, 3) := by decide +kernel
theorem dX1_performTick_46 : decode cX1_performTick 46 = .ok (.iconst 1, 1) := by decide +kernel
theorem dX1_performTick_47 : decode cX1_performTick 47 = .ok (.iadd, 1) := by decide +kernel
theorem dX1_performTick_48 : decode cX1_performTick 48 = .ok (.putfield 57, 3) := by decide +kernel
theorem dX1_performTick_51 : decode cX1_performTick 51 = .ok (.return_, 1) := by decide +kernel
theorem dX1_takeTurn_0 : decode cX1_takeTurn 0 = .ok (.aload_n 0, 1) := by decide +kernel
theorem dX1_takeTurn_1 : decode cX1_takeTurn 1 = .ok (.getfield 20, 3) := by decide +kernel
theorem dX1_takeTurn_4 : decode cX1_takeTurn 4 = .ok (.aload_n 0, 1) := by decide +kernel
theorem dX1_takeTurn_5 : decode cX1_takeTurn 5 = .ok (.getfield 24, 3) := by decide +kernel
theorem dX1_takeTurn_8 : decode cX1_takeTurn 8 = .ok (.iload_n 1, 1) := by decide +kernel
theorem dX1_takeTurn_9 : decode cX1_takeTurn 9 = .ok (.iaload, 1) := by decide +kernel
theorem dX1_takeTurn_10 : decode cX1_takeTurn 10 = .ok (.aaload, 1) := by decide +kernel
theorem dX1_takeTurn_11 : decode cX1_takeTurn 11 = .ok (.astore_n 2, 1) := by decide +kernel
theorem dX1_takeTurn_12 : decode cX1_takeTurn 12 = .ok (.aload_n 2, 1) := by decide +kernel
theorem dX1_takeTurn_13 : decode cX1_takeTurn 13 = .ok (.getfield 67, 3) := by decide +kernel
theorem dX1_takeTurn_16 : decode cX1_takeTurn 16 = .ok (.ifCond .eq 4, 3) := by decide +kernel
theorem dX1_takeTurn_19 : decode cX1_takeTurn 19 = .ok (.return_, 1) := by decide +kernel
theorem dX1_takeTurn_20 : decode cX1_takeTurn 20 = .ok (.aload_n 2, 1) := by decide +kernel
theorem dX1_takeTurn_21 : decode cX1_takeTurn 21 = .ok (.getfield 74, 3) := by decide +kernel
theorem dX1_takeTurn_24 : decode cX1_takeTurn 24 = .ok (.ifCond .le 14, 3) := by decide +kernel
theorem dX1_takeTurn_27 : decode cX1_takeTurn 27 = .ok (.aload_n 2, 1) := by decide +kernel
theorem dX1_takeTurn_28 : decode cX1_takeTurn 28 = .ok (.dup, 1) := by decide +kernel
theorem dX1_takeTurn_29 : decode cX1_takeTurn 29 = .ok (.getfield 74, 3) := by decide +kernel
theorem dX1_takeTurn_32 : decode cX1_takeTurn 32 = .ok (.iconst 1, 1) := by decide +kernel
theorem dX1_takeTurn_33 : decode cX1_takeTurn 33 = .ok (.isub, 1) := by decide +kernel
theorem dX1_takeTurn_34 : decode cX1_takeTurn 34 = .ok (.putfield 74, 3) := by decide +kernel
theorem dX1_takeTurn_37 : decode cX1_takeTurn 37 = .ok (.return_, 1) := by decide +kernel
theorem dX1_takeTurn_38 : decode cX1_takeTurn 38 = .ok (.aload_n 0, 1) := by decide +kernel
theorem dX1_takeTurn_39 : decode cX1_takeTurn 39 = .ok (.getfield 15, 3) := by decide +kernel
theorem dX1_takeTurn_42 : decode cX1_takeTurn 42 = .ok (.aload_n 2, 1) := by decide +kernel
theorem dX1_takeTurn_43 : decode cX1_takeTurn 43 = .ok (.invokevirtual 77, 3) := by decide +kernel
theorem dX1_takeTurn_46 : decode cX1_takeTurn 46 = .ok (.iaload, 1) := by decide +kernel
theorem dX1_takeTurn_47 : decode cX1_takeTurn 47 = .ok (.istore_n 3, 1) := by decide +kernel
theorem dX1_takeTurn_48 : decode cX1_takeTurn 48 = .ok (.iload_n 3, 1) := by decide +kernel
theorem dX1_takeTurn_49 : decode cX1_takeTurn 49 = .ok (.lookupswitch 94 #[(46, 67), (103, 51), (112, 59), (116, 86), (126, 78)], 51) := by decide +kernel
theorem dX1_takeTurn_100 : decode cX1_takeTurn 100 = .ok (.aload_n 0, 1) := by decide +kernel
theorem dX1_takeTurn_101 : decode cX1_takeTurn 101 = .ok (.aload_n 2, 1) := by decide +kernel
theorem dX1_takeTurn_102 : decode cX1_takeTurn 102 = .ok (.invokevirtual 81, 3) := by decide +kernel
theorem dX1_takeTurn_105 : decode cX1_takeTurn 105 = .ok (.goto 43, 3) := by decide +kernel
theorem dX1_takeTurn_108 : decode cX1_takeTurn 108 = .ok (.aload_n 0, 1) := by decide +kernel
theorem dX1_takeTurn_109 : decode cX1_takeTurn 109 = .ok (.aload_n 2, 1) := by decide +kernel
theorem dX1_takeTurn_110 : decode cX1_takeTurn 110 = .ok (.invokevirtual 84, 3) := by decide +kernel
theorem dX1_takeTurn_113 : decode cX1_takeTurn 113 = .ok (.goto 35, 3) := by decide +kernel
theorem dX1_takeTurn_116 : decode cX1_takeTurn 116 = .ok (.aload_n 0, 1) := by decide +kernel
theorem dX1_takeTurn_117 : decode cX1_takeTurn 117 = .ok (.aload_n 2, 1) := by decide +kernel
theorem dX1_takeTurn_118 : decode cX1_takeTurn 118 = .ok (.invokevirtual 87, 3) := by decide +kernel
theorem dX1_takeTurn_121 : decode cX1_takeTurn 121 = .ok (.invokevirtual 90, 3) := by decide +kernel
theorem dX1_takeTurn_124 : decode cX1_takeTurn 124 = .ok (.goto 24, 3) := by decide +kernel
theorem dX1_takeTurn_127 : decode cX1_takeTurn 127 = .ok (.aload_n 0, 1) := by decide +kernel
theorem dX1_takeTurn_128 : decode cX1_takeTurn 128 = .ok (.aload_n 2, 1) := by decide +kernel
theorem dX1_takeTurn_129 : decode cX1_takeTurn 129 = .ok (.invokevirtual 93, 3) := by decide +kernel
theorem dX1_takeTurn_132 : decode cX1_takeTurn 132 = .ok (.goto 16, 3) := by decide +kernel
theorem dX1_takeTurn_135 : decode cX1_takeTurn 135 = .ok (.aload_n 0, 1) := by decide +kernel
theorem dX1_takeTurn_136 : decode cX1_takeTurn 136 = .ok (.iload_n 1, 1) := by decide +kernel
theorem dX1_takeTurn_137 : decode cX1_takeTurn 137 = .ok (.invokevirtual 96, 3) := by decide +kernel
theorem dX1_takeTurn_140 : decode cX1_takeTurn 140 = .ok (.goto 8, 3) := by decide +kernel
theorem dX1_takeTurn_143 : decode cX1_takeTurn 143 = .ok (.aload_n 2, 1) := by decide +kernel
theorem dX1_takeTurn_144 : decode cX1_takeTurn 144 = .ok (.iload_n 3, 1) := by decide +kernel
theorem dX1_takeTurn_145 : decode cX1_takeTurn 145 = .ok (.invokevirtual 99, 3) := by decide +kernel
theorem dX1_takeTurn_148 : decode cX1_takeTurn 148 = .ok (.aload_n 2, 1) := by decide +kernel
theorem dX1_takeTurn_149 : decode cX1_takeTurn 149 = .ok (.getfield 67, 3) := by decide +kernel
theorem dX1_takeTurn_152 : decode cX1_takeTurn 152 = .ok (.ifCond .ne 7, 3) := by decide +kernel
theorem dX1_takeTurn_155 : decode cX1_takeTurn 155 = .ok (.aload_n 2, 1) := by decide +kernel
theorem dX1_takeTurn_156 : decode cX1_takeTurn 156 = .ok (.invokevirtual 102, 3) := by decide +kernel
theorem dX1_takeTurn_159 : decode cX1_takeTurn 159 = .ok (.return_, 1) := by decide +kernel
theorem dX1_wrappedCell_0 : decode cX1_wrappedCell 0 = .ok (.bipush 12, 2) := by decide +kernel
theorem dX1_wrappedCell_2 : decode cX1_wrappedCell 2 = .ok (.iload_n 1, 1) := by decide +kernel
theorem dX1_wrappedCell_3 : decode cX1_wrappedCell 3 = .ok (.bipush 6, 2) := by decide +kernel
theorem dX1_wrappedCell_5 : decode cX1_wrappedCell 5 = .ok (.invokestatic 105, 3) := by decide +kernel
theorem dX1_wrappedCell_8 : decode cX1_wrappedCell 8 = .ok (.imul, 1) := by decide +kernel
theorem dX1_wrappedCell_9 : decode cX1_wrappedCell 9 = .ok (.iload_n 0, 1) := by decide +kernel
theorem dX1_wrappedCell_10 : decode cX1_wrappedCell 10 = .ok (.bipush 12, 2) := by decide +kernel
theorem dX1_wrappedCell_12 : decode cX1_wrappedCell 12 = .ok (.invokestatic 105, 3) := by decide +kernel
theorem dX1_wrappedCell_15 : decode cX1_wrappedCell 15 = .ok (.iadd, 1) := by decide +kernel
theorem dX1_wrappedCell_16 : decode cX1_wrappedCell 16 = .ok (.ireturn, 1) := by decide +kernel
theorem dX1_fetchCell_0 : decode cX1_fetchCell 0 = .ok (.aload_n 1, 1) := by decide +kernel
theorem dX1_fetchCell_1 : decode cX1_fetchCell 1 = .ok (.invokevirtual 87, 3) := by decide +kernel
theorem dX1_fetchCell_4 : decode cX1_fetchCell 4 = .ok (.istore_n 2, 1) := by decide +kernel
theorem dX1_fetchCell_5 : decode cX1_fetchCell 5 = .ok (.aload_n 1, 1) := by decide +kernel
theorem dX1_fetchCell_6 : decode cX1_fetchCell 6 = .ok (.invokevirtual 87, 3) := by decide +kernel
theorem dX1_fetchCell_9 : decode cX1_fetchCell 9 = .ok (.istore_n 3, 1) := by decide +kernel
theorem dX1_fetchCell_10 : decode cX1_fetchCell 10 = .ok (.aload_n 1, 1) := by decide +kernel
theorem dX1_fetchCell_11 : decode cX1_fetchCell 11 = .ok (.aload_n 0, 1) := by decide +kernel
theorem dX1_fetchCell_12 : decode cX1_fetchCell 12 = .ok (.getfield 15, 3) := by decide +kernel
theorem dX1_fetchCell_15 : decode cX1_fetchCell 15 = .ok (.iload_n 3, 1) := by decide +kernel
theorem dX1_fetchCell_16 : decode cX1_fetchCell 16 = .ok (.iload_n 2, 1) := by decide +kernel
theorem dX1_fetchCell_17 : decode cX1_fetchCell 17 = .ok (.invokestatic 111, 3) := by decide +kernel
theorem dX1_fetchCell_20 : decode cX1_fetchCell 20 = .ok (.iaload, 1) := by decide +kernel
theorem dX1_fetchCell_21 : decode cX1_fetchCell 21 = .ok (.invokevirtual 114, 3) := by decide +kernel
theorem dX1_fetchCell_24 : decode cX1_fetchCell 24 = .ok (.return_, 1) := by decide +kernel
theorem dX1_storeCell_0 : decode cX1_storeCell 0 = .ok (.aload_n 1, 1) := by decide +kernel
theorem dX1_storeCell_1 : decode cX1_storeCell 1 = .ok (.invokevirtual 87, 3) := by decide +kernel
theorem dX1_storeCell_4 : decode cX1_storeCell 4 = .ok (.istore_n 2, 1) := by decide +kernel
theorem dX1_storeCell_5 : decode cX1_storeCell 5 = .ok (.aload_n 1, 1) := by decide +kernel
theorem dX1_storeCell_6 : decode cX1_storeCell 6 = .ok (.invokevirtual 87, 3) := by decide +kernel
theorem dX1_storeCell_9 : decode cX1_storeCell 9 = .ok (.istore_n 3, 1) := by decide +kernel
theorem dX1_storeCell_10 : decode cX1_storeCell 10 = .ok (.aload_n 1, 1) := by decide +kernel
theorem dX1_storeCell_11 : decode cX1_storeCell 11 = .ok (.invokevirtual 87, 3) := by decide +kernel
theorem dX1_storeCell_14 : decode cX1_storeCell 14 = .ok (.istore 4, 2) := by decide +kernel
theorem dX1_storeCell_16 : decode cX1_storeCell 16 = .ok (.iload 4, 2) := by decide +kernel
theorem dX1_storeCell_18 : decode cX1_storeCell 18 = .ok (.invokestatic 117, 3) := by decide +kernel
theorem dX1_storeCell_21 : decode cX1_storeCell 21 = .ok (.ifCond .eq 15, 3) := by decide +kernel
theorem dX1_storeCell_24 : decode cX1_storeCell 24 = .ok (.aload_n 0, 1) := by decide +kernel
theorem dX1_storeCell_25 : decode cX1_storeCell 25 = .ok (.getfield 15, 3) := by decide +kernel
theorem dX1_storeCell_28 : decode cX1_storeCell 28 = .ok (.iload_n 3, 1) := by decide +kernel
theorem dX1_storeCell_29 : decode cX1_storeCell 29 = .ok (.iload_n 2, 1) := by decide +kernel
theorem dX1_storeCell_30 : decode cX1_storeCell 30 = .ok (.invokestatic 111, 3) := by decide +kernel
theorem dX1_storeCell_33 : decode cX1_storeCell 33 = .ok (.iload 4, 2) := by decide +kernel
theorem dX1_storeCell_35 : decode cX1_storeCell 35 = .ok (.iastore, 1) := by decide +kernel
theorem dX1_storeCell_36 : decode cX1_storeCell 36 = .ok (.return_, 1) := by decide +kernel
theorem dX1_addOutput_0 : decode cX1_addOutput 0 = .ok (.aload_n 0, 1) := by decide +kernel
theorem dX1_addOutput_1 : decode cX1_addOutput 1 = .ok (.getfield 51, 3) := by decide +kernel
theorem dX1_addOutput_4 : decode cX1_addOutput 4 = .ok (.bipush 20, 2) := by decide +kernel
theorem dX1_addOutput_6 : decode cX1_addOutput 6 = .ok (.if_icmp .lt 24, 3) := by decide +kernel
theorem dX1_addOutput_9 : decode cX1_addOutput 9 = .ok (.aload_n 0, 1) := by decide +kernel
theorem dX1_addOutput_10 : decode cX1_addOutput 10 = .ok (.getfield 30, 3) := by decide +kernel
theorem dX1_addOutput_13 : decode cX1_addOutput 13 = .ok (.iconst 1, 1) := by decide +kernel
theorem dX1_addOutput_14 : decode cX1_addOutput 14 = .ok (.aload_n 0, 1) := by decide +kernel
theorem dX1_addOutput_15 : decode cX1_addOutput 15 = .ok (.getfield 30, 3) := by decide +kernel
theorem dX1_addOutput_18 : decode cX1_addOutput 18 = .ok (.iconst 0, 1) := by decide +kernel
theorem dX1_addOutput_19 : decode cX1_addOutput 19 = .ok (.bipush 19, 2) := by decide +kernel
theorem dX1_addOutput_21 : decode cX1_addOutput 21 = .ok (.invokestatic 38, 3) := by decide +kernel
theorem dX1_addOutput_24 : decode cX1_addOutput 24 = .ok (.aload_n 0, 1) := by decide +kernel
theorem dX1_addOutput_25 : decode cX1_addOutput 25 = .ok (.bipush 19, 2) := by decide +kernel
theorem dX1_addOutput_27 : decode cX1_addOutput 27 = .ok (.putfield 51, 3) := by decide +kernel
theorem dX1_addOutput_30 : decode cX1_addOutput 30 = .ok (.aload_n 0, 1) := by decide +kernel
theorem dX1_addOutput_31 : decode cX1_addOutput 31 = .ok (.getfield 30, 3) := by decide +kernel
theorem dX1_addOutput_34 : decode cX1_addOutput 34 = .ok (.aload_n 0, 1) := by decide +kernel
theorem dX1_addOutput_35 : decode cX1_addOutput 35 = .ok (.getfield 51, 3) := by decide +kernel
theorem dX1_addOutput_38 : decode cX1_addOutput 38 = .ok (.iload_n 1, 1) := by decide +kernel
theorem dX1_addOutput_39 : decode cX1_addOutput 39 = .ok (.iastore, 1) := by decide +kernel
theorem dX1_addOutput_40 : decode cX1_addOutput 40 = .ok (.aload_n 0, 1) := by decide +kernel
theorem dX1_addOutput_41 : decode cX1_addOutput 41 = .ok (.dup, 1) := by decide +kernel
theorem dX1_addOutput_42 : decode cX1_addOutput 42 = .ok (.getfield 51, 3) := by decide +kernel
theorem dX1_addOutput_45 : decode cX1_addOutput 45 = .ok (.iconst 1, 1) := by decide +kernel
theorem dX1_addOutput_46 : decode cX1_addOutput 46 = .ok (.iadd, 1) := by decide +kernel
theorem dX1_addOutput_47 : decode cX1_addOutput 47 = .ok (.putfield 51, 3) := by decide +kernel
theorem dX1_addOutput_50 : decode cX1_addOutput 50 = .ok (.aload_n 0, 1) := by decide +kernel
theorem dX1_addOutput_51 : decode cX1_addOutput 51 = .ok (.dup, 1) := by decide +kernel
theorem dX1_addOutput_52 : decode cX1_addOutput 52 = .ok (.getfield 54, 3) := by decide +kernel
theorem dX1_addOutput_55 : decode cX1_addOutput 55 = .ok (.iconst 1, 1) := by decide +kernel
theorem dX1_addOutput_56 : decode cX1_addOutput 56 = .ok (.iadd, 1) := by decide +kernel
theorem dX1_addOutput_57 : decode cX1_addOutput 57 = .ok (.putfield 54, 3) := by decide +kernel
theorem dX1_addOutput_60 : decode cX1_addOutput 60 = .ok (.return_, 1) := by decide +kernel
theorem dX1_takeInput_0 : decode cX1_takeInput 0 = .ok (.aload_n 0, 1) := by decide +kernel
theorem dX1_takeInput_1 : decode cX1_takeInput 1 = .ok (.getfield 48, 3) := by decide +kernel
theorem dX1_takeInput_4 : decode cX1_takeInput 4 = .ok (.ifCond .gt 9, 3) := by decide +kernel
theorem dX1_takeInput_7 : decode cX1_takeInput 7 = .ok (.aload_n 1, 1) := by decide +kernel
theorem dX1_takeInput_8 : decode cX1_takeInput 8 = .ok (.iconst 2, 1) := by decide +kernel
theorem dX1_takeInput_9 : decode cX1_takeInput 9 = .ok (.invokevirtual 121, 3) := by decide +kernel
theorem dX1_takeInput_12 : decode cX1_takeInput 12 = .ok (.return_, 1) := by decide +kernel
theorem dX1_takeInput_13 : decode cX1_takeInput 13 = .ok (.aload_n 0, 1) := by decide +kernel
theorem dX1_takeInput_14 : decode cX1_takeInput 14 = .ok (.getfield 27, 3) := by decide +kernel
theorem dX1_takeInput_17 : decode cX1_takeInput 17 = .ok (.iconst 0, 1) := by decide +kernel
theorem dX1_takeInput_18 : decode cX1_takeInput 18 = .ok (.iaload, 1) := by decide +kernel
theorem dX1_takeInput_19 : decode cX1_takeInput 19 = .ok (.istore_n 2, 1) := by decide +kernel
theorem dX1_takeInput_20 : decode cX1_takeInput 20 = .ok (.aload_n 0, 1) := by decide +kernel
theorem dX1_takeInput_21 : decode cX1_takeInput 21 = .ok (.dup, 1) := by decide +kernel
theorem dX1_takeInput_22 : decode cX1_takeInput 22 = .ok (.getfield 48, 3) := by decide +kernel
theorem dX1_takeInput_25 : decode cX1_takeInput 25 = .ok (.iconst 1, 1) := by decide +kernel
theorem dX1_takeInput_26 : decode cX1_takeInput 26 = .ok (.isub, 1) := by decide +kernel
theorem dX1_takeInput_27 : decode cX1_takeInput 27 = .ok (.putfield 48, 3) := by decide +kernel
theorem dX1_takeInput_30 : decode cX1_takeInput 30 = .ok (.aload_n 0, 1) := by decide +kernel
theorem dX1_takeInput_31 : decode cX1_takeInput 31 = .ok (.getfield 27, 3) := by decide +kernel
theorem dX1_takeInput_34 : decode cX1_takeInput 34 = .ok (.iconst 1, 1) := by decide +kernel
theorem dX1_takeInput_35 : decode cX1_takeInput 35 = .ok (.aload_n 0, 1) := by decide +kernel
theorem dX1_takeInput_36 : decode cX1_takeInput 36 = .ok (.getfield 27, 3) := by decide +kernel
theorem dX1_takeInput_39 : decode cX1_takeInput 39 = .ok (.iconst 0, 1) := by decide +kernel
theorem dX1_takeInput_40 : decode cX1_takeInput 40 = .ok (.aload_n 0, 1) := by decide +kernel
theorem dX1_takeInput_41 : decode cX1_takeInput 41 = .ok (.getfield 48, 3) := by decide +kernel
theorem dX1_takeInput_44 : decode cX1_takeInput 44 = .ok (.invokestatic 38, 3) := by decide +kernel
theorem dX1_takeInput_47 : decode cX1_takeInput 47 = .ok (.aload_n 1, 1) := by decide +kernel
theorem dX1_takeInput_48 : decode cX1_takeInput 48 = .ok (.iload_n 2, 1) := by decide +kernel
theorem dX1_takeInput_49 : decode cX1_takeInput 49 = .ok (.invokevirtual 114, 3) := by decide +kernel
theorem dX1_takeInput_52 : decode cX1_takeInput 52 = .ok (.return_, 1) := by decide +kernel
theorem dX1_split_0 : decode cX1_split 0 = .ok (.aload_n 0, 1) := by decide +kernel
theorem dX1_split_1 : decode cX1_split 1 = .ok (.getfield 34, 3) := by decide +kernel
theorem dX1_split_4 : decode cX1_split 4 = .ok (.iconst 4, 1) := by decide +kernel
theorem dX1_split_5 : decode cX1_split 5 = .ok (.if_icmp .lt 4, 3) := by decide +kernel
theorem dX1_split_8 : decode cX1_split 8 = .ok (.return_, 1) := by decide +kernel
theorem dX1_split_9 : decode cX1_split 9 = .ok (.aload_n 0, 1) := by decide +kernel
theorem dX1_split_10 : decode cX1_split 10 = .ok (.getfield 34, 3) := by decide +kernel
theorem dX1_split_13 : decode cX1_split 13 = .ok (.istore_n 2, 1) := by decide +kernel
theorem dX1_split_14 : decode cX1_split 14 = .ok (.aload_n 0, 1) := by decide +kernel
theorem dX1_split_15 : decode cX1_split 15 = .ok (.getfield 20, 3) := by decide +kernel
theorem dX1_split_18 : decode cX1_split 18 = .ok (.iload_n 2, 1) := by decide +kernel
theorem dX1_split_19 : decode cX1_split 19 = .ok (.aaload, 1) := by decide +kernel
theorem dX1_split_20 : decode cX1_split 20 = .ok (.astore_n 3, 1) := by decide +kernel
theorem dX1_split_21 : decode cX1_split 21 = .ok (.aload_n 3, 1) := by decide +kernel
theorem dX1_split_22 : decode cX1_split 22 = .ok (.aload_n 0, 1) := by decide +kernel
theorem dX1_split_23 : decode cX1_split 23 = .ok (.getfield 20, 3) := by decide +kernel
theorem dX1_split_26 : decode cX1_split 26 = .ok (.aload_n 0, 1) := by decide +kernel
theorem dX1_split_27 : decode cX1_split 27 = .ok (.getfield 24, 3) := by decide +kernel
theorem dX1_split_30 : decode cX1_split 30 = .ok (.iload_n 1, 1) := by decide +kernel
theorem dX1_split_31 : decode cX1_split 31 = .ok (.iaload, 1) := by decide +kernel
theorem dX1_split_32 : decode cX1_split 32 = .ok (.aaload, 1) := by decide +kernel
theorem dX1_split_33 : decode cX1_split 33 = .ok (.invokevirtual 44, 3) := by decide +kernel
theorem dX1_split_36 : decode cX1_split 36 = .ok (.aload_n 3, 1) := by decide +kernel
theorem dX1_split_37 : decode cX1_split 37 = .ok (.iconst 2, 1) := by decide +kernel
theorem dX1_split_38 : decode cX1_split 38 = .ok (.invokevirtual 121, 3) := by decide +kernel
theorem dX1_split_41 : decode cX1_split 41 = .ok (.aload_n 3, 1) := by decide +kernel
theorem dX1_split_42 : decode cX1_split 42 = .ok (.invokevirtual 102, 3) := by decide +kernel
theorem dX1_split_45 : decode cX1_split 45 = .ok (.aload_n 0, 1) := by decide +kernel
theorem dX1_split_46 : decode cX1_split 46 = .ok (.getfield 34, 3) := by decide +kernel
theorem dX1_split_49 : decode cX1_split 49 = .ok (.istore 4, 2) := by decide +kernel
theorem dX1_split_51 : decode cX1_split 51 = .ok (.iload 4, 2) := by decide +kernel
theorem dX1_split_53 : decode cX1_split 53 = .ok (.iload_n 1, 1) := by decide +kernel
theorem dX1_split_54 : decode cX1_split 54 = .ok (.iconst 1, 1) := by decide +kernel
theorem dX1_split_55 : decode cX1_split 55 = .ok (.iadd, 1) := by decide +kernel
theorem dX1_split_56 : decode cX1_split 56 = .ok (.if_icmp .le 25, 3) := by decide +kernel
theorem dX1_split_59 : decode cX1_split 59 = .ok (.aload_n 0, 1) := by decide +kernel
theorem dX1_split_60 : decode cX1_split 60 = .ok (.getfield 24, 3) := by decide +kernel
theorem dX1_split_63 : decode cX1_split 63 = .ok (.iload 4, 2) := by decide +kernel
theorem dX1_split_65 : decode cX1_split 65 = .ok (.aload_n 0, 1) := by decide +kernel
theorem dX1_split_66 : decode cX1_split 66 = .ok (.getfield 24, 3) := by decide +kernel
theorem dX1_split_69 : decode cX1_split 69 = .ok (.iload 4, 2) := by decide +kernel
theorem dX1_split_71 : decode cX1_split 71 = .ok (.iconst 1, 1) := by decide +kernel
theorem dX1_split_72 : decode cX1_split 72 = .ok (.isub, 1) := by decide +kernel
theorem dX1_split_73 : decode cX1_split 73 = .ok (.iaload, 1) := by decide +kernel
theorem dX1_split_74 : decode cX1_split 74 = .ok (.iastore, 1) := by decide +kernel
theorem dX1_split_75 : decode cX1_split 75 = .ok (.iinc 4 (-1), 3) := by decide +kernel
theorem dX1_split_78 : decode cX1_split 78 = .ok (.goto (-27), 3) := by decide +kernel
theorem dX1_split_81 : decode cX1_split 81 = .ok (.aload_n 0, 1) := by decide +kernel
theorem dX1_split_82 : decode cX1_split 82 = .ok (.getfield 24, 3) := by decide +kernel
theorem dX1_split_85 : decode cX1_split 85 = .ok (.iload_n 1, 1) := by decide +kernel
theorem dX1_split_86 : decode cX1_split 86 = .ok (.iconst 1, 1) := by decide +kernel
theorem dX1_split_87 : decode cX1_split 87 = .ok (.iadd, 1) := by decide +kernel
theorem dX1_split_88 : decode cX1_split 88 = .ok (.iload_n 2, 1) := by decide +kernel
theorem dX1_split_89 : decode cX1_split 89 = .ok (.iastore, 1) := by decide +kernel
theorem dX1_split_90 : decode cX1_split 90 = .ok (.aload_n 0, 1) := by decide +kernel
theorem dX1_split_91 : decode cX1_split 91 = .ok (.dup, 1) := by decide +kernel
theorem dX1_split_92 : decode cX1_split 92 = .ok (.getfield 34, 3) := by decide +kernel
theorem dX1_split_95 : decode cX1_split 95 = .ok (.iconst 1, 1) := by decide +kernel
theorem dX1_split_96 : decode cX1_split 96 = .ok (.iadd, 1) := by decide +kernel
theorem dX1_split_97 : decode cX1_split 97 = .ok (.putfield 34, 3) := by decide +kernel
theorem dX1_split_100 : decode cX1_split 100 = .ok (.return_, 1) := by decide +kernel
