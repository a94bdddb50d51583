theorem dX2_init_0 : decode cX2_init 0 = .ok (.aload_n 0, 1) := by decide +kernel
theorem dX2_init_1 : decode cX2_init 1 = .ok (.invokespecial 1, 3) := by decide +kernel
theorem dX2_init_4 : decode cX2_init 4 = .ok (.aload_n 0, 1) := by decide +kernel
theorem dX2_init_5 : decode cX2_init 5 = .ok (.bipush 90, 2) := by decide +kernel
theorem dX2_init_7 : decode cX2_init 7 = .ok (.newarray .int, 2) := by decide +kernel
theorem dX2_init_9 : decode cX2_init 9 = .ok (.putfield 9, 3) := by decide +kernel
theorem dX2_init_12 : decode cX2_init 12 = .ok (.aload_n 0, 1) := by decide +kernel
theorem dX2_init_13 : decode cX2_init 13 = .ok (.bipush 72, 2) := by decide +kernel
theorem dX2_init_15 : decode cX2_init 15 = .ok (.newarray .boolean, 2) := by decide +kernel
theorem dX2_init_17 : decode cX2_init 17 = .ok (.putfield 13, 3) := by decide +kernel
theorem dX2_init_20 : decode cX2_init 20 = .ok (.aload_n 0, 1) := by decide +kernel
theorem dX2_init_21 : decode cX2_init 21 = .ok (.new 17, 3) := by decide +kernel
theorem dX2_init_24 : decode cX2_init 24 = .ok (.dup, 1) := by decide +kernel
theorem dX2_init_25 : decode cX2_init 25 = .ok (.invokespecial 19, 3) := by decide +kernel
theorem dX2_init_28 : decode cX2_init 28 = .ok (.putfield 20, 3) := by decide +kernel
theorem dX2_init_31 : decode cX2_init 31 = .ok (.aload_n 0, 1) := by decide +kernel
theorem dX2_init_32 : decode cX2_init 32 = .ok (.bipush 6, 2) := by decide +kernel
theorem dX2_init_34 : decode cX2_init 34 = .ok (.anewarray 17, 3) := by decide +kernel
theorem dX2_init_37 : decode cX2_init 37 = .ok (.putfield 24, 3) := by decide +kernel
theorem dX2_init_40 : decode cX2_init 40 = .ok (.iconst 0, 1) := by decide +kernel
theorem dX2_init_41 : decode cX2_init 41 = .ok (.istore_n 1, 1) := by decide +kernel
theorem dX2_init_42 : decode cX2_init 42 = .ok (.iload_n 1, 1) := by decide +kernel
theorem dX2_init_43 : decode cX2_init 43 = .ok (.bipush 6, 2) := by decide +kernel
theorem dX2_init_45 : decode cX2_init 45 = .ok (.if_icmp .ge 22, 3) := by decide +kernel
theorem dX2_init_48 : decode cX2_init 48 = .ok (.aload_n 0, 1) := by decide +kernel
theorem dX2_init_49 : decode cX2_init 49 = .ok (.getfield 24, 3) := by decide +kernel
theorem dX2_init_52 : decode cX2_init 52 = .ok (.iload_n 1, 1) := by decide +kernel
theorem dX2_init_53 : decode cX2_init 53 = .ok (.new 17, 3) := by decide +kernel
theorem dX2_init_56 : decode cX2_init 56 = .ok (.dup, 1) := by decide +kernel
theorem dX2_init_57 : decode cX2_init 57 = .ok (.invokespecial 19, 3) := by decide +kernel
theorem dX2_init_60 : decode cX2_init 60 = .ok (.aastore, 1) := by decide +kernel
theorem dX2_init_61 : decode cX2_init 61 = .ok (.iinc 1 1, 3) := by decide +kernel
theorem dX2_init_64 : decode cX2_init 64 = .ok (.goto (-22), 3) := by decide +kernel
theorem dX2_init_67 : decode cX2_init 67 = .ok (.aload_n 0, 1) := by decide +kernel
theorem dX2_init_68 : decode cX2_init 68 = .ok (.iconst 2, 1) := by decide +kernel
theorem dX2_init_69 : decode cX2_init 69 = .ok (.anewarray 17, 3) := by decide +kernel
theorem dX2_init_72 : decode cX2_init 72 = .ok (.putfield 28, 3) := by decide +kernel
theorem dX2_init_75 : decode cX2_init 75 = .ok (.iconst 0, 1) := by decide +kernel
theorem dX2_init_76 : decode cX2_init 76 = .ok (.istore_n 1, 1) := by decide +kernel
theorem dX2_init_77 : decode cX2_init 77 = .ok (.iload_n 1, 1) := by decide +kernel
theorem dX2_init_78 : decode cX2_init 78 = .ok (.iconst 2, 1) := by decide +kernel
theorem dX2_init_79 : decode cX2_init 79 = .ok (.if_icmp .ge 22, 3) := by decide +kernel
theorem dX2_init_82 : decode cX2_init 82 = .ok (.aload_n 0, 1) := by decide +kernel
theorem dX2_init_83 : decode cX2_init 83 = .ok (.getfield 28, 3) := by decide +kernel
theorem dX2_init_86 : decode cX2_init 86 = .ok (.iload_n 1, 1) := by decide +kernel
theorem dX2_init_87 : decode cX2_init 87 = .ok (.new 17, 3) := by decide +kernel
theorem dX2_init_90 : decode cX2_init 90 = .ok (.dup, 1) := by decide +kernel
theorem dX2_init_91 : decode cX2_init 91 = .ok (.invokespecial 19, 3) := by decide +kernel
theorem dX2_init_94 : decode cX2_init 94 = .ok (.aastore, 1) := by decide +kernel
theorem dX2_init_95 : decode cX2_init 95 = .ok (.iinc 1 1, 3) := by decide +kernel
theorem dX2_init_98 : decode cX2_init 98 = .ok (.goto (-21), 3) := by decide +kernel
theorem dX2_init_101 : decode cX2_init 101 = .ok (.aload_n 0, 1) := by decide +kernel
theorem dX2_init_102 : decode cX2_init 102 = .ok (.iconst 2, 1) := by decide +kernel
theorem dX2_init_103 : decode cX2_init 103 = .ok (.newarray .boolean, 2) := by decide +kernel
theorem dX2_init_105 : decode cX2_init 105 = .ok (.putfield 31, 3) := by decide +kernel
theorem dX2_init_108 : decode cX2_init 108 = .ok (.aload_n 0, 1) := by decide +kernel
theorem dX2_init_109 : decode cX2_init 109 = .ok (.new 17, 3) := by decide +kernel
theorem dX2_init_112 : decode cX2_init 112 = .ok (.dup, 1) := by decide +kernel
theorem dX2_init_113 : decode cX2_init 113 = .ok (.invokespecial 19, 3) := by decide +kernel
theorem dX2_init_116 : decode cX2_init 116 = .ok (.putfield 34, 3) := by decide +kernel
theorem dX2_init_119 : decode cX2_init 119 = .ok (.aload_n 0, 1) := by decide +kernel
theorem dX2_init_120 : decode cX2_init 120 = .ok (.new 17, 3) := by decide +kernel
theorem dX2_init_123 : decode cX2_init 123 = .ok (.dup, 1) := by decide +kernel
theorem dX2_init_124 : decode cX2_init 124 = .ok (.invokespecial 19, 3) := by decide +kernel
theorem dX2_init_127 : decode cX2_init 127 = .ok (.putfield 37, 3) := by decide +kernel
theorem dX2_init_130 : decode cX2_init 130 = .ok (.return_, 1) := by decide +kernel
theorem dX2_append_0 : decode cX2_append 0 = .ok (.iload_n 1, 1) := by decide +kernel
theorem dX2_append_1 : decode cX2_append 1 = .ok (.ifCond .lt 10, 3) := by decide +kernel
theorem dX2_append_4 : decode cX2_append 4 = .ok (.iload_n 1, 1) := by decide +kernel
theorem dX2_append_5 : decode cX2_append 5 = .ok (.sipush 255, 3) := by decide +kernel
theorem dX2_append_8 : decode cX2_append 8 = .ok (.if_icmp .le 5, 3) := by decide +kernel
theorem dX2_append_11 : decode cX2_append 11 = .ok (.iconst (-1), 1) := by decide +kernel
theorem dX2_append_12 : decode cX2_append 12 = .ok (.ireturn, 1) := by decide +kernel
theorem dX2_append_13 : decode cX2_append 13 = .ok (.aload_n 0, 1) := by decide +kernel
theorem dX2_append_14 : decode cX2_append 14 = .ok (.getfield 40, 3) := by decide +kernel
theorem dX2_append_17 : decode cX2_append 17 = .ok (.bipush 90, 2) := by decide +kernel
theorem dX2_append_19 : decode cX2_append 19 = .ok (.if_icmp .lt 6, 3) := by decide +kernel
theorem dX2_append_22 : decode cX2_append 22 = .ok (.bipush (-3), 2) := by decide +kernel
theorem dX2_append_24 : decode cX2_append 24 = .ok (.ireturn, 1) := by decide +kernel
theorem dX2_append_25 : decode cX2_append 25 = .ok (.aload_n 0, 1) := by decide +kernel
theorem dX2_append_26 : decode cX2_append 26 = .ok (.getfield 9, 3) := by decide +kernel
theorem dX2_append_29 : decode cX2_append 29 = .ok (.aload_n 0, 1) := by decide +kernel
theorem dX2_append_30 : decode cX2_append 30 = .ok (.getfield 40, 3) := by decide +kernel
theorem dX2_append_33 : decode cX2_append 33 = .ok (.iload_n 1, 1) := by decide +kernel
theorem dX2_append_34 : decode cX2_append 34 = .ok (.iastore, 1) := by decide +kernel
theorem dX2_append_35 : decode cX2_append 35 = .ok (.aload_n 0, 1) := by decide +kernel
theorem dX2_append_36 : decode cX2_append 36 = .ok (.dup, 1) := by decide +kernel
theorem dX2_append_37 : decode cX2_append 37 = .ok (.getfield 40, 3) := by decide +kernel
theorem dX2_append_40 : decode cX2_append 40 = .ok (.iconst 1, 1) := by decide +kernel
theorem dX2_append_41 : decode cX2_append 41 = .ok (.iadd, 1) := by decide +kernel
theorem dX2_append_42 : decode cX2_append 42 = .ok (.putfield 40, 3) := by decide +kernel
theorem dX2_append_45 : decode cX2_append 45 = .ok (.aload_n 0, 1) := by decide +kernel
theorem dX2_append_46 : decode cX2_append 46 = .ok (.getfield 40, 3) := by decide +kernel
theorem dX2_append_49 : decode cX2_append 49 = .ok (.ireturn, 1) := by decide +kernel
theorem dX2_clearText_0 : decode cX2_clearText 0 = .ok (.aload_n 0, 1) := by decide +kernel
theorem dX2_clearText_1 : decode cX2_clearText 1 = .ok (.getfield 40, 3) := by decide +kernel
theorem dX2_clearText_4 : decode cX2_clearText 4 = .ok (.istore_n 1, 1) := by decide +kernel
theorem dX2_clearText_5 : decode cX2_clearText 5 = .ok (.aload_n 0, 1) := by decide +kernel
theorem dX2_clearText_6 : decode cX2_clearText 6 = .ok (.iconst 0, 1) := by decide +kernel
theorem dX2_clearText_7 : decode cX2_clearText 7 = .ok (.putfield 40, 3) := by decide +kernel
theorem dX2_clearText_10 : decode cX2_clearText 10 = .ok (.iload_n 1, 1) := by decide +kernel
theorem dX2_clearText_11 : decode cX2_clearText 11 = .ok (.ireturn, 1) := by decide +kernel
theorem dX2_load_0 : decode cX2_load 0 = .ok (.aload_n 0, 1) := by decide +kernel
theorem dX2_load_1 : decode cX2_load 1 = .ok (.invokevirtual 44, 3) := by decide +kernel
theorem dX2_load_4 : decode cX2_load 4 = .ok (.istore_n 1, 1) := by decide +kernel
theorem dX2_load_5 : decode cX2_load 5 = .ok (.iload_n 1, 1) := by decide +kernel
theorem dX2_load_6 : decode cX2_load 6 = .ok (.bipush (-9), 2) := by decide +kernel
theorem dX2_load_8 : decode cX2_load 8 = .ok (.if_icmp .eq 8, 3) := by decide +kernel
theorem dX2_load_11 : decode cX2_load 11 = .ok (.bipush (-10), 2) := by decide +kernel
theorem dX2_load_13 : decode cX2_load 13 = .ok (.iload_n 1, 1) := by decide +kernel
theorem dX2_load_14 : decode cX2_load 14 = .ok (.isub, 1) := by decide +kernel
theorem dX2_load_15 : decode cX2_load 15 = .ok (.ireturn, 1) := by decide +kernel
theorem dX2_load_16 : decode cX2_load 16 = .ok (.aload_n 0, 1) := by decide +kernel
theorem dX2_load_17 : decode cX2_load 17 = .ok (.invokevirtual 48, 3) := by decide +kernel
theorem dX2_load_20 : decode cX2_load 20 = .ok (.aload_n 0, 1) := by decide +kernel
theorem dX2_load_21 : decode cX2_load 21 = .ok (.invokevirtual 51, 3) := by decide +kernel
theorem dX2_load_24 : decode cX2_load 24 = .ok (.aload_n 0, 1) := by decide +kernel
theorem dX2_load_25 : decode cX2_load 25 = .ok (.iconst 0, 1) := by decide +kernel
theorem dX2_load_26 : decode cX2_load 26 = .ok (.putfield 40, 3) := by decide +kernel
theorem dX2_load_29 : decode cX2_load 29 = .ok (.aload_n 0, 1) := by decide +kernel
theorem dX2_load_30 : decode cX2_load 30 = .ok (.getfield 20, 3) := by decide +kernel
theorem dX2_load_33 : decode cX2_load 33 = .ok (.iconst 0, 1) := by decide +kernel
theorem dX2_load_34 : decode cX2_load 34 = .ok (.putfield 54, 3) := by decide +kernel
theorem dX2_load_37 : decode cX2_load 37 = .ok (.aload_n 0, 1) := by decide +kernel
theorem dX2_load_38 : decode cX2_load 38 = .ok (.getfield 20, 3) := by decide +kernel
theorem dX2_load_41 : decode cX2_load 41 = .ok (.invokevirtual 57, 3) := by decide +kernel
theorem dX2_load_44 : decode cX2_load 44 = .ok (.aload_n 0, 1) := by decide +kernel
theorem dX2_load_45 : decode cX2_load 45 = .ok (.getfield 20, 3) := by decide +kernel
theorem dX2_load_48 : decode cX2_load 48 = .ok (.invokevirtual 60, 3) := by decide +kernel
theorem dX2_load_51 : decode cX2_load 51 = .ok (.ireturn, 1) := by decide +kernel
theorem dX2_rewind_0 : decode cX2_rewind 0 = .ok (.aload_n 0, 1) := by decide +kernel
theorem dX2_rewind_1 : decode cX2_rewind 1 = .ok (.getfield 20, 3) := by decide +kernel
theorem dX2_rewind_4 : decode cX2_rewind 4 = .ok (.getfield 63, 3) := by decide +kernel
theorem dX2_rewind_7 : decode cX2_rewind 7 = .ok (.istore_n 1, 1) := by decide +kernel
theorem dX2_rewind_8 : decode cX2_rewind 8 = .ok (.aload_n 0, 1) := by decide +kernel
theorem dX2_rewind_9 : decode cX2_rewind 9 = .ok (.invokevirtual 48, 3) := by decide +kernel
theorem dX2_rewind_12 : decode cX2_rewind 12 = .ok (.aload_n 0, 1) := by decide +kernel
theorem dX2_rewind_13 : decode cX2_rewind 13 = .ok (.getfield 20, 3) := by decide +kernel
theorem dX2_rewind_16 : decode cX2_rewind 16 = .ok (.invokevirtual 57, 3) := by decide +kernel
theorem dX2_rewind_19 : decode cX2_rewind 19 = .ok (.iload_n 1, 1) := by decide +kernel
theorem dX2_rewind_20 : decode cX2_rewind 20 = .ok (.ireturn, 1) := by decide +kernel
theorem dX2_feed_0 : decode cX2_feed 0 = .ok (.aload_n 0, 1) := by decide +kernel
theorem dX2_feed_1 : decode cX2_feed 1 = .ok (.getfield 20, 3) := by decide +kernel
theorem dX2_feed_4 : decode cX2_feed 4 = .ok (.getfield 54, 3) := by decide +kernel
theorem dX2_feed_7 : decode cX2_feed 7 = .ok (.bipush 16, 2) := by decide +kernel
theorem dX2_feed_9 : decode cX2_feed 9 = .ok (.if_icmp .lt 6, 3) := by decide +kernel
theorem dX2_feed_12 : decode cX2_feed 12 = .ok (.bipush (-3), 2) := by decide +kernel
theorem dX2_feed_14 : decode cX2_feed 14 = .ok (.ireturn, 1) := by decide +kernel
theorem dX2_feed_15 : decode cX2_feed 15 = .ok (.aload_n 0, 1) := by decide +kernel
theorem dX2_feed_16 : decode cX2_feed 16 = .ok (.invokevirtual 48, 3) := by decide +kernel
theorem dX2_feed_19 : decode cX2_feed 19 = .ok (.aload_n 0, 1) := by decide +kernel
theorem dX2_feed_20 : decode cX2_feed 20 = .ok (.getfield 20, 3) := by decide +kernel
theorem dX2_feed_23 : decode cX2_feed 23 = .ok (.iload_n 1, 1) := by decide +kernel
theorem dX2_feed_24 : decode cX2_feed 24 = .ok (.invokevirtual 66, 3) := by decide +kernel
theorem dX2_feed_27 : decode cX2_feed 27 = .ok (.aload_n 0, 1) := by decide +kernel
theorem dX2_feed_28 : decode cX2_feed 28 = .ok (.getfield 20, 3) := by decide +kernel
theorem dX2_feed_31 : decode cX2_feed 31 = .ok (.getfield 54, 3) := by decide +kernel
theorem dX2_feed_34 : decode cX2_feed 34 = .ok (.ireturn, 1) := by decide +kernel
theorem dX2_poke_0 : decode cX2_poke 0 = .ok (.iload_n 1, 1) := by decide +kernel
theorem dX2_poke_1 : decode cX2_poke 1 = .ok (.iload_n 2, 1) := by decide +kernel
theorem dX2_poke_2 : decode cX2_poke 2 = .ok (.invokestatic 70, 3) := by decide +kernel
theorem dX2_poke_5 : decode cX2_poke 5 = .ok (.ifCond .eq 10, 3) := by decide +kernel
theorem dX2_poke_8 : decode cX2_poke 8 = .ok (.iload_n 3, 1) := by decide +kernel
theorem dX2_poke_9 : decode cX2_poke 9 = .ok (.invokestatic 74, 3) := by decide +kernel
theorem dX2_poke_12 : decode cX2_poke 12 = .ok (.ifCond .ne 5, 3) := by decide +kernel
theorem dX2_poke_15 : decode cX2_poke 15 = .ok (.iconst (-1), 1) := by decide +kernel
theorem dX2_poke_16 : decode cX2_poke 16 = .ok (.ireturn, 1) := by decide +kernel
theorem dX2_poke_17 : decode cX2_poke 17 = .ok (.aload_n 0, 1) := by decide +kernel
theorem dX2_poke_18 : decode cX2_poke 18 = .ok (.invokevirtual 48, 3) := by decide +kernel
theorem dX2_poke_21 : decode cX2_poke 21 = .ok (.bipush 12, 2) := by decide +kernel
theorem dX2_poke_23 : decode cX2_poke 23 = .ok (.iload_n 2, 1) := by decide +kernel
theorem dX2_poke_24 : decode cX2_poke 24 = .ok (.imul, 1) := by decide +kernel
theorem dX2_poke_25 : decode cX2_poke 25 = .ok (.iload_n 1, 1) := by decide +kernel
theorem dX2_poke_26 : decode cX2_poke 26 = .ok (.iadd, 1) := by decide +kernel
theorem dX2_poke_27 : decode cX2_poke 27 = .ok (.istore 4, 2) := by decide +kernel
theorem dX2_poke_29 : decode cX2_poke 29 = .ok (.aload_n 0, 1) := by decide +kernel
theorem dX2_poke_30 : decode cX2_poke 30 = .ok (.getfield 20, 3) := by decide +kernel
theorem dX2_poke_33 : decode cX2_poke 33 = .ok (.getfield 78, 3) := by decide +kernel
theorem dX2_poke_36 : decode cX2_poke 36 = .ok (.iload 4, 2) := by decide +kernel
theorem dX2_poke_38 : decode cX2_poke 38 = .ok (.iaload, 1) := by decide +kernel
theorem dX2_poke_39 : decode cX2_poke 39 = .ok (.istore 5, 2) := by decide +kernel
theorem dX2_poke_41 : decode cX2_poke 41 = .ok (.aload_n 0, 1) := by decide +kernel
theorem dX2_poke_42 : decode cX2_poke 42 = .ok (.getfield 20, 3) := by decide +kernel
theorem dX2_poke_45 : decode cX2_poke 45 = .ok (.getfield 78, 3) := by decide +kernel
theorem dX2_poke_48 : decode cX2_poke 48 = .ok (.iload 4, 2) := by decide +kernel
theorem dX2_poke_50 : decode cX2_poke 50 = .ok (.iload_n 3, 1) := by decide +kernel
theorem dX2_poke_51 : decode cX2_poke 51 = .ok (.iastore, 1) := by decide +kernel
theorem dX2_poke_52 : decode cX2_poke 52 = .ok (.iload 5, 2) := by decide +kernel
theorem dX2_poke_54 : decode cX2_poke 54 = .ok (.ireturn, 1) := by decide +kernel
theorem dX2_tick_0 : decode cX2_tick 0 = .ok (.aload_n 0, 1) := by decide +kernel
theorem dX2_tick_1 : decode cX2_tick 1 = .ok (.iload_n 1, 1) := by decide +kernel
theorem dX2_tick_2 : decode cX2_tick 2 = .ok (.iconst 0, 1) := by decide +kernel
theorem dX2_tick_3 : decode cX2_tick 3 = .ok (.invokevirtual 81, 3) := by decide +kernel
theorem dX2_tick_6 : decode cX2_tick 6 = .ok (.ireturn, 1) := by decide +kernel
theorem dX2_run_0 : decode cX2_run 0 = .ok (.aload_n 0, 1) := by decide +kernel
theorem dX2_run_1 : decode cX2_run 1 = .ok (.iload_n 1, 1) := by decide +kernel
theorem dX2_run_2 : decode cX2_run 2 = .ok (.iconst 1, 1) := by decide +kernel
theorem dX2_run_3 : decode cX2_run 3 = .ok (.invokevirtual 81, 3) := by decide +kernel
theorem dX2_run_6 : decode cX2_run 6 = .ok (.ireturn, 1) := by decide +kernel
theorem dX2_setBreakpoint_0 : decode cX2_setBreakpoint 0 = .ok (.iload_n 1, 1) := by decide +kernel
theorem dX2_setBreakpoint_1 : decode cX2_setBreakpoint 1 = .ok (.iload_n 2, 1) := by decide +kernel
theorem dX2_setBreakpoint_2 : decode cX2_setBreakpoint 2 = .ok (.invokestatic 70, 3) := by decide +kernel
theorem dX2_setBreakpoint_5 : decode cX2_setBreakpoint 5 = .ok (.ifCond .eq 12, 3) := by decide +kernel
theorem dX2_setBreakpoint_8 : decode cX2_setBreakpoint 8 = .ok (.iload_n 3, 1) := by decide +kernel
theorem dX2_setBreakpoint_9 : decode cX2_setBreakpoint 9 = .ok (.ifCond .lt 8, 3) := by decide +kernel
theorem dX2_setBreakpoint_12 : decode cX2_setBreakpoint 12 = .ok (.iload_n 3, 1) := by decide +kernel
theorem dX2_setBreakpoint_13 : decode cX2_setBreakpoint 13 = .ok (.iconst 1, 1) := by decide +kernel
theorem dX2_setBreakpoint_14 : decode cX2_setBreakpoint 14 = .ok (.if_icmp .le 5, 3) := by decide +kernel
theorem dX2_setBreakpoint_17 : decode cX2_setBreakpoint 17 = .ok (.iconst (-1), 1) := by decide +kernel
theorem dX2_setBreakpoint_18 : decode cX2_setBreakpoint 18 = .ok (.ireturn, 1) := by decide +kernel
theorem dX2_setBreakpoint_19 : decode cX2_setBreakpoint 19 = .ok (.bipush 12, 2) := by decide +kernel
theorem dX2_setBreakpoint_21 : decode cX2_setBreakpoint 21 = .ok (.iload_n 2, 1) := by decide +kernel
theorem dX2_setBreakpoint_22 : decode cX2_setBreakpoint 22 = .ok (.imul, 1) := by decide +kernel
theorem dX2_setBreakpoint_23 : decode cX2_setBreakpoint 23 = .ok (.iload_n 1, 1) := by decide +kernel
theorem dX2_setBreakpoint_24 : decode cX2_setBreakpoint 24 = .ok (.iadd, 1) := by decide +kernel
theorem dX2_setBreakpoint_25 : decode cX2_setBreakpoint 25 = .ok (.istore 4, 2) := by decide +kernel
theorem dX2_setBreakpoint_27 : decode cX2_setBreakpoint 27 = .ok (.iload_n 3, 1) := by decide +kernel
theorem dX2_setBreakpoint_28 : decode cX2_setBreakpoint 28 = .ok (.iconst 1, 1) := by decide +kernel
theorem dX2_setBreakpoint_29 : decode cX2_setBreakpoint 29 = .ok (.if_icmp .ne 7, 3) := by decide +kernel
theorem dX2_setBreakpoint_32 : decode cX2_setBreakpoint 32 = .ok (.iconst 1, 1) := by decide +kernel
theorem dX2_setBreakpoint_33 : decode cX2_setBreakpoint 33 = .ok (.goto 4, 3) := by decide +kernel
theorem dX2_setBreakpoint_36 : decode cX2_setBreakpoint 36 = .ok (.iconst 0, 1) := by decide +kernel
theorem dX2_setBreakpoint_37 : decode cX2_setBreakpoint 37 = .ok (.istore 5, 2) := by decide +kernel
theorem dX2_setBreakpoint_39 : decode cX2_setBreakpoint 39 = .ok (.aload_n 0, 1) := by decide +kernel
theorem dX2_setBreakpoint_40 : decode cX2_setBreakpoint 40 = .ok (.getfield 13, 3) := by decide +kernel
theorem dX2_setBreakpoint_43 : decode cX2_setBreakpoint 43 = .ok (.iload 4, 2) := by decide +kernel
theorem dX2_setBreakpoint_45 : decode cX2_setBreakpoint 45 = .ok (.baload, 1) := by decide +kernel
theorem dX2_setBreakpoint_46 : decode cX2_setBreakpoint 46 = .ok (.iload 5, 2) := by decide +kernel
theorem dX2_setBreakpoint_48 : decode cX2_setBreakpoint 48 = .ok (.if_icmp .ne 6, 3) := by decide +kernel
theorem dX2_setBreakpoint_51 : decode cX2_setBreakpoint 51 = .ok (.bipush (-2), 2) := by decide +kernel
theorem dX2_setBreakpoint_53 : decode cX2_setBreakpoint 53 = .ok (.ireturn, 1) := by decide +kernel
theorem dX2_setBreakpoint_54 : decode cX2_setBreakpoint 54 = .ok (.aload_n 0, 1) := by decide +kernel
theorem dX2_setBreakpoint_55 : decode cX2_setBreakpoint 55 = .ok (.getfield 13, 3) := by decide +kernel
theorem dX2_setBreakpoint_58 : decode cX2_setBreakpoint 58 = .ok (.iload 4, 2) := by decide +kernel
theorem dX2_setBreakpoint_60 : decode cX2_setBreakpoint 60 = .ok (.iload 5, 2) := by decide +kernel
theorem dX2_setBreakpoint_62 : decode cX2_setBreakpoint 62 = .ok (.bastore, 1) := by decide +kernel
theorem dX2_setBreakpoint_63 : decode cX2_setBreakpoint 63 = .ok (.aload_n 0, 1) := by decide +kernel
theorem dX2_setBreakpoint_64 : decode cX2_setBreakpoint 64 = .ok (.dup, 1) := by decide +kernel
theorem dX2_setBreakpoint_65 : decode cX2_setBreakpoint 65 = .ok (.getfield 85, 3) := by decide +kernel
theorem dX2_setBreakpoint_68 : decode cX2_setBreakpoint 68 = .ok (.iload 5, 2) := by decide +kernel
theorem dX2_setBreakpoint_70 : decode cX2_setBreakpoint 70 = .ok (.ifCond .eq 7, 3) := by decide +kernel
theorem dX2_setBreakpoint_73 : decode cX2_setBreakpoint 73 = .ok (.iconst 1, 1) := by decide +kernel
theorem dX2_setBreakpoint_74 : decode cX2_setBreakpoint 74 = .ok (.goto 4, 3) := by decide +kernel
theorem dX2_setBreakpoint_77 : decode cX2_setBreakpoint 77 = .ok (.iconst (-1), 1) := by decide +kernel
theorem dX2_setBreakpoint_78 : decode cX2_setBreakpoint 78 = .ok (.iadd, 1) := by decide +kernel
theorem dX2_setBreakpoint_79 : decode cX2_setBreakpoint 79 = .ok (.putfield 85, 3) := by decide +kernel
theorem dX2_setBreakpoint_82 : decode cX2_setBreakpoint 82 = .ok (.aload_n 0, 1) := by decide +kernel
theorem dX2_setBreakpoint_83 : decode cX2_setBreakpoint 83 = .ok (.getfield 85, 3) := by decide +kernel
theorem dX2_setBreakpoint_86 : decode cX2_setBreakpoint 86 = .ok (.ireturn, 1) := by decide +kernel
theorem dX2_undo_0 : decode cX2_undo 0 = .ok (.aload_n 0, 1) := by decide +kernel
theorem dX2_undo_1 : decode cX2_undo 1 = .ok (.getfield 88, 3) := by decide +kernel
theorem dX2_undo_4 : decode cX2_undo 4 = .ok (.ifCond .gt 6, 3) := by decide +kernel
theorem dX2_undo_7 : decode cX2_undo 7 = .ok (.bipush (-2), 2) := by decide +kernel
theorem dX2_undo_9 : decode cX2_undo 9 = .ok (.ireturn, 1) := by decide +kernel
theorem dX2_undo_10 : decode cX2_undo 10 = .ok (.aload_n 0, 1) := by decide +kernel
theorem dX2_undo_11 : decode cX2_undo 11 = .ok (.dup, 1) := by decide +kernel
theorem dX2_undo_12 : decode cX2_undo 12 = .ok (.getfield 88, 3) := by decide +kernel
theorem dX2_undo_15 : decode cX2_undo 15 = .ok (.iconst 1, 1) := by decide +kernel
theorem dX2_undo_16 : decode cX2_undo 16 = .ok (.isub, 1) := by decide +kernel
theorem dX2_undo_17 : decode cX2_undo 17 = .ok (.putfield 88, 3) := by decide +kernel
theorem dX2_undo_20 : decode cX2_undo 20 = .ok (.aload_n 0, 1) := by decide +kernel
theorem dX2_undo_21 : decode cX2_undo 21 = .ok (.getfield 20, 3) := by decide +kernel
theorem dX2_undo_24 : decode cX2_undo 24 = .ok (.aload_n 0, 1) := by decide +kernel
theorem dX2_undo_25 : decode cX2_undo 25 = .ok (.getfield 24, 3) := by decide +kernel
theorem dX2_undo_28 : decode cX2_undo 28 = .ok (.aload_n 0, 1) := by decide +kernel
theorem dX2_undo_29 : decode cX2_undo 29 = .ok (.getfield 88, 3) := by decide +kernel
theorem dX2_undo_32 : decode cX2_undo 32 = .ok (.aaload, 1) := by decide +kernel
theorem dX2_undo_33 : decode cX2_undo 33 = .ok (.invokevirtual 91, 3) := by decide +kernel
theorem dX2_undo_36 : decode cX2_undo 36 = .ok (.aload_n 0, 1) := by decide +kernel
theorem dX2_undo_37 : decode cX2_undo 37 = .ok (.getfield 88, 3) := by decide +kernel
theorem dX2_undo_40 : decode cX2_undo 40 = .ok (.ireturn, 1) := by decide +kernel
theorem dX2_ticksToHalt_0 : decode cX2_ticksToHalt 0 = .ok (.iload_n 1, 1) := by decide +kernel
theorem dX2_ticksToHalt_1 : decode cX2_ticksToHalt 1 = .ok (.invokestatic 95, 3) := by decide +kernel
theorem dX2_ticksToHalt_4 : decode cX2_ticksToHalt 4 = .ok (.ifCond .ne 5, 3) := by decide +kernel
theorem dX2_ticksToHalt_7 : decode cX2_ticksToHalt 7 = .ok (.iconst (-1), 1) := by decide +kernel
theorem dX2_ticksToHalt_8 : decode cX2_ticksToHalt 8 = .ok (.ireturn, 1) := by decide +kernel
theorem dX2_ticksToHalt_9 : decode cX2_ticksToHalt 9 = .ok (.aload_n 0, 1) := by decide +kernel
theorem dX2_ticksToHalt_10 : decode cX2_ticksToHalt 10 = .ok (.getfield 34, 3) := by decide +kernel
theorem dX2_ticksToHalt_13 : decode cX2_ticksToHalt 13 = .ok (.aload_n 0, 1) := by decide +kernel
theorem dX2_ticksToHalt_14 : decode cX2_ticksToHalt 14 = .ok (.getfield 20, 3) := by decide +kernel
theorem dX2_ticksToHalt_17 : decode cX2_ticksToHalt 17 = .ok (.invokevirtual 91, 3) := by decide +kernel
theorem dX2_ticksToHalt_20 : decode cX2_ticksToHalt 20 = .ok (.iconst 0, 1) := by decide +kernel
theorem dX2_ticksToHalt_21 : decode cX2_ticksToHalt 21 = .ok (.istore_n 2, 1) := by decide +kernel
theorem dX2_ticksToHalt_22 : decode cX2_ticksToHalt 22 = .ok (.iload_n 2, 1) := by decide +kernel
theorem dX2_ticksToHalt_23 : decode cX2_ticksToHalt 23 = .ok (.iload_n 1, 1) := by decide +kernel
theorem dX2_ticksToHalt_24 : decode cX2_ticksToHalt 24 = .ok (.if_icmp .ge 26, 3) := by decide +kernel
theorem dX2_ticksToHalt_27 : decode cX2_ticksToHalt 27 = .ok (.aload_n 0, 1) := by decide +kernel
theorem dX2_ticksToHalt_28 : decode cX2_ticksToHalt 28 = .ok (.getfield 34, 3) := by decide +kernel
theorem dX2_ticksToHalt_31 : decode cX2_ticksToHalt 31 = .ok (.invokevirtual 98, 3) := by decide +kernel
theorem dX2_ticksToHalt_34 : decode cX2_ticksToHalt 34 = .ok (.ifCond .ne 16, 3) := by decide +kernel
theorem dX2_ticksToHalt_37 : decode cX2_ticksToHalt 37 = .ok (.aload_n 0, 1) := by decide +kernel
theorem dX2_ticksToHalt_38 : decode cX2_ticksToHalt 38 = .ok (.getfield 34, 3) := by decide +kernel
theorem dX2_ticksToHalt_41 : decode cX2_ticksToHalt 41 = .ok (.invokevirtual 102, 3) := by decide +kernel
theorem dX2_ticksToHalt_44 : decode cX2_ticksToHalt 44 = .ok (.iinc 2 1, 3) := by decide +kernel
theorem dX2_ticksToHalt_47 : decode cX2_ticksToHalt 47 = .ok (.goto (-25), 3) := by decide +kernel
theorem dX2_ticksToHalt_50 : decode cX2_ticksToHalt 50 = .ok (.aload_n 0, 1) := by decide +kernel
theorem dX2_ticksToHalt_51 : decode cX2_ticksToHalt 51 = .ok (.getfield 34, 3) := by decide +kernel
theorem dX2_ticksToHalt_54 : decode cX2_ticksToHalt 54 = .ok (.invokevirtual 98, 3) := by decide +kernel
theorem dX2_ticksToHalt_57 : decode cX2_ticksToHalt 57 = .ok (.ifCond .eq 7, 3) := by decide +kernel
theorem dX2_ticksToHalt_60 : decode cX2_ticksToHalt 60 = .ok (.iload_n 2, 1) := by decide +kernel
theorem dX2_ticksToHalt_61 : decode cX2_ticksToHalt 61 = .ok (.goto 5, 3) := by decide +kernel
theorem dX2_ticksToHalt_64 : decode cX2_ticksToHalt 64 = .ok (.bipush (-9), 2) := by decide +kernel
theorem dX2_ticksToHalt_66 : decode cX2_ticksToHalt 66 = .ok (.ireturn, 1) := by decide +kernel
theorem dX2_cycleStart_0 : decode cX2_cycleStart 0 = .ok (.iload_n 1, 1) := by decide +kernel
theorem dX2_cycleStart_1 : decode cX2_cycleStart 1 = .ok (.invokestatic 95, 3) := by decide +kernel
theorem dX2_cycleStart_4 : decode cX2_cycleStart 4 = .ok (.ifCond .ne 5, 3) := by decide +kernel
theorem dX2_cycleStart_7 : decode cX2_cycleStart 7 = .ok (.iconst (-1), 1) := by decide +kernel
theorem dX2_cycleStart_8 : decode cX2_cycleStart 8 = .ok (.ireturn, 1) := by decide +kernel
theorem dX2_cycleStart_9 : decode cX2_cycleStart 9 = .ok (.aload_n 0, 1) := by decide +kernel
theorem dX2_cycleStart_10 : decode cX2_cycleStart 10 = .ok (.iload_n 1, 1) := by decide +kernel
theorem dX2_cycleStart_11 : decode cX2_cycleStart 11 = .ok (.invokevirtual 105, 3) := by decide +kernel
theorem dX2_cycleStart_14 : decode cX2_cycleStart 14 = .ok (.istore_n 2, 1) := by decide +kernel
theorem dX2_cycleStart_15 : decode cX2_cycleStart 15 = .ok (.iload_n 2, 1) := by decide +kernel
theorem dX2_cycleStart_16 : decode cX2_cycleStart 16 = .ok (.bipush (-9), 2) := by decide +kernel
theorem dX2_cycleStart_18 : decode cX2_cycleStart 18 = .ok (.if_icmp .ne 8, 3) := by decide +kernel
theorem dX2_cycleStart_21 : decode cX2_cycleStart 21 = .ok (.bipush (-9), 2) := by decide +kernel
theorem dX2_cycleStart_23 : decode cX2_cycleStart 23 = .ok (.goto 9, 3) := by decide +kernel
theorem dX2_cycleStart_26 : decode cX2_cycleStart 26 = .ok (.aload_n 0, 1) := by decide +kernel
theorem dX2_cycleStart_27 : decode cX2_cycleStart 27 = .ok (.iload_n 1, 1) := by decide +kernel
theorem dX2_cycleStart_28 : decode cX2_cycleStart 28 = .ok (.iload_n 2, 1) := by decide +kernel
theorem dX2_cycleStart_29 : decode cX2_cycleStart 29 = .ok (.invokevirtual 109, 3) := by decide +kernel
theorem dX2_cycleStart_32 : decode cX2_cycleStart 32 = .ok (.ireturn, 1) := by decide +kernel
theorem dX2_cycleLength_0 : decode cX2_cycleLength 0 = .ok (.iload_n 1, 1) := by decide +kernel
theorem dX2_cycleLength_1 : decode cX2_cycleLength 1 = .ok (.invokestatic 95, 3) := by decide +kernel
theorem dX2_cycleLength_4 : decode cX2_cycleLength 4 = .ok (.ifCond .ne 5, 3) := by decide +kernel
theorem dX2_cycleLength_7 : decode cX2_cycleLength 7 = .ok (.iconst (-1), 1) := by decide +kernel
theorem dX2_cycleLength_8 : decode cX2_cycleLength 8 = .ok (.ireturn, 1) := by decide +kernel
theorem dX2_cycleLength_9 : decode cX2_cycleLength 9 = .ok (.aload_n 0, 1) := by decide +kernel
theorem dX2_cycleLength_10 : decode cX2_cycleLength 10 = .ok (.iload_n 1, 1) := by decide +kernel
theorem dX2_cycleLength_11 : decode cX2_cycleLength 11 = .ok (.invokevirtual 105, 3) := by decide +kernel
theorem dX2_cycleLength_14 : decode cX2_cycleLength 14 = .ok (.istore_n 2, 1) := by decide +kernel
theorem dX2_cycleLength_15 : decode cX2_cycleLength 15 = .ok (.iload_n 2, 1) := by decide +kernel
theorem dX2_cycleLength_16 : decode cX2_cycleLength 16 = .ok (.bipush (-9), 2) := by decide +kernel
theorem dX2_cycleLength_18 : decode cX2_cycleLength 18 = .ok (.if_icmp .eq 14, 3) := by decide +kernel
theorem dX2_cycleLength_21 : decode cX2_cycleLength 21 = .ok (.aload_n 0, 1) := by decide +kernel
theorem dX2_cycleLength_22 : decode cX2_cycleLength 22 = .ok (.iload_n 1, 1) := by decide +kernel
theorem dX2_cycleLength_23 : decode cX2_cycleLength 23 = .ok (.iload_n 2, 1) := by decide +kernel
theorem dX2_cycleLength_24 : decode cX2_cycleLength 24 = .ok (.invokevirtual 109, 3) := by decide +kernel
theorem dX2_cycleLength_27 : decode cX2_cycleLength 27 = .ok (.bipush (-9), 2) := by decide +kernel
theorem dX2_cycleLength_29 : decode cX2_cycleLength 29 = .ok (.if_icmp .ne 6, 3) := by decide +kernel
theorem dX2_cycleLength_32 : decode cX2_cycleLength 32 = .ok (.bipush (-9), 2) := by decide +kernel
theorem dX2_cycleLength_34 : decode cX2_cycleLength 34 = .ok (.ireturn, 1) := by decide +kernel
theorem dX2_cycleLength_35 : decode cX2_cycleLength 35 = .ok (.iload_n 2, 1) := by decide +kernel
theorem dX2_cycleLength_36 : decode cX2_cycleLength 36 = .ok (.ireturn, 1) := by decide +kernel
theorem dX2_cellAt_0 : decode cX2_cellAt 0 = .ok (.iload_n 1, 1) := by decide +kernel
theorem dX2_cellAt_1 : decode cX2_cellAt 1 = .ok (.iload_n 2, 1) := by decide +kernel
theorem dX2_cellAt_2 : decode cX2_cellAt 2 = .ok (.invokestatic 70, 3) := by decide +kernel
theorem dX2_cellAt_5 : decode cX2_cellAt 5 = .ok (.ifCond .eq 20, 3) := by decide +kernel
theorem dX2_cellAt_8 : decode cX2_cellAt 8 = .ok (.aload_n 0, 1) := by decide +kernel
theorem dX2_cellAt_9 : decode cX2_cellAt 9 = .ok (.getfield 20, 3) := by decide +kernel
theorem dX2_cellAt_12 : decode cX2_cellAt 12 = .ok (.getfield 78, 3) := by decide +kernel
theorem dX2_cellAt_15 : decode cX2_cellAt 15 = .ok (.bipush 12, 2) := by decide +kernel
theorem dX2_cellAt_17 : decode cX2_cellAt 17 = .ok (.iload_n 2, 1) := by decide +kernel
theorem dX2_cellAt_18 : decode cX2_cellAt 18 = .ok (.imul, 1) := by decide +kernel
theorem dX2_cellAt_19 : decode cX2_cellAt 19 = .ok (.iload_n 1, 1) := by decide +kernel
theorem dX2_cellAt_20 : decode cX2_cellAt 20 = .ok (.iadd, 1) := by decide +kernel
theorem dX2_cellAt_21 : decode cX2_cellAt 21 = .ok (.iaload, 1) := by decide +kernel
theorem dX2_cellAt_22 : decode cX2_cellAt 22 = .ok (.goto 4, 3) := by decide +kernel
theorem dX2_cellAt_25 : decode cX2_cellAt 25 = .ok (.iconst (-1), 1) := by decide +kernel
theorem dX2_cellAt_26 : decode cX2_cellAt 26 = .ok (.ireturn, 1) := by decide +kernel
theorem dX2_changedCells_0 : decode cX2_changedCells 0 = .ok (.iconst 0, 1) := by decide +kernel
theorem dX2_changedCells_1 : decode cX2_changedCells 1 = .ok (.istore_n 1, 1) := by decide +kernel
theorem dX2_changedCells_2 : decode cX2_changedCells 2 = .ok (.iconst 0, 1) := by decide +kernel
theorem dX2_changedCells_3 : decode cX2_changedCells 3 = .ok (.istore_n 2, 1) := by decide +kernel
theorem dX2_changedCells_4 : decode cX2_changedCells 4 = .ok (.iload_n 2, 1) := by decide +kernel
theorem dX2_changedCells_5 : decode cX2_changedCells 5 = .ok (.bipush 72, 2) := by decide +kernel
theorem dX2_changedCells_7 : decode cX2_changedCells 7 = .ok (.if_icmp .ge 33, 3) := by decide +kernel
theorem dX2_changedCells_10 : decode cX2_changedCells 10 = .ok (.aload_n 0, 1) := by decide +kernel
theorem dX2_changedCells_11 : decode cX2_changedCells 11 = .ok (.getfield 20, 3) := by decide +kernel
theorem dX2_changedCells_14 : decode cX2_changedCells 14 = .ok (.getfield 78, 3) := by decide +kernel
theorem dX2_changedCells_17 : decode cX2_changedCells 17 = .ok (.iload_n 2, 1) := by decide +kernel
theorem dX2_changedCells_18 : decode cX2_changedCells 18 = .ok (.iaload, 1) := by decide +kernel
theorem dX2_changedCells_19 : decode cX2_changedCells 19 = .ok (.aload_n 0, 1) := by decide +kernel
theorem dX2_changedCells_20 : decode cX2_changedCells 20 = .ok (.getfield 20, 3) := by decide +kernel
theorem dX2_changedCells_23 : decode cX2_changedCells 23 = .ok (.getfield 113, 3) := by decide +kernel
theorem dX2_changedCells_26 : decode cX2_changedCells 26 = .ok (.iload_n 2, 1) := by decide +kernel
theorem dX2_changedCells_27 : decode cX2_changedCells 27 = .ok (.iaload, 1) := by decide +kernel
theorem dX2_changedCells_28 : decode cX2_changedCells 28 = .ok (.if_icmp .eq 6, 3) := by decide +kernel
theorem dX2_changedCells_31 : decode cX2_changedCells 31 = .ok (.iinc 1 1, 3) := by decide +kernel
theorem dX2_changedCells_34 : decode cX2_changedCells 34 = .ok (.iinc 2 1, 3) := by decide +kernel
theorem dX2_changedCells_37 : decode cX2_changedCells 37 = .ok (.goto (-33), 3) := by decide +kernel
theorem dX2_changedCells_40 : decode cX2_changedCells 40 = .ok (.iload_n 1, 1) := by decide +kernel
theorem dX2_changedCells_41 : decode cX2_changedCells 41 = .ok (.ireturn, 1) := by decide +kernel
theorem dX2_pointerCount_0 : decode cX2_pointerCount 0 = .ok (.aload_n 0, 1) := by decide +kernel
theorem dX2_pointerCount_1 : decode cX2_pointerCount 1 = .ok (.getfield 20, 3) := by decide +kernel
theorem dX2_pointerCount_4 : decode cX2_pointerCount 4 = .ok (.getfield 116, 3) := by decide +kernel
theorem dX2_pointerCount_7 : decode cX2_pointerCount 7 = .ok (.ireturn, 1) := by decide +kernel
theorem dX2_pointerAt_0 : decode cX2_pointerAt 0 = .ok (.aload_n 0, 1) := by decide +kernel
theorem dX2_pointerAt_1 : decode cX2_pointerAt 1 = .ok (.iload_n 1, 1) := by decide +kernel
theorem dX2_pointerAt_2 : decode cX2_pointerAt 2 = .ok (.invokevirtual 119, 3) := by decide +kernel
theorem dX2_pointerAt_5 : decode cX2_pointerAt 5 = .ok (.ifCond .eq 15, 3) := by decide +kernel
theorem dX2_pointerAt_8 : decode cX2_pointerAt 8 = .ok (.aload_n 0, 1) := by decide +kernel
theorem dX2_pointerAt_9 : decode cX2_pointerAt 9 = .ok (.getfield 20, 3) := by decide +kernel
theorem dX2_pointerAt_12 : decode cX2_pointerAt 12 = .ok (.getfield 122, 3) := by decide +kernel
theorem dX2_pointerAt_15 : decode cX2_pointerAt 15 = .ok (.iload_n 1, 1) := by decide +kernel
theorem dX2_pointerAt_16 : decode cX2_pointerAt 16 = .ok (.iaload, 1) := by decide +kernel
theorem dX2_pointerAt_17 : decode cX2_pointerAt 17 = .ok (.goto 4, 3) := by decide +kernel
theorem dX2_pointerAt_20 : decode cX2_pointerAt 20 = .ok (.iconst (-1), 1) := by decide +kernel
theorem dX2_pointerAt_21 : decode cX2_pointerAt 21 = .ok (.ireturn, 1) := by decide +kernel
theorem dX2_position_0 : decode cX2_position 0 = .ok (.aload_n 0, 1) := by decide +kernel
theorem dX2_position_1 : decode cX2_position 1 = .ok (.iload_n 1, 1) := by decide +kernel
theorem dX2_position_2 : decode cX2_position 2 = .ok (.invokevirtual 119, 3) := by decide +kernel
theorem dX2_position_5 : decode cX2_position 5 = .ok (.ifCond .eq 18, 3) := by decide +kernel
theorem dX2_position_8 : decode cX2_position 8 = .ok (.aload_n 0, 1) := by decide +kernel
theorem dX2_position_9 : decode cX2_position 9 = .ok (.getfield 20, 3) := by decide +kernel
theorem dX2_position_12 : decode cX2_position 12 = .ok (.getfield 125, 3) := by decide +kernel
theorem dX2_position_15 : decode cX2_position 15 = .ok (.iload_n 1, 1) := by decide +kernel
theorem dX2_position_16 : decode cX2_position 16 = .ok (.aaload, 1) := by decide +kernel
theorem dX2_position_17 : decode cX2_position 17 = .ok (.invokevirtual 129, 3) := by decide +kernel
theorem dX2_position_20 : decode cX2_position 20 = .ok (.goto 4, 3) := by decide +kernel
theorem dX2_position_23 : decode cX2_position 23 = .ok (.iconst (-1), 1) := by decide +kernel
theorem dX2_position_24 : decode cX2_position 24 = .ok (.ireturn, 1) := by decide +kernel
theorem dX2_direction_0 : decode cX2_direction 0 = .ok (.aload_n 0, 1) := by decide +kernel
theorem dX2_direction_1 : decode cX2_direction 1 = .ok (.iload_n 1, 1) := by decide +kernel
theorem dX2_direction_2 : decode cX2_direction 2 = .ok (.invokevirtual 119, 3) := by decide +kernel
theorem dX2_direction_5 : decode cX2_direction 5 = .ok (.ifCond .eq 18, 3) := by decide +kernel
theorem dX2_direction_8 : decode cX2_direction 8 = .ok (.aload_n 0, 1) := by decide +kernel
theorem dX2_direction_9 : decode cX2_direction 9 = .ok (.getfield 20, 3) := by decide +kernel
theorem dX2_direction_12 : decode cX2_direction 12 = .ok (.getfield 125, 3) := by decide +kernel
theorem dX2_direction_15 : decode cX2_direction 15 = .ok (.iload_n 1, 1) := by decide +kernel
theorem dX2_direction_16 : decode cX2_direction 16 = .ok (.aaload, 1) := by decide +kernel
theorem dX2_direction_17 : decode cX2_direction 17 = .ok (.getfield 134, 3) := by decide +kernel
theorem dX2_direction_20 : decode cX2_direction 20 = .ok (.goto 4, 3) := by decide +kernel
theorem dX2_direction_23 : decode cX2_direction 23 = .ok (.iconst (-1), 1) := by decide +kernel
theorem dX2_direction_24 : decode cX2_direction 24 = .ok (.ireturn, 1) := by decide +kernel
theorem dX2_status_0 : decode cX2_status 0 = .ok (.aload_n 0, 1) := by decide +kernel
theorem dX2_status_1 : decode cX2_status 1 = .ok (.iload_n 1, 1) := by decide +kernel
theorem dX2_status_2 : decode cX2_status 2 = .ok (.invokevirtual 119, 3) := by decide +kernel
theorem dX2_status_5 : decode cX2_status 5 = .ok (.ifCond .eq 18, 3) := by decide +kernel
theorem dX2_status_8 : decode cX2_status 8 = .ok (.aload_n 0, 1) := by decide +kernel
theorem dX2_status_9 : decode cX2_status 9 = .ok (.getfield 20, 3) := by decide +kernel
theorem dX2_status_12 : decode cX2_status 12 = .ok (.getfield 125, 3) := by decide +kernel
theorem dX2_status_15 : decode cX2_status 15 = .ok (.iload_n 1, 1) := by decide +kernel
theorem dX2_status_16 : decode cX2_status 16 = .ok (.aaload, 1) := by decide +kernel
theorem dX2_status_17 : decode cX2_status 17 = .ok (.getfield 137, 3) := by decide +kernel
theorem dX2_status_20 : decode cX2_status 20 = .ok (.goto 4, 3) := by decide +kernel
theorem dX2_status_23 : decode cX2_status 23 = .ok (.iconst (-1), 1) := by decide +kernel
theorem dX2_status_24 : decode cX2_status 24 = .ok (.ireturn, 1) := by decide +kernel
theorem dX2_sleep_0 : decode cX2_sleep 0 = .ok (.aload_n 0, 1) := by decide +kernel
theorem dX2_sleep_1 : decode cX2_sleep 1 = .ok (.iload_n 1, 1) := by decide +kernel
theorem dX2_sleep_2 : decode cX2_sleep 2 = .ok (.invokevirtual 119, 3) := by decide +kernel
theorem dX2_sleep_5 : decode cX2_sleep 5 = .ok (.ifCond .eq 18, 3) := by decide +kernel
theorem dX2_sleep_8 : decode cX2_sleep 8 = .ok (.aload_n 0, 1) := by decide +kernel
theorem dX2_sleep_9 : decode cX2_sleep 9 = .ok (.getfield 20, 3) := by decide +kernel
theorem dX2_sleep_12 : decode cX2_sleep 12 = .ok (.getfield 125, 3) := by decide +kernel
theorem dX2_sleep_15 : decode cX2_sleep 15 = .ok (.iload_n 1, 1) := by decide +kernel
theorem dX2_sleep_16 : decode cX2_sleep 16 = .ok (.aaload, 1) := by decide +kernel
theorem dX2_sleep_17 : decode cX2_sleep 17 = .ok (.getfield 140, 3) := by decide +kernel
theorem dX2_sleep_20 : decode cX2_sleep 20 = .ok (.goto 4, 3) := by decide +kernel
theorem dX2_sleep_23 : decode cX2_sleep 23 = .ok (.iconst (-1), 1) := by decide +kernel
theorem dX2_sleep_24 : decode cX2_sleep 24 = .ok (.ireturn, 1) := by decide +kernel
theorem dX2_stackCount_0 : decode cX2_stackCount 0 = .ok (.aload_n 0, 1) := by decide +kernel
theorem dX2_stackCount_1 : decode cX2_stackCount 1 = .ok (.iload_n 1, 1) := by decide +kernel
theorem dX2_stackCount_2 : decode cX2_stackCount 2 = .ok (.invokevirtual 119, 3) := by decide +kernel
theorem dX2_stackCount_5 : decode cX2_stackCount 5 = .ok (.ifCond .eq 18, 3) := by decide +kernel
theorem dX2_stackCount_8 : decode cX2_stackCount 8 = .ok (.aload_n 0, 1) := by decide +kernel
theorem dX2_stackCount_9 : decode cX2_stackCount 9 = .ok (.getfield 20, 3) := by decide +kernel
theorem dX2_stackCount_12 : decode cX2_stackCount 12 = .ok (.getfield 125, 3) := by decide +kernel
theorem dX2_stackCount_15 : decode cX2_stackCount 15 = .ok (.iload_n 1, 1) := by decide +kernel
theorem dX2_stackCount_16 : decode cX2_stackCount 16 = .ok (.aaload, 1) := by decide +kernel
theorem dX2_stackCount_17 : decode cX2_stackCount 17 = .ok (.getfield 143, 3) := by decide +kernel
theorem dX2_stackCount_20 : decode cX2_stackCount 20 = .ok (.goto 4, 3) := by decide +kernel
theorem dX2_stackCount_23 : decode cX2_stackCount 23 = .ok (.iconst (-1), 1) := by decide +kernel
theorem dX2_stackCount_24 : decode cX2_stackCount 24 = .ok (.ireturn, 1) := by decide +kernel
theorem dX2_stackSize_0 : decode cX2_stackSize 0 = .ok (.aload_n 0, 1) := by decide +kernel
theorem dX2_stackSize_1 : decode cX2_stackSize 1 = .ok (.iload_n 1, 1) := by decide +kernel
theorem dX2_stackSize_2 : decode cX2_stackSize 2 = .ok (.iload_n 2, 1) := by decide +kernel
theorem dX2_stackSize_3 : decode cX2_stackSize 3 = .ok (.invokevirtual 146, 3) := by decide +kernel
theorem dX2_stackSize_6 : decode cX2_stackSize 6 = .ok (.ifCond .eq 20, 3) := by decide +kernel
theorem dX2_stackSize_9 : decode cX2_stackSize 9 = .ok (.aload_n 0, 1) := by decide +kernel
theorem dX2_stackSize_10 : decode cX2_stackSize 10 = .ok (.getfield 20, 3) := by decide +kernel
theorem dX2_stackSize_13 : decode cX2_stackSize 13 = .ok (.getfield 125, 3) := by decide +kernel
theorem dX2_stackSize_16 : decode cX2_stackSize 16 = .ok (.iload_n 1, 1) := by decide +kernel
theorem dX2_stackSize_17 : decode cX2_stackSize 17 = .ok (.aaload, 1) := by decide +kernel
theorem dX2_stackSize_18 : decode cX2_stackSize 18 = .ok (.getfield 149, 3) := by decide +kernel
theorem dX2_stackSize_21 : decode cX2_stackSize 21 = .ok (.iload_n 2, 1) := by decide +kernel
theorem dX2_stackSize_22 : decode cX2_stackSize 22 = .ok (.iaload, 1) := by decide +kernel
theorem dX2_stackSize_23 : decode cX2_stackSize 23 = .ok (.goto 4, 3) := by decide +kernel
theorem dX2_stackSize_26 : decode cX2_stackSize 26 = .ok (.iconst (-1), 1) := by decide +kernel
theorem dX2_stackSize_27 : decode cX2_stackSize 27 = .ok (.ireturn, 1) := by decide +kernel
theorem dX2_valueAt_0 : decode cX2_valueAt 0 = .ok (.aload_n 0, 1) := by decide +kernel
theorem dX2_valueAt_1 : decode cX2_valueAt 1 = .ok (.iload_n 1, 1) := by decide +kernel
theorem dX2_valueAt_2 : decode cX2_valueAt 2 = .ok (.iload_n 2, 1) := by decide +kernel
theorem dX2_valueAt_3 : decode cX2_valueAt 3 = .ok (.invokevirtual 146, 3) := by decide +kernel
theorem dX2_valueAt_6 : decode cX2_valueAt 6 = .ok (.ifCond .ne 5, 3) := by decide +kernel
theorem dX2_valueAt_9 : decode cX2_valueAt 9 = .ok (.iconst 0, 1) := by decide +kernel
theorem dX2_valueAt_10 : decode cX2_valueAt 10 = .ok (.ireturn, 1) := by decide +kernel
theorem dX2_valueAt_11 : decode cX2_valueAt 11 = .ok (.aload_n 0, 1) := by decide +kernel
theorem dX2_valueAt_12 : decode cX2_valueAt 12 = .ok (.getfield 20, 3) := by decide +kernel
theorem dX2_valueAt_15 : decode cX2_valueAt 15 = .ok (.getfield 125, 3) := by decide +kernel
theorem dX2_valueAt_18 : decode cX2_valueAt 18 = .ok (.iload_n 1, 1) := by decide +kernel
theorem dX2_valueAt_19 : decode cX2_valueAt 19 = .ok (.aaload, 1) := by decide +kernel
theorem dX2_valueAt_20 : decode cX2_valueAt 20 = .ok (.astore 4, 2) := by decide +kernel
theorem dX2_valueAt_22 : decode cX2_valueAt 22 = .ok (.iload_n 3, 1) := by decide +kernel
theorem dX2_valueAt_23 : decode cX2_valueAt 23 = .ok (.ifCond .lt 14, 3) := by decide +kernel
theorem dX2_valueAt_26 : decode cX2_valueAt 26 = .ok (.iload_n 3, 1) := by decide +kernel
theorem dX2_valueAt_27 : decode cX2_valueAt 27 = .ok (.aload 4, 2) := by decide +kernel
theorem dX2_valueAt_29 : decode cX2_valueAt 29 = .ok (.getfield 149, 3) := by decide +kernel
theorem dX2_valueAt_32 : decode cX2_valueAt 32 = .ok (.iload_n 2, 1) := by decide +kernel
theorem dX2_valueAt_33 : decode cX2_valueAt 33 = .ok (.iaload, 1) := by decide +kernel
theorem dX2_valueAt_34 : decode cX2_valueAt 34 = .ok (.if_icmp .lt 5, 3) := by decide +kernel
theorem dX2_valueAt_37 : decode cX2_valueAt 37 = .ok (.iconst 0, 1) := by decide +kernel
theorem dX2_valueAt_38 : decode cX2_valueAt 38 = .ok (.ireturn, 1) := by decide +kernel
theorem dX2_valueAt_39 : decode cX2_valueAt 39 = .ok (.aload 4, 2) := by decide +kernel
theorem dX2_valueAt_41 : decode cX2_valueAt 41 = .ok (.getfield 152, 3) := by decide +kernel
theorem dX2_valueAt_44 : decode cX2_valueAt 44 = .ok (.aload 4, 2) := by decide +kernel
theorem dX2_valueAt_46 : decode cX2_valueAt 46 = .ok (.iload_n 2, 1) := by decide +kernel
theorem dX2_valueAt_47 : decode cX2_valueAt 47 = .ok (.invokevirtual 155, 3) := by decide +kernel
theorem dX2_valueAt_50 : decode cX2_valueAt 50 = .ok (.iload_n 3, 1) := by decide +kernel
theorem dX2_valueAt_51 : decode cX2_valueAt 51 = .ok (.iadd, 1) := by decide +kernel
theorem dX2_valueAt_52 : decode cX2_valueAt 52 = .ok (.iaload, 1) := by decide +kernel
theorem dX2_valueAt_53 : decode cX2_valueAt 53 = .ok (.ireturn, 1) := by decide +kernel
theorem dX2_inputSize_0 : decode cX2_inputSize 0 = .ok (.aload_n 0, 1) := by decide +kernel
theorem dX2_inputSize_1 : decode cX2_inputSize 1 = .ok (.getfield 20, 3) := by decide +kernel
theorem dX2_inputSize_4 : decode cX2_inputSize 4 = .ok (.getfield 54, 3) := by decide +kernel
theorem dX2_inputSize_7 : decode cX2_inputSize 7 = .ok (.ireturn, 1) := by decide +kernel
theorem dX2_outputSize_0 : decode cX2_outputSize 0 = .ok (.aload_n 0, 1) := by decide +kernel
theorem dX2_outputSize_1 : decode cX2_outputSize 1 = .ok (.getfield 20, 3) := by decide +kernel
theorem dX2_outputSize_4 : decode cX2_outputSize 4 = .ok (.getfield 158, 3) := by decide +kernel
theorem dX2_outputSize_7 : decode cX2_outputSize 7 = .ok (.ireturn, 1) := by decide +kernel
theorem dX2_outputAt_0 : decode cX2_outputAt 0 = .ok (.iload_n 1, 1) := by decide +kernel
theorem dX2_outputAt_1 : decode cX2_outputAt 1 = .ok (.ifCond .lt 26, 3) := by decide +kernel
theorem dX2_outputAt_4 : decode cX2_outputAt 4 = .ok (.iload_n 1, 1) := by decide +kernel
theorem dX2_outputAt_5 : decode cX2_outputAt 5 = .ok (.aload_n 0, 1) := by decide +kernel
theorem dX2_outputAt_6 : decode cX2_outputAt 6 = .ok (.getfield 20, 3) := by decide +kernel
theorem dX2_outputAt_9 : decode cX2_outputAt 9 = .ok (.getfield 158, 3) := by decide +kernel
theorem dX2_outputAt_12 : decode cX2_outputAt 12 = .ok (.if_icmp .ge 15, 3) := by decide +kernel
theorem dX2_outputAt_15 : decode cX2_outputAt 15 = .ok (.aload_n 0, 1) := by decide +kernel
theorem dX2_outputAt_16 : decode cX2_outputAt 16 = .ok (.getfield 20, 3) := by decide +kernel
theorem dX2_outputAt_19 : decode cX2_outputAt 19 = .ok (.getfield 161, 3) := by decide +kernel
theorem dX2_outputAt_22 : decode cX2_outputAt 22 = .ok (.iload_n 1, 1) := by decide +kernel
theorem dX2_outputAt_23 : decode cX2_outputAt 23 = .ok (.iaload, 1) := by decide +kernel
theorem dX2_outputAt_24 : decode cX2_outputAt 24 = .ok (.goto 4, 3) := by decide +kernel
theorem dX2_outputAt_27 : decode cX2_outputAt 27 = .ok (.iconst 0, 1) := by decide +kernel
theorem dX2_outputAt_28 : decode cX2_outputAt 28 = .ok (.ireturn, 1) := by decide +kernel
theorem dX2_outputTotal_0 : decode cX2_outputTotal 0 = .ok (.aload_n 0, 1) := by decide +kernel
theorem dX2_outputTotal_1 : decode cX2_outputTotal 1 = .ok (.getfield 20, 3) := by decide +kernel
theorem dX2_outputTotal_4 : decode cX2_outputTotal 4 = .ok (.getfield 164, 3) := by decide +kernel
theorem dX2_outputTotal_7 : decode cX2_outputTotal 7 = .ok (.ireturn, 1) := by decide +kernel
theorem dX2_tickCount_0 : decode cX2_tickCount 0 = .ok (.aload_n 0, 1) := by decide +kernel
theorem dX2_tickCount_1 : decode cX2_tickCount 1 = .ok (.getfield 20, 3) := by decide +kernel
theorem dX2_tickCount_4 : decode cX2_tickCount 4 = .ok (.getfield 63, 3) := by decide +kernel
theorem dX2_tickCount_7 : decode cX2_tickCount 7 = .ok (.ireturn, 1) := by decide +kernel
theorem dX2_save_0 : decode cX2_save 0 = .ok (.iload_n 1, 1) := by decide +kernel
theorem dX2_save_1 : decode cX2_save 1 = .ok (.ifCond .lt 8, 3) := by decide +kernel
theorem dX2_save_4 : decode cX2_save 4 = .ok (.iload_n 1, 1) := by decide +kernel
theorem dX2_save_5 : decode cX2_save 5 = .ok (.iconst 2, 1) := by decide +kernel
theorem dX2_save_6 : decode cX2_save 6 = .ok (.if_icmp .lt 5, 3) := by decide +kernel
theorem dX2_save_9 : decode cX2_save 9 = .ok (.iconst (-1), 1) := by decide +kernel
theorem dX2_save_10 : decode cX2_save 10 = .ok (.ireturn, 1) := by decide +kernel
theorem dX2_save_11 : decode cX2_save 11 = .ok (.aload_n 0, 1) := by decide +kernel
theorem dX2_save_12 : decode cX2_save 12 = .ok (.getfield 28, 3) := by decide +kernel
theorem dX2_save_15 : decode cX2_save 15 = .ok (.iload_n 1, 1) := by decide +kernel
theorem dX2_save_16 : decode cX2_save 16 = .ok (.aaload, 1) := by decide +kernel
theorem dX2_save_17 : decode cX2_save 17 = .ok (.aload_n 0, 1) := by decide +kernel
theorem dX2_save_18 : decode cX2_save 18 = .ok (.getfield 20, 3) := by decide +kernel
theorem dX2_save_21 : decode cX2_save 21 = .ok (.invokevirtual 91, 3) := by decide +kernel
theorem dX2_save_24 : decode cX2_save 24 = .ok (.aload_n 0, 1) := by decide +kernel
theorem dX2_save_25 : decode cX2_save 25 = .ok (.getfield 31, 3) := by decide +kernel
theorem dX2_save_28 : decode cX2_save 28 = .ok (.iload_n 1, 1) := by decide +kernel
theorem dX2_save_29 : decode cX2_save 29 = .ok (.iconst 1, 1) := by decide +kernel
theorem dX2_save_30 : decode cX2_save 30 = .ok (.bastore, 1) := by decide +kernel
theorem dX2_save_31 : decode cX2_save 31 = .ok (.aload_n 0, 1) := by decide +kernel
theorem dX2_save_32 : decode cX2_save 32 = .ok (.getfield 20, 3) := by decide +kernel
theorem dX2_save_35 : decode cX2_save 35 = .ok (.getfield 63, 3) := by decide +kernel
theorem dX2_save_38 : decode cX2_save 38 = .ok (.ireturn, 1) := by decide +kernel
theorem dX2_restore_0 : decode cX2_restore 0 = .ok (.iload_n 1, 1) := by decide +kernel
theorem dX2_restore_1 : decode cX2_restore 1 = .ok (.ifCond .lt 8, 3) := by decide +kernel
theorem dX2_restore_4 : decode cX2_restore 4 = .ok (.iload_n 1, 1) := by decide +kernel
theorem dX2_restore_5 : decode cX2_restore 5 = .ok (.iconst 2, 1) := by decide +kernel
theorem dX2_restore_6 : decode cX2_restore 6 = .ok (.if_icmp .lt 5, 3) := by decide +kernel
theorem dX2_restore_9 : decode cX2_restore 9 = .ok (.iconst (-1), 1) := by decide +kernel
theorem dX2_restore_10 : decode cX2_restore 10 = .ok (.ireturn, 1) := by decide +kernel
theorem dX2_restore_11 : decode cX2_restore 11 = .ok (.aload_n 0, 1) := by decide +kernel
theorem dX2_restore_12 : decode cX2_restore 12 = .ok (.getfield 31, 3) := by decide +kernel
theorem dX2_restore_15 : decode cX2_restore 15 = .ok (.iload_n 1, 1) := by decide +kernel
theorem dX2_restore_16 : decode cX2_restore 16 = .ok (.baload, 1) := by decide +kernel
theorem dX2_restore_17 : decode cX2_restore 17 = .ok (.ifCond .ne 6, 3) := by decide +kernel
theorem dX2_restore_20 : decode cX2_restore 20 = .ok (.bipush (-2), 2) := by decide +kernel
theorem dX2_restore_22 : decode cX2_restore 22 = .ok (.ireturn, 1) := by decide +kernel
theorem dX2_restore_23 : decode cX2_restore 23 = .ok (.aload_n 0, 1) := by decide +kernel
theorem dX2_restore_24 : decode cX2_restore 24 = .ok (.getfield 20, 3) := by decide +kernel
theorem dX2_restore_27 : decode cX2_restore 27 = .ok (.aload_n 0, 1) := by decide +kernel
theorem dX2_restore_28 : decode cX2_restore 28 = .ok (.getfield 28, 3) := by decide +kernel
theorem dX2_restore_31 : decode cX2_restore 31 = .ok (.iload_n 1, 1) := by decide +kernel
theorem dX2_restore_32 : decode cX2_restore 32 = .ok (.aaload, 1) := by decide +kernel
theorem dX2_restore_33 : decode cX2_restore 33 = .ok (.invokevirtual 91, 3) := by decide +kernel
theorem dX2_restore_36 : decode cX2_restore 36 = .ok (.aload_n 0, 1) := by decide +kernel
theorem dX2_restore_37 : decode cX2_restore 37 = .ok (.iconst 0, 1) := by decide +kernel
theorem dX2_restore_38 : decode cX2_restore 38 = .ok (.putfield 88, 3) := by decide +kernel
theorem dX2_restore_41 : decode cX2_restore 41 = .ok (.aload_n 0, 1) := by decide +kernel
theorem dX2_restore_42 : decode cX2_restore 42 = .ok (.getfield 20, 3) := by decide +kernel
theorem dX2_restore_45 : decode cX2_restore 45 = .ok (.getfield 63, 3) := by decide +kernel
theorem dX2_restore_48 : decode cX2_restore 48 = .ok (.ireturn, 1) := by decide +kernel
theorem dX2_undoDepth_0 : decode cX2_undoDepth 0 = .ok (.aload_n 0, 1) := by decide +kernel
theorem dX2_undoDepth_1 : decode cX2_undoDepth 1 = .ok (.getfield 88, 3) := by decide +kernel
theorem dX2_undoDepth_4 : decode cX2_undoDepth 4 = .ok (.ireturn, 1) := by decide +kernel
theorem dX2_isCell_0 : decode cX2_isCell 0 = .ok (.iload_n 0, 1) := by decide +kernel
theorem dX2_isCell_1 : decode cX2_isCell 1 = .ok (.ifCond .lt 23, 3) := by decide +kernel
theorem dX2_isCell_4 : decode cX2_isCell 4 = .ok (.iload_n 0, 1) := by decide +kernel
theorem dX2_isCell_5 : decode cX2_isCell 5 = .ok (.bipush 12, 2) := by decide +kernel
theorem dX2_isCell_7 : decode cX2_isCell 7 = .ok (.if_icmp .ge 17, 3) := by decide +kernel
theorem dX2_isCell_10 : decode cX2_isCell 10 = .ok (.iload_n 1, 1) := by decide +kernel
theorem dX2_isCell_11 : decode cX2_isCell 11 = .ok (.ifCond .lt 13, 3) := by decide +kernel
theorem dX2_isCell_14 : decode cX2_isCell 14 = .ok (.iload_n 1, 1) := by decide +kernel
theorem dX2_isCell_15 : decode cX2_isCell 15 = .ok (.bipush 6, 2) := by decide +kernel
theorem dX2_isCell_17 : decode cX2_isCell 17 = .ok (.if_icmp .ge 7, 3) := by decide +kernel
theorem dX2_isCell_20 : decode cX2_isCell 20 = .ok (.iconst 1, 1) := by decide +kernel
theorem dX2_isCell_21 : decode cX2_isCell 21 = .ok (.goto 4, 3) := by decide +kernel
theorem dX2_isCell_24 : decode cX2_isCell 24 = .ok (.iconst 0, 1) := by decide +kernel
theorem dX2_isCell_25 : decode cX2_isCell 25 = .ok (.ireturn, 1) := by decide +kernel
theorem dX2_isCode_0 : decode cX2_isCode 0 = .ok (.iload_n 0, 1) := by decide +kernel
theorem dX2_isCode_1 : decode cX2_isCode 1 = .ok (.bipush 32, 2) := by decide +kernel
theorem dX2_isCode_3 : decode cX2_isCode 3 = .ok (.if_icmp .lt 13, 3) := by decide +kernel
theorem dX2_isCode_6 : decode cX2_isCode 6 = .ok (.iload_n 0, 1) := by decide +kernel
theorem dX2_isCode_7 : decode cX2_isCode 7 = .ok (.bipush 126, 2) := by decide +kernel
theorem dX2_isCode_9 : decode cX2_isCode 9 = .ok (.if_icmp .gt 7, 3) := by decide +kernel
theorem dX2_isCode_12 : decode cX2_isCode 12 = .ok (.iconst 1, 1) := by decide +kernel
theorem dX2_isCode_13 : decode cX2_isCode 13 = .ok (.goto 4, 3) := by decide +kernel
theorem dX2_isCode_16 : decode cX2_isCode 16 = .ok (.iconst 0, 1) := by decide +kernel
theorem dX2_isCode_17 : decode cX2_isCode 17 = .ok (.ireturn, 1) := by decide +kernel
theorem dX2_isTickLimit_0 : decode cX2_isTickLimit 0 = .ok (.iload_n 0, 1) := by decide +kernel
theorem dX2_isTickLimit_1 : decode cX2_isTickLimit 1 = .ok (.iconst 1, 1) := by decide +kernel
theorem dX2_isTickLimit_2 : decode cX2_isTickLimit 2 = .ok (.if_icmp .lt 14, 3) := by decide +kernel
theorem dX2_isTickLimit_5 : decode cX2_isTickLimit 5 = .ok (.iload_n 0, 1) := by decide +kernel
theorem dX2_isTickLimit_6 : decode cX2_isTickLimit 6 = .ok (.sipush 200, 3) := by decide +kernel
theorem dX2_isTickLimit_9 : decode cX2_isTickLimit 9 = .ok (.if_icmp .gt 7, 3) := by decide +kernel
theorem dX2_isTickLimit_12 : decode cX2_isTickLimit 12 = .ok (.iconst 1, 1) := by decide +kernel
theorem dX2_isTickLimit_13 : decode cX2_isTickLimit 13 = .ok (.goto 4, 3) := by decide +kernel
theorem dX2_isTickLimit_16 : decode cX2_isTickLimit 16 = .ok (.iconst 0, 1) := by decide +kernel
theorem dX2_isTickLimit_17 : decode cX2_isTickLimit 17 = .ok (.ireturn, 1) := by decide +kernel
theorem dX2_isPointer_0 : decode cX2_isPointer 0 = .ok (.iload_n 1, 1) := by decide +kernel
theorem dX2_isPointer_1 : decode cX2_isPointer 1 = .ok (.ifCond .lt 18, 3) := by decide +kernel
theorem dX2_isPointer_4 : decode cX2_isPointer 4 = .ok (.iload_n 1, 1) := by decide +kernel
theorem dX2_isPointer_5 : decode cX2_isPointer 5 = .ok (.aload_n 0, 1) := by decide +kernel
theorem dX2_isPointer_6 : decode cX2_isPointer 6 = .ok (.getfield 20, 3) := by decide +kernel
theorem dX2_isPointer_9 : decode cX2_isPointer 9 = .ok (.getfield 116, 3) := by decide +kernel
theorem dX2_isPointer_12 : decode cX2_isPointer 12 = .ok (.if_icmp .ge 7, 3) := by decide +kernel
theorem dX2_isPointer_15 : decode cX2_isPointer 15 = .ok (.iconst 1, 1) := by decide +kernel
theorem dX2_isPointer_16 : decode cX2_isPointer 16 = .ok (.goto 4, 3) := by decide +kernel
theorem dX2_isPointer_19 : decode cX2_isPointer 19 = .ok (.iconst 0, 1) := by decide +kernel
theorem dX2_isPointer_20 : decode cX2_isPointer 20 = .ok (.ireturn, 1) := by decide +kernel
theorem dX2_isStack_0 : decode cX2_isStack 0 = .ok (.aload_n 0, 1) := by decide +kernel
theorem dX2_isStack_1 : decode cX2_isStack 1 = .ok (.iload_n 1, 1) := by decide +kernel
theorem dX2_isStack_2 : decode cX2_isStack 2 = .ok (.invokevirtual 119, 3) := by decide +kernel
theorem dX2_isStack_5 : decode cX2_isStack 5 = .ok (.ifCond .eq 27, 3) := by decide +kernel
theorem dX2_isStack_8 : decode cX2_isStack 8 = .ok (.iload_n 2, 1) := by decide +kernel
theorem dX2_isStack_9 : decode cX2_isStack 9 = .ok (.ifCond .lt 23, 3) := by decide +kernel
theorem dX2_isStack_12 : decode cX2_isStack 12 = .ok (.iload_n 2, 1) := by decide +kernel
theorem dX2_isStack_13 : decode cX2_isStack 13 = .ok (.aload_n 0, 1) := by decide +kernel
theorem dX2_isStack_14 : decode cX2_isStack 14 = .ok (.getfield 20, 3) := by decide +kernel
theorem dX2_isStack_17 : decode cX2_isStack 17 = .ok (.getfield 125, 3) := by decide +kernel
theorem dX2_isStack_20 : decode cX2_isStack 20 = .ok (.iload_n 1, 1) := by decide +kernel
theorem dX2_isStack_21 : decode cX2_isStack 21 = .ok (.aaload, 1) := by decide +kernel
theorem dX2_isStack_22 : decode cX2_isStack 22 = .ok (.getfield 143, 3) := by decide +kernel
theorem dX2_isStack_25 : decode cX2_isStack 25 = .ok (.if_icmp .ge 7, 3) := by decide +kernel
theorem dX2_isStack_28 : decode cX2_isStack 28 = .ok (.iconst 1, 1) := by decide +kernel
theorem dX2_isStack_29 : decode cX2_isStack 29 = .ok (.goto 4, 3) := by decide +kernel
theorem dX2_isStack_32 : decode cX2_isStack 32 = .ok (.iconst 0, 1) := by decide +kernel
theorem dX2_isStack_33 : decode cX2_isStack 33 = .ok (.ireturn, 1) := by decide +kernel
theorem dX2_errorPosition_0 : decode cX2_errorPosition 0 = .ok (.iconst 0, 1) := by decide +kernel
theorem dX2_errorPosition_1 : decode cX2_errorPosition 1 = .ok (.istore_n 1, 1) := by decide +kernel
theorem dX2_errorPosition_2 : decode cX2_errorPosition 2 = .ok (.iconst 0, 1) := by decide +kernel
theorem dX2_errorPosition_3 : decode cX2_errorPosition 3 = .ok (.istore_n 2, 1) := by decide +kernel
theorem dX2_errorPosition_4 : decode cX2_errorPosition 4 = .ok (.iconst 0, 1) := by decide +kernel
theorem dX2_errorPosition_5 : decode cX2_errorPosition 5 = .ok (.istore_n 3, 1) := by decide +kernel
theorem dX2_errorPosition_6 : decode cX2_errorPosition 6 = .ok (.iload_n 3, 1) := by decide +kernel
theorem dX2_errorPosition_7 : decode cX2_errorPosition 7 = .ok (.aload_n 0, 1) := by decide +kernel
theorem dX2_errorPosition_8 : decode cX2_errorPosition 8 = .ok (.getfield 40, 3) := by decide +kernel
theorem dX2_errorPosition_11 : decode cX2_errorPosition 11 = .ok (.if_icmp .ge 59, 3) := by decide +kernel
theorem dX2_errorPosition_14 : decode cX2_errorPosition 14 = .ok (.aload_n 0, 1) := by decide +kernel
theorem dX2_errorPosition_15 : decode cX2_errorPosition 15 = .ok (.getfield 9, 3) := by decide +kernel
theorem dX2_errorPosition_18 : decode cX2_errorPosition 18 = .ok (.iload_n 3, 1) := by decide +kernel
theorem dX2_errorPosition_19 : decode cX2_errorPosition 19 = .ok (.iaload, 1) := by decide +kernel
theorem dX2_errorPosition_20 : decode cX2_errorPosition 20 = .ok (.istore 4, 2) := by decide +kernel
theorem dX2_errorPosition_22 : decode cX2_errorPosition 22 = .ok (.iload_n 1, 1) := by decide +kernel
theorem dX2_errorPosition_23 : decode cX2_errorPosition 23 = .ok (.bipush 6, 2) := by decide +kernel
theorem dX2_errorPosition_25 : decode cX2_errorPosition 25 = .ok (.if_icmp .lt 5, 3) := by decide +kernel
theorem dX2_errorPosition_28 : decode cX2_errorPosition 28 = .ok (.iload_n 3, 1) := by decide +kernel
theorem dX2_errorPosition_29 : decode cX2_errorPosition 29 = .ok (.ireturn, 1) := by decide +kernel
theorem dX2_errorPosition_30 : decode cX2_errorPosition 30 = .ok (.iload 4, 2) := by decide +kernel
theorem dX2_errorPosition_32 : decode cX2_errorPosition 32 = .ok (.bipush 10, 2) := by decide +kernel
theorem dX2_errorPosition_34 : decode cX2_errorPosition 34 = .ok (.if_icmp .ne 11, 3) := by decide +kernel
theorem dX2_errorPosition_37 : decode cX2_errorPosition 37 = .ok (.iinc 1 1, 3) := by decide +kernel
theorem dX2_errorPosition_40 : decode cX2_errorPosition 40 = .ok (.iconst 0, 1) := by decide +kernel
theorem dX2_errorPosition_41 : decode cX2_errorPosition 41 = .ok (.istore_n 2, 1) := by decide +kernel
theorem dX2_errorPosition_42 : decode cX2_errorPosition 42 = .ok (.goto 22, 3) := by decide +kernel
theorem dX2_errorPosition_45 : decode cX2_errorPosition 45 = .ok (.iload_n 2, 1) := by decide +kernel
theorem dX2_errorPosition_46 : decode cX2_errorPosition 46 = .ok (.bipush 12, 2) := by decide +kernel
theorem dX2_errorPosition_48 : decode cX2_errorPosition 48 = .ok (.if_icmp .ge 11, 3) := by decide +kernel
theorem dX2_errorPosition_51 : decode cX2_errorPosition 51 = .ok (.iload 4, 2) := by decide +kernel
theorem dX2_errorPosition_53 : decode cX2_errorPosition 53 = .ok (.invokestatic 74, 3) := by decide +kernel
theorem dX2_errorPosition_56 : decode cX2_errorPosition 56 = .ok (.ifCond .ne 5, 3) := by decide +kernel
theorem dX2_errorPosition_59 : decode cX2_errorPosition 59 = .ok (.iload_n 3, 1) := by decide +kernel
theorem dX2_errorPosition_60 : decode cX2_errorPosition 60 = .ok (.ireturn, 1) := by decide +kernel
theorem dX2_errorPosition_61 : decode cX2_errorPosition 61 = .ok (.iinc 2 1, 3) := by decide +kernel
theorem dX2_errorPosition_64 : decode cX2_errorPosition 64 = .ok (.iinc 3 1, 3) := by decide +kernel
theorem dX2_errorPosition_67 : decode cX2_errorPosition 67 = .ok (.goto (-61), 3) := by decide +kernel
theorem dX2_errorPosition_70 : decode cX2_errorPosition 70 = .ok (.bipush (-9), 2) := by decide +kernel
theorem dX2_errorPosition_72 : decode cX2_errorPosition 72 = .ok (.ireturn, 1) := by decide +kernel
theorem dX2_readProgram_0 : decode cX2_readProgram 0 = .ok (.iconst 0, 1) := by decide +kernel
theorem dX2_readProgram_1 : decode cX2_readProgram 1 = .ok (.istore_n 1, 1) := by decide +kernel
theorem dX2_readProgram_2 : decode cX2_readProgram 2 = .ok (.iload_n 1, 1) := by decide +kernel
theorem dX2_readProgram_3 : decode cX2_readProgram 3 = .ok (.bipush 72, 2) := by decide +kernel
theorem dX2_readProgram_5 : decode cX2_readProgram 5 = .ok (.if_icmp .ge 20, 3) := by decide +kernel
theorem dX2_readProgram_8 : decode cX2_readProgram 8 = .ok (.aload_n 0, 1) := by decide +kernel
theorem dX2_readProgram_9 : decode cX2_readProgram 9 = .ok (.getfield 20, 3) := by decide +kernel
theorem dX2_readProgram_12 : decode cX2_readProgram 12 = .ok (.getfield 113, 3) := by decide +kernel
theorem dX2_readProgram_15 : decode cX2_readProgram 15 = .ok (.iload_n 1, 1) := by decide +kernel
theorem dX2_readProgram_16 : decode cX2_readProgram 16 = .ok (.bipush 32, 2) := by decide +kernel
theorem dX2_readProgram_18 : decode cX2_readProgram 18 = .ok (.iastore, 1) := by decide +kernel
theorem dX2_readProgram_19 : decode cX2_readProgram 19 = .ok (.iinc 1 1, 3) := by decide +kernel
theorem dX2_readProgram_22 : decode cX2_readProgram 22 = .ok (.goto (-20), 3) := by decide +kernel
theorem dX2_readProgram_25 : decode cX2_readProgram 25 = .ok (.iconst 0, 1) := by decide +kernel
theorem dX2_readProgram_26 : decode cX2_readProgram 26 = .ok (.istore_n 1, 1) := by decide +kernel
theorem dX2_readProgram_27 : decode cX2_readProgram 27 = .ok (.iconst 0, 1) := by decide +kernel
theorem dX2_readProgram_28 : decode cX2_readProgram 28 = .ok (.istore_n 2, 1) := by decide +kernel
theorem dX2_readProgram_29 : decode cX2_readProgram 29 = .ok (.iconst 0, 1) := by decide +kernel
theorem dX2_readProgram_30 : decode cX2_readProgram 30 = .ok (.istore_n 3, 1) := by decide +kernel
theorem dX2_readProgram_31 : decode cX2_readProgram 31 = .ok (.iload_n 3, 1) := by decide +kernel
theorem dX2_readProgram_32 : decode cX2_readProgram 32 = .ok (.aload_n 0, 1) := by decide +kernel
theorem dX2_readProgram_33 : decode cX2_readProgram 33 = .ok (.getfield 40, 3) := by decide +kernel
theorem dX2_readProgram_36 : decode cX2_readProgram 36 = .ok (.if_icmp .ge 59, 3) := by decide +kernel
theorem dX2_readProgram_39 : decode cX2_readProgram 39 = .ok (.aload_n 0, 1) := by decide +kernel
theorem dX2_readProgram_40 : decode cX2_readProgram 40 = .ok (.getfield 9, 3) := by decide +kernel
theorem dX2_readProgram_43 : decode cX2_readProgram 43 = .ok (.iload_n 3, 1) := by decide +kernel
theorem dX2_readProgram_44 : decode cX2_readProgram 44 = .ok (.iaload, 1) := by decide +kernel
theorem dX2_readProgram_45 : decode cX2_readProgram 45 = .ok (.istore 4, 2) := by decide +kernel
theorem dX2_readProgram_47 : decode cX2_readProgram 47 = .ok (.iload 4, 2) := by decide +kernel
theorem dX2_readProgram_49 : decode cX2_readProgram 49 = .ok (.bipush 10, 2) := by decide +kernel
theorem dX2_readProgram_51 : decode cX2_readProgram 51 = .ok (.if_icmp .ne 11, 3) := by decide +kernel
theorem dX2_readProgram_54 : decode cX2_readProgram 54 = .ok (.iinc 1 1, 3) := by decide +kernel
theorem dX2_readProgram_57 : decode cX2_readProgram 57 = .ok (.iconst 0, 1) := by decide +kernel
theorem dX2_readProgram_58 : decode cX2_readProgram 58 = .ok (.istore_n 2, 1) := by decide +kernel
theorem dX2_readProgram_59 : decode cX2_readProgram 59 = .ok (.goto 30, 3) := by decide +kernel
theorem dX2_readProgram_62 : decode cX2_readProgram 62 = .ok (.iload_n 2, 1) := by decide +kernel
theorem dX2_readProgram_63 : decode cX2_readProgram 63 = .ok (.iload_n 1, 1) := by decide +kernel
theorem dX2_readProgram_64 : decode cX2_readProgram 64 = .ok (.invokestatic 70, 3) := by decide +kernel
theorem dX2_readProgram_67 : decode cX2_readProgram 67 = .ok (.ifCond .eq 22, 3) := by decide +kernel
theorem dX2_readProgram_70 : decode cX2_readProgram 70 = .ok (.aload_n 0, 1) := by decide +kernel
theorem dX2_readProgram_71 : decode cX2_readProgram 71 = .ok (.getfield 20, 3) := by decide +kernel
theorem dX2_readProgram_74 : decode cX2_readProgram 74 = .ok (.getfield 113, 3) := by decide +kernel
theorem dX2_readProgram_77 : decode cX2_readProgram 77 = .ok (.bipush 12, 2) := by decide +kernel
theorem dX2_readProgram_79 : decode cX2_readProgram 79 = .ok (.iload_n 1, 1) := by decide +kernel
theorem dX2_readProgram_80 : decode cX2_readProgram 80 = .ok (.imul, 1) := by decide +kernel
theorem dX2_readProgram_81 : decode cX2_readProgram 81 = .ok (.iload_n 2, 1) := by decide +kernel
theorem dX2_readProgram_82 : decode cX2_readProgram 82 = .ok (.iadd, 1) := by decide +kernel
theorem dX2_readProgram_83 : decode cX2_readProgram 83 = .ok (.iload 4, 2) := by decide +kernel
theorem dX2_readProgram_85 : decode cX2_readProgram 85 = .ok (.iastore, 1) := by decide +kernel
theorem dX2_readProgram_86 : decode cX2_readProgram 86 = .ok (.iinc 2 1, 3) := by decide +kernel
theorem dX2_readProgram_89 : decode cX2_readProgram 89 = .ok (.iinc 3 1, 3) := by decide +kernel
theorem dX2_readProgram_92 : decode cX2_readProgram 92 = .ok (.goto (-61), 3) := by decide +kernel
theorem dX2_readProgram_95 : decode cX2_readProgram 95 = .ok (.return_, 1) := by decide +kernel
theorem dX2_keepForUndo_0 : decode cX2_keepForUndo 0 = .ok (.aload_n 0, 1) := by decide +kernel
theorem dX2_keepForUndo_1 : decode cX2_keepForUndo 1 = .ok (.getfield 88, 3) := by decide +kernel
theorem dX2_keepForUndo_4 : decode cX2_keepForUndo 4 = .ok (.bipush 6, 2) := by decide +kernel
theorem dX2_keepForUndo_6 : decode cX2_keepForUndo 6 = .ok (.if_icmp .lt 50, 3) := by decide +kernel
theorem dX2_keepForUndo_9 : decode cX2_keepForUndo 9 = .ok (.aload_n 0, 1) := by decide +kernel
theorem dX2_keepForUndo_10 : decode cX2_keepForUndo 10 = .ok (.getfield 24, 3) := by decide +kernel
theorem dX2_keepForUndo_13 : decode cX2_keepForUndo 13 = .ok (.iconst 0, 1) := by decide +kernel
theorem dX2_keepForUndo_14 : decode cX2_keepForUndo 14 = .ok (.aaload, 1) := by decide +kernel
theorem dX2_keepForUndo_15 : decode cX2_keepForUndo 15 = .ok (.astore_n 1, 1) := by decide +kernel
theorem dX2_keepForUndo_16 : decode cX2_keepForUndo 16 = .ok (.iconst 1, 1) := by decide +kernel
theorem dX2_keepForUndo_17 : decode cX2_keepForUndo 17 = .ok (.istore_n 2, 1) := by decide +kernel
theorem dX2_keepForUndo_18 : decode cX2_keepForUndo 18 = .ok (.iload_n 2, 1) := by decide +kernel
theorem dX2_keepForUndo_19 : decode cX2_keepForUndo 19 = .ok (.bipush 6, 2) := by decide +kernel
theorem dX2_keepForUndo_21 : decode cX2_keepForUndo 21 = .ok (.if_icmp .ge 23, 3) := by decide +kernel
theorem dX2_keepForUndo_24 : decode cX2_keepForUndo 24 = .ok (.aload_n 0, 1) := by decide +kernel
theorem dX2_keepForUndo_25 : decode cX2_keepForUndo 25 = .ok (.getfield 24, 3) := by decide +kernel
theorem dX2_keepForUndo_28 : decode cX2_keepForUndo 28 = .ok (.iload_n 2, 1) := by decide +kernel
theorem dX2_keepForUndo_29 : decode cX2_keepForUndo 29 = .ok (.iconst 1, 1) := by decide +kernel
theorem dX2_keepForUndo_30 : decode cX2_keepForUndo 30 = .ok (.isub, 1) := by decide +kernel
theorem dX2_keepForUndo_31 : decode cX2_keepForUndo 31 = .ok (.aload_n 0, 1) := by decide +kernel
theorem dX2_keepForUndo_32 : decode cX2_keepForUndo 32 = .ok (.getfield 24, 3) := by decide +kernel
theorem dX2_keepForUndo_35 : decode cX2_keepForUndo 35 = .ok (.iload_n 2, 1) := by decide +kernel
theorem dX2_keepForUndo_36 : decode cX2_keepForUndo 36 = .ok (.aaload, 1) := by decide +kernel
theorem dX2_keepForUndo_37 : decode cX2_keepForUndo 37 = .ok (.aastore, 1) := by decide +kernel
theorem dX2_keepForUndo_38 : decode cX2_keepForUndo 38 = .ok (.iinc 2 1, 3) := by decide +kernel
theorem dX2_keepForUndo_41 : decode cX2_keepForUndo 41 = .ok (.goto (-23), 3) := by decide +kernel
theorem dX2_keepForUndo_44 : decode cX2_keepForUndo 44 = .ok (.aload_n 0, 1) := by decide +kernel
theorem dX2_keepForUndo_45 : decode cX2_keepForUndo 45 = .ok (.getfield 24, 3) := by decide +kernel
theorem dX2_keepForUndo_48 : decode cX2_keepForUndo 48 = .ok (.iconst 5, 1) := by decide +kernel
theorem dX2_keepForUndo_49 : decode cX2_keepForUndo 49 = .ok (.aload_n 1, 1) := by decide +kernel
theorem dX2_keepForUndo_50 : decode cX2_keepForUndo 50 = .ok (.aastore, 1) := by decide +kernel
theorem dX2_keepForUndo_51 : decode cX2_keepForUndo 51 = .ok (.aload_n 0, 1) := by decide +kernel
theorem dX2_keepForUndo_52 : decode cX2_keepForUndo 52 = .ok (.iconst 5, 1) := by decide +kernel
theorem dX2_keepForUndo_53 : decode cX2_keepForUndo 53 = .ok (.putfield 88, 3) := by decide +kernel
theorem dX2_keepForUndo_56 : decode cX2_keepForUndo 56 = .ok (.aload_n 0, 1) := by decide +kernel
theorem dX2_keepForUndo_57 : decode cX2_keepForUndo 57 = .ok (.getfield 24, 3) := by decide +kernel
theorem dX2_keepForUndo_60 : decode cX2_keepForUndo 60 = .ok (.aload_n 0, 1) := by decide +kernel
theorem dX2_keepForUndo_61 : decode cX2_keepForUndo 61 = .ok (.getfield 88, 3) := by decide +kernel
theorem dX2_keepForUndo_64 : decode cX2_keepForUndo 64 = .ok (.aaload, 1) := by decide +kernel
theorem dX2_keepForUndo_65 : decode cX2_keepForUndo 65 = .ok (.aload_n 0, 1) := by decide +kernel
theorem dX2_keepForUndo_66 : decode cX2_keepForUndo 66 = .ok (.getfield 20, 3) := by decide +kernel
theorem dX2_keepForUndo_69 : decode cX2_keepForUndo 69 = .ok (.invokevirtual 91, 3) := by decide +kernel
theorem dX2_keepForUndo_72 : decode cX2_keepForUndo 72 = .ok (.aload_n 0, 1) := by decide +kernel
theorem dX2_keepForUndo_73 : decode cX2_keepForUndo 73 = .ok (.dup, 1) := by decide +kernel
theorem dX2_keepForUndo_74 : decode cX2_keepForUndo 74 = .ok (.getfield 88, 3) := by decide +kernel
theorem dX2_keepForUndo_77 : decode cX2_keepForUndo 77 = .ok (.iconst 1, 1) := by decide +kernel
theorem dX2_keepForUndo_78 : decode cX2_keepForUndo 78 = .ok (.iadd, 1) := by decide +kernel
theorem dX2_keepForUndo_79 : decode cX2_keepForUndo 79 = .ok (.putfield 88, 3) := by decide +kernel
theorem dX2_keepForUndo_82 : decode cX2_keepForUndo 82 = .ok (.return_, 1) := by decide +kernel
theorem dX2_advance_0 : decode cX2_advance 0 = .ok (.iload_n 1, 1) := by decide +kernel
theorem dX2_advance_1 : decode cX2_advance 1 = .ok (.invokestatic 95, 3) := by decide +kernel
theorem dX2_advance_4 : decode cX2_advance 4 = .ok (.ifCond .ne 5, 3) := by decide +kernel
theorem dX2_advance_7 : decode cX2_advance 7 = .ok (.iconst (-1), 1) := by decide +kernel
theorem dX2_advance_8 : decode cX2_advance 8 = .ok (.ireturn, 1) := by decide +kernel
theorem dX2_advance_9 : decode cX2_advance 9 = .ok (.aload_n 0, 1) := by decide +kernel
theorem dX2_advance_10 : decode cX2_advance 10 = .ok (.getfield 20, 3) := by decide +kernel
theorem dX2_advance_13 : decode cX2_advance 13 = .ok (.invokevirtual 98, 3) := by decide +kernel
theorem dX2_advance_16 : decode cX2_advance 16 = .ok (.ifCond .eq 6, 3) := by decide +kernel
theorem dX2_advance_19 : decode cX2_advance 19 = .ok (.bipush (-2), 2) := by decide +kernel
theorem dX2_advance_21 : decode cX2_advance 21 = .ok (.ireturn, 1) := by decide +kernel
theorem dX2_advance_22 : decode cX2_advance 22 = .ok (.aload_n 0, 1) := by decide +kernel
theorem dX2_advance_23 : decode cX2_advance 23 = .ok (.invokevirtual 48, 3) := by decide +kernel
theorem dX2_advance_26 : decode cX2_advance 26 = .ok (.iconst 0, 1) := by decide +kernel
theorem dX2_advance_27 : decode cX2_advance 27 = .ok (.istore_n 3, 1) := by decide +kernel
theorem dX2_advance_28 : decode cX2_advance 28 = .ok (.iload_n 3, 1) := by decide +kernel
theorem dX2_advance_29 : decode cX2_advance 29 = .ok (.iload_n 1, 1) := by decide +kernel
theorem dX2_advance_30 : decode cX2_advance 30 = .ok (.if_icmp .ge 37, 3) := by decide +kernel
theorem dX2_advance_33 : decode cX2_advance 33 = .ok (.aload_n 0, 1) := by decide +kernel
theorem dX2_advance_34 : decode cX2_advance 34 = .ok (.getfield 20, 3) := by decide +kernel
theorem dX2_advance_37 : decode cX2_advance 37 = .ok (.invokevirtual 98, 3) := by decide +kernel
theorem dX2_advance_40 : decode cX2_advance 40 = .ok (.ifCond .ne 27, 3) := by decide +kernel
theorem dX2_advance_43 : decode cX2_advance 43 = .ok (.aload_n 0, 1) := by decide +kernel
theorem dX2_advance_44 : decode cX2_advance 44 = .ok (.getfield 20, 3) := by decide +kernel
theorem dX2_advance_47 : decode cX2_advance 47 = .ok (.invokevirtual 102, 3) := by decide +kernel
theorem dX2_advance_50 : decode cX2_advance 50 = .ok (.iinc 3 1, 3) := by decide +kernel
theorem dX2_advance_53 : decode cX2_advance 53 = .ok (.iload_n 2, 1) := by decide +kernel
theorem dX2_advance_54 : decode cX2_advance 54 = .ok (.ifCond .eq (-26), 3) := by decide +kernel
theorem dX2_advance_57 : decode cX2_advance 57 = .ok (.aload_n 0, 1) := by decide +kernel
theorem dX2_advance_58 : decode cX2_advance 58 = .ok (.invokevirtual 167, 3) := by decide +kernel
theorem dX2_advance_61 : decode cX2_advance 61 = .ok (.ifCond .eq (-33), 3) := by decide +kernel
theorem dX2_advance_64 : decode cX2_advance 64 = .ok (.goto 3, 3) := by decide +kernel
theorem dX2_advance_67 : decode cX2_advance 67 = .ok (.iload_n 3, 1) := by decide +kernel
theorem dX2_advance_68 : decode cX2_advance 68 = .ok (.ireturn, 1) := by decide +kernel
theorem dX2_atBreakpoint_0 : decode cX2_atBreakpoint 0 = .ok (.iconst 0, 1) := by decide +kernel
theorem dX2_atBreakpoint_1 : decode cX2_atBreakpoint 1 = .ok (.istore_n 1, 1) := by decide +kernel
theorem dX2_atBreakpoint_2 : decode cX2_atBreakpoint 2 = .ok (.iload_n 1, 1) := by decide +kernel
theorem dX2_atBreakpoint_3 : decode cX2_atBreakpoint 3 = .ok (.aload_n 0, 1) := by decide +kernel
theorem dX2_atBreakpoint_4 : decode cX2_atBreakpoint 4 = .ok (.getfield 20, 3) := by decide +kernel
theorem dX2_atBreakpoint_7 : decode cX2_atBreakpoint 7 = .ok (.getfield 116, 3) := by decide +kernel
theorem dX2_atBreakpoint_10 : decode cX2_atBreakpoint 10 = .ok (.if_icmp .ge 47, 3) := by decide +kernel
theorem dX2_atBreakpoint_13 : decode cX2_atBreakpoint 13 = .ok (.aload_n 0, 1) := by decide +kernel
theorem dX2_atBreakpoint_14 : decode cX2_atBreakpoint 14 = .ok (.getfield 20, 3) := by decide +kernel
theorem dX2_atBreakpoint_17 : decode cX2_atBreakpoint 17 = .ok (.getfield 125, 3) := by decide +kernel
theorem dX2_atBreakpoint_20 : decode cX2_atBreakpoint 20 = .ok (.iload_n 1, 1) := by decide +kernel
theorem dX2_atBreakpoint_21 : decode cX2_atBreakpoint 21 = .ok (.aaload, 1) := by decide +kernel
theorem dX2_atBreakpoint_22 : decode cX2_atBreakpoint 22 = .ok (.astore_n 2, 1) := by decide +kernel
theorem dX2_atBreakpoint_23 : decode cX2_atBreakpoint 23 = .ok (.aload_n 2, 1) := by decide +kernel
theorem dX2_atBreakpoint_24 : decode cX2_atBreakpoint 24 = .ok (.getfield 137, 3) := by decide +kernel
theorem dX2_atBreakpoint_27 : decode cX2_atBreakpoint 27 = .ok (.ifCond .ne 24, 3) := by decide +kernel
theorem dX2_atBreakpoint_30 : decode cX2_atBreakpoint 30 = .ok (.aload_n 2, 1) := by decide +kernel
theorem dX2_atBreakpoint_31 : decode cX2_atBreakpoint 31 = .ok (.getfield 140, 3) := by decide +kernel
theorem dX2_atBreakpoint_34 : decode cX2_atBreakpoint 34 = .ok (.ifCond .ne 17, 3) := by decide +kernel
theorem dX2_atBreakpoint_37 : decode cX2_atBreakpoint 37 = .ok (.aload_n 0, 1) := by decide +kernel
theorem dX2_atBreakpoint_38 : decode cX2_atBreakpoint 38 = .ok (.getfield 13, 3) := by decide +kernel
theorem dX2_atBreakpoint_41 : decode cX2_atBreakpoint 41 = .ok (.aload_n 2, 1) := by decide +kernel
theorem dX2_atBreakpoint_42 : decode cX2_atBreakpoint 42 = .ok (.invokevirtual 129, 3) := by decide +kernel
theorem dX2_atBreakpoint_45 : decode cX2_atBreakpoint 45 = .ok (.baload, 1) := by decide +kernel
theorem dX2_atBreakpoint_46 : decode cX2_atBreakpoint 46 = .ok (.ifCond .eq 5, 3) := by decide +kernel
theorem dX2_atBreakpoint_49 : decode cX2_atBreakpoint 49 = .ok (.iconst 1, 1) := by decide +kernel
theorem dX2_atBreakpoint_50 : decode cX2_atBreakpoint 50 = .ok (.ireturn, 1) := by decide +kernel
theorem dX2_atBreakpoint_51 : decode cX2_atBreakpoint 51 = .ok (.iinc 1 1, 3) := by decide +kernel
theorem dX2_atBreakpoint_54 : decode cX2_atBreakpoint 54 = .ok (.goto (-52), 3) := by decide +kernel
theorem dX2_atBreakpoint_57 : decode cX2_atBreakpoint 57 = .ok (.iconst 0, 1) := by decide +kernel
theorem dX2_atBreakpoint_58 : decode cX2_atBreakpoint 58 = .ok (.ireturn, 1) := by decide +kernel
theorem dX2_findPeriod_0 : decode cX2_findPeriod 0 = .ok (.aload_n 0, 1) := by decide +kernel
theorem dX2_findPeriod_1 : decode cX2_findPeriod 1 = .ok (.getfield 34, 3) := by decide +kernel
theorem dX2_findPeriod_4 : decode cX2_findPeriod 4 = .ok (.aload_n 0, 1) := by decide +kernel
theorem dX2_findPeriod_5 : decode cX2_findPeriod 5 = .ok (.getfield 20, 3) := by decide +kernel
theorem dX2_findPeriod_8 : decode cX2_findPeriod 8 = .ok (.invokevirtual 91, 3) := by decide +kernel
theorem dX2_findPeriod_11 : decode cX2_findPeriod 11 = .ok (.iconst 0, 1) := by decide +kernel
theorem dX2_findPeriod_12 : decode cX2_findPeriod 12 = .ok (.istore_n 2, 1) := by decide +kernel
theorem dX2_findPeriod_13 : decode cX2_findPeriod 13 = .ok (.iload_n 2, 1) := by decide +kernel
theorem dX2_findPeriod_14 : decode cX2_findPeriod 14 = .ok (.iload_n 1, 1) := by decide +kernel
theorem dX2_findPeriod_15 : decode cX2_findPeriod 15 = .ok (.if_icmp .ge 16, 3) := by decide +kernel
theorem dX2_findPeriod_18 : decode cX2_findPeriod 18 = .ok (.aload_n 0, 1) := by decide +kernel
theorem dX2_findPeriod_19 : decode cX2_findPeriod 19 = .ok (.getfield 34, 3) := by decide +kernel
theorem dX2_findPeriod_22 : decode cX2_findPeriod 22 = .ok (.invokevirtual 102, 3) := by decide +kernel
theorem dX2_findPeriod_25 : decode cX2_findPeriod 25 = .ok (.iinc 2 1, 3) := by decide +kernel
theorem dX2_findPeriod_28 : decode cX2_findPeriod 28 = .ok (.goto (-15), 3) := by decide +kernel
theorem dX2_findPeriod_31 : decode cX2_findPeriod 31 = .ok (.aload_n 0, 1) := by decide +kernel
theorem dX2_findPeriod_32 : decode cX2_findPeriod 32 = .ok (.getfield 34, 3) := by decide +kernel
theorem dX2_findPeriod_35 : decode cX2_findPeriod 35 = .ok (.invokevirtual 98, 3) := by decide +kernel
theorem dX2_findPeriod_38 : decode cX2_findPeriod 38 = .ok (.ifCond .eq 6, 3) := by decide +kernel
theorem dX2_findPeriod_41 : decode cX2_findPeriod 41 = .ok (.bipush (-9), 2) := by decide +kernel
theorem dX2_findPeriod_43 : decode cX2_findPeriod 43 = .ok (.ireturn, 1) := by decide +kernel
theorem dX2_findPeriod_44 : decode cX2_findPeriod 44 = .ok (.aload_n 0, 1) := by decide +kernel
theorem dX2_findPeriod_45 : decode cX2_findPeriod 45 = .ok (.getfield 37, 3) := by decide +kernel
theorem dX2_findPeriod_48 : decode cX2_findPeriod 48 = .ok (.aload_n 0, 1) := by decide +kernel
theorem dX2_findPeriod_49 : decode cX2_findPeriod 49 = .ok (.getfield 34, 3) := by decide +kernel
theorem dX2_findPeriod_52 : decode cX2_findPeriod 52 = .ok (.invokevirtual 91, 3) := by decide +kernel
theorem dX2_findPeriod_55 : decode cX2_findPeriod 55 = .ok (.iconst 1, 1) := by decide +kernel
theorem dX2_findPeriod_56 : decode cX2_findPeriod 56 = .ok (.istore_n 2, 1) := by decide +kernel
theorem dX2_findPeriod_57 : decode cX2_findPeriod 57 = .ok (.iload_n 2, 1) := by decide +kernel
theorem dX2_findPeriod_58 : decode cX2_findPeriod 58 = .ok (.iload_n 1, 1) := by decide +kernel
theorem dX2_findPeriod_59 : decode cX2_findPeriod 59 = .ok (.if_icmp .gt 32, 3) := by decide +kernel
theorem dX2_findPeriod_62 : decode cX2_findPeriod 62 = .ok (.aload_n 0, 1) := by decide +kernel
theorem dX2_findPeriod_63 : decode cX2_findPeriod 63 = .ok (.getfield 37, 3) := by decide +kernel
theorem dX2_findPeriod_66 : decode cX2_findPeriod 66 = .ok (.invokevirtual 102, 3) := by decide +kernel
theorem dX2_findPeriod_69 : decode cX2_findPeriod 69 = .ok (.aload_n 0, 1) := by decide +kernel
theorem dX2_findPeriod_70 : decode cX2_findPeriod 70 = .ok (.getfield 37, 3) := by decide +kernel
theorem dX2_findPeriod_73 : decode cX2_findPeriod 73 = .ok (.aload_n 0, 1) := by decide +kernel
theorem dX2_findPeriod_74 : decode cX2_findPeriod 74 = .ok (.getfield 34, 3) := by decide +kernel
theorem dX2_findPeriod_77 : decode cX2_findPeriod 77 = .ok (.invokevirtual 170, 3) := by decide +kernel
theorem dX2_findPeriod_80 : decode cX2_findPeriod 80 = .ok (.ifCond .eq 5, 3) := by decide +kernel
theorem dX2_findPeriod_83 : decode cX2_findPeriod 83 = .ok (.iload_n 2, 1) := by decide +kernel
theorem dX2_findPeriod_84 : decode cX2_findPeriod 84 = .ok (.ireturn, 1) := by decide +kernel
theorem dX2_findPeriod_85 : decode cX2_findPeriod 85 = .ok (.iinc 2 1, 3) := by decide +kernel
theorem dX2_findPeriod_88 : decode cX2_findPeriod 88 = .ok (.goto (-31), 3) := by decide +kernel
theorem dX2_findPeriod_91 : decode cX2_findPeriod 91 = .ok (.bipush (-9), 2) := by decide +kernel
theorem dX2_findPeriod_93 : decode cX2_findPeriod 93 = .ok (.ireturn, 1) := by decide +kernel
theorem dX2_findCycleEntry_0 : decode cX2_findCycleEntry 0 = .ok (.aload_n 0, 1) := by decide +kernel
theorem dX2_findCycleEntry_1 : decode cX2_findCycleEntry 1 = .ok (.getfield 34, 3) := by decide +kernel
theorem dX2_findCycleEntry_4 : decode cX2_findCycleEntry 4 = .ok (.aload_n 0, 1) := by decide +kernel
theorem dX2_findCycleEntry_5 : decode cX2_findCycleEntry 5 = .ok (.getfield 20, 3) := by decide +kernel
theorem dX2_findCycleEntry_8 : decode cX2_findCycleEntry 8 = .ok (.invokevirtual 91, 3) := by decide +kernel
theorem dX2_findCycleEntry_11 : decode cX2_findCycleEntry 11 = .ok (.aload_n 0, 1) := by decide +kernel
theorem dX2_findCycleEntry_12 : decode cX2_findCycleEntry 12 = .ok (.getfield 37, 3) := by decide +kernel
theorem dX2_findCycleEntry_15 : decode cX2_findCycleEntry 15 = .ok (.aload_n 0, 1) := by decide +kernel
theorem dX2_findCycleEntry_16 : decode cX2_findCycleEntry 16 = .ok (.getfield 20, 3) := by decide +kernel
theorem dX2_findCycleEntry_19 : decode cX2_findCycleEntry 19 = .ok (.invokevirtual 91, 3) := by decide +kernel
theorem dX2_findCycleEntry_22 : decode cX2_findCycleEntry 22 = .ok (.iconst 0, 1) := by decide +kernel
theorem dX2_findCycleEntry_23 : decode cX2_findCycleEntry 23 = .ok (.istore_n 3, 1) := by decide +kernel
theorem dX2_findCycleEntry_24 : decode cX2_findCycleEntry 24 = .ok (.iload_n 3, 1) := by decide +kernel
theorem dX2_findCycleEntry_25 : decode cX2_findCycleEntry 25 = .ok (.iload_n 2, 1) := by decide +kernel
theorem dX2_findCycleEntry_26 : decode cX2_findCycleEntry 26 = .ok (.if_icmp .ge 16, 3) := by decide +kernel
theorem dX2_findCycleEntry_29 : decode cX2_findCycleEntry 29 = .ok (.aload_n 0, 1) := by decide +kernel
theorem dX2_findCycleEntry_30 : decode cX2_findCycleEntry 30 = .ok (.getfield 37, 3) := by decide +kernel
theorem dX2_findCycleEntry_33 : decode cX2_findCycleEntry 33 = .ok (.invokevirtual 102, 3) := by decide +kernel
theorem dX2_findCycleEntry_36 : decode cX2_findCycleEntry 36 = .ok (.iinc 3 1, 3) := by decide +kernel
theorem dX2_findCycleEntry_39 : decode cX2_findCycleEntry 39 = .ok (.goto (-15), 3) := by decide +kernel
theorem dX2_findCycleEntry_42 : decode cX2_findCycleEntry 42 = .ok (.iconst 0, 1) := by decide +kernel
theorem dX2_findCycleEntry_43 : decode cX2_findCycleEntry 43 = .ok (.istore_n 3, 1) := by decide +kernel
theorem dX2_findCycleEntry_44 : decode cX2_findCycleEntry 44 = .ok (.iload_n 3, 1) := by decide +kernel
theorem dX2_findCycleEntry_45 : decode cX2_findCycleEntry 45 = .ok (.iload_n 2, 1) := by decide +kernel
theorem dX2_findCycleEntry_46 : decode cX2_findCycleEntry 46 = .ok (.iadd, 1) := by decide +kernel
theorem dX2_findCycleEntry_47 : decode cX2_findCycleEntry 47 = .ok (.iload_n 1, 1) := by decide +kernel
theorem dX2_findCycleEntry_48 : decode cX2_findCycleEntry 48 = .ok (.if_icmp .gt 39, 3) := by decide +kernel
theorem dX2_findCycleEntry_51 : decode cX2_findCycleEntry 51 = .ok (.aload_n 0, 1) := by decide +kernel
theorem dX2_findCycleEntry_52 : decode cX2_findCycleEntry 52 = .ok (.getfield 37, 3) := by decide +kernel
theorem dX2_findCycleEntry_55 : decode cX2_findCycleEntry 55 = .ok (.aload_n 0, 1) := by decide +kernel
theorem dX2_findCycleEntry_56 : decode cX2_findCycleEntry 56 = .ok (.getfield 34, 3) := by decide +kernel
theorem dX2_findCycleEntry_59 : decode cX2_findCycleEntry 59 = .ok (.invokevirtual 170, 3) := by decide +kernel
theorem dX2_findCycleEntry_62 : decode cX2_findCycleEntry 62 = .ok (.ifCond .eq 5, 3) := by decide +kernel
theorem dX2_findCycleEntry_65 : decode cX2_findCycleEntry 65 = .ok (.iload_n 3, 1) := by decide +kernel
theorem dX2_findCycleEntry_66 : decode cX2_findCycleEntry 66 = .ok (.ireturn, 1) := by decide +kernel
theorem dX2_findCycleEntry_67 : decode cX2_findCycleEntry 67 = .ok (.aload_n 0, 1) := by decide +kernel
theorem dX2_findCycleEntry_68 : decode cX2_findCycleEntry 68 = .ok (.getfield 34, 3) := by decide +kernel
theorem dX2_findCycleEntry_71 : decode cX2_findCycleEntry 71 = .ok (.invokevirtual 102, 3) := by decide +kernel
theorem dX2_findCycleEntry_74 : decode cX2_findCycleEntry 74 = .ok (.aload_n 0, 1) := by decide +kernel
theorem dX2_findCycleEntry_75 : decode cX2_findCycleEntry 75 = .ok (.getfield 37, 3) := by decide +kernel
theorem dX2_findCycleEntry_78 : decode cX2_findCycleEntry 78 = .ok (.invokevirtual 102, 3) := by decide +kernel
theorem dX2_findCycleEntry_81 : decode cX2_findCycleEntry 81 = .ok (.iinc 3 1, 3) := by decide +kernel
theorem dX2_findCycleEntry_84 : decode cX2_findCycleEntry 84 = .ok (.goto (-40), 3) := by decide +kernel
theorem dX2_findCycleEntry_87 : decode cX2_findCycleEntry 87 = .ok (.bipush (-9), 2) := by decide +kernel
theorem dX2_findCycleEntry_89 : decode cX2_findCycleEntry 89 = .ok (.ireturn, 1) := by decide +kernel
