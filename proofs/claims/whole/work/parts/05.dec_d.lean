theorem d_M_tear_0 : decode b_M_tear 0 = .ok (.aload_n 0, 1) := by decide +kernel
theorem d_M_tear_1 : decode b_M_tear 1 = .ok (.iconst 1, 1) := by decide +kernel
theorem d_M_tear_2 : decode b_M_tear 2 = .ok (.putfield 148, 3) := by decide +kernel
theorem d_M_tear_5 : decode b_M_tear 5 = .ok (.return_, 1) := by decide +kernel
theorem d_M_crash_0 : decode b_M_crash 0 = .ok (.aload_n 0, 1) := by decide +kernel
theorem d_M_crash_1 : decode b_M_crash 1 = .ok (.invokevirtual 145, 3) := by decide +kernel
theorem d_M_crash_4 : decode b_M_crash 4 = .ok (.return_, 1) := by decide +kernel
theorem d_M_tick_0 : decode b_M_tick 0 = .ok (.aload_n 0, 1) := by decide +kernel
theorem d_M_tick_1 : decode b_M_tick 1 = .ok (.dup, 1) := by decide +kernel
theorem d_M_tick_2 : decode b_M_tick 2 = .ok (.getfield 72, 3) := by decide +kernel
theorem d_M_tick_5 : decode b_M_tick 5 = .ok (.iload_n 1, 1) := by decide +kernel
theorem d_M_tick_6 : decode b_M_tick 6 = .ok (.ifCond .lt 14, 3) := by decide +kernel
theorem d_M_tick_9 : decode b_M_tick 9 = .ok (.iload_n 1, 1) := by decide +kernel
theorem d_M_tick_10 : decode b_M_tick 10 = .ok (.sipush 5000, 3) := by decide +kernel
theorem d_M_tick_13 : decode b_M_tick 13 = .ok (.if_icmp .gt 7, 3) := by decide +kernel
theorem d_M_tick_16 : decode b_M_tick 16 = .ok (.iload_n 1, 1) := by decide +kernel
theorem d_M_tick_17 : decode b_M_tick 17 = .ok (.goto 4, 3) := by decide +kernel
theorem d_M_tick_20 : decode b_M_tick 20 = .ok (.iconst 0, 1) := by decide +kernel
theorem d_M_tick_21 : decode b_M_tick 21 = .ok (.iadd, 1) := by decide +kernel
theorem d_M_tick_22 : decode b_M_tick 22 = .ok (.putfield 72, 3) := by decide +kernel
theorem d_M_tick_25 : decode b_M_tick 25 = .ok (.aload_n 0, 1) := by decide +kernel
theorem d_M_tick_26 : decode b_M_tick 26 = .ok (.getfield 72, 3) := by decide +kernel
theorem d_M_tick_29 : decode b_M_tick 29 = .ok (.ireturn, 1) := by decide +kernel
theorem d_M_inTable_0 : decode b_M_inTable 0 = .ok (.iconst 0, 1) := by decide +kernel
theorem d_M_inTable_1 : decode b_M_inTable 1 = .ok (.istore_n 3, 1) := by decide +kernel
theorem d_M_inTable_2 : decode b_M_inTable 2 = .ok (.iconst 0, 1) := by decide +kernel
theorem d_M_inTable_3 : decode b_M_inTable 3 = .ok (.istore 4, 2) := by decide +kernel
theorem d_M_inTable_5 : decode b_M_inTable 5 = .ok (.iload 4, 2) := by decide +kernel
theorem d_M_inTable_7 : decode b_M_inTable 7 = .ok (.aload_n 0, 1) := by decide +kernel
theorem d_M_inTable_8 : decode b_M_inTable 8 = .ok (.getfield 79, 3) := by decide +kernel
theorem d_M_inTable_11 : decode b_M_inTable 11 = .ok (.if_icmp .ge 39, 3) := by decide +kernel
theorem d_M_inTable_14 : decode b_M_inTable 14 = .ok (.iload_n 3, 1) := by decide +kernel
theorem d_M_inTable_15 : decode b_M_inTable 15 = .ok (.aload_n 0, 1) := by decide +kernel
theorem d_M_inTable_16 : decode b_M_inTable 16 = .ok (.getfield 28, 3) := by decide +kernel
theorem d_M_inTable_19 : decode b_M_inTable 19 = .ok (.iload 4, 2) := by decide +kernel
theorem d_M_inTable_21 : decode b_M_inTable 21 = .ok (.iaload, 1) := by decide +kernel
theorem d_M_inTable_22 : decode b_M_inTable 22 = .ok (.iload_n 1, 1) := by decide +kernel
theorem d_M_inTable_23 : decode b_M_inTable 23 = .ok (.if_icmp .ne 18, 3) := by decide +kernel
theorem d_M_inTable_26 : decode b_M_inTable 26 = .ok (.aload_n 0, 1) := by decide +kernel
theorem d_M_inTable_27 : decode b_M_inTable 27 = .ok (.getfield 31, 3) := by decide +kernel
theorem d_M_inTable_30 : decode b_M_inTable 30 = .ok (.iload 4, 2) := by decide +kernel
theorem d_M_inTable_32 : decode b_M_inTable 32 = .ok (.iaload, 1) := by decide +kernel
theorem d_M_inTable_33 : decode b_M_inTable 33 = .ok (.iload_n 2, 1) := by decide +kernel
theorem d_M_inTable_34 : decode b_M_inTable 34 = .ok (.if_icmp .ne 7, 3) := by decide +kernel
theorem d_M_inTable_37 : decode b_M_inTable 37 = .ok (.iconst 1, 1) := by decide +kernel
theorem d_M_inTable_38 : decode b_M_inTable 38 = .ok (.goto 4, 3) := by decide +kernel
theorem d_M_inTable_41 : decode b_M_inTable 41 = .ok (.iconst 0, 1) := by decide +kernel
theorem d_M_inTable_42 : decode b_M_inTable 42 = .ok (.iadd, 1) := by decide +kernel
theorem d_M_inTable_43 : decode b_M_inTable 43 = .ok (.istore_n 3, 1) := by decide +kernel
theorem d_M_inTable_44 : decode b_M_inTable 44 = .ok (.iinc 4 1, 3) := by decide +kernel
theorem d_M_inTable_47 : decode b_M_inTable 47 = .ok (.goto (-42), 3) := by decide +kernel
theorem d_M_inTable_50 : decode b_M_inTable 50 = .ok (.iload_n 3, 1) := by decide +kernel
theorem d_M_inTable_51 : decode b_M_inTable 51 = .ok (.ireturn, 1) := by decide +kernel
theorem d_M_bits_0 : decode b_M_bits 0 = .ok (.lconst 1, 1) := by decide +kernel
theorem d_M_bits_1 : decode b_M_bits 1 = .ok (.bipush 7, 2) := by decide +kernel
theorem d_M_bits_3 : decode b_M_bits 3 = .ok (.iload_n 0, 1) := by decide +kernel
theorem d_M_bits_4 : decode b_M_bits 4 = .ok (.imul, 1) := by decide +kernel
theorem d_M_bits_5 : decode b_M_bits 5 = .ok (.iconst 3, 1) := by decide +kernel
theorem d_M_bits_6 : decode b_M_bits 6 = .ok (.iadd, 1) := by decide +kernel
theorem d_M_bits_7 : decode b_M_bits 7 = .ok (.bipush 64, 2) := by decide +kernel
theorem d_M_bits_9 : decode b_M_bits 9 = .ok (.irem, 1) := by decide +kernel
theorem d_M_bits_10 : decode b_M_bits 10 = .ok (.lshl, 1) := by decide +kernel
theorem d_M_bits_11 : decode b_M_bits 11 = .ok (.lconst 1, 1) := by decide +kernel
theorem d_M_bits_12 : decode b_M_bits 12 = .ok (.bipush 13, 2) := by decide +kernel
theorem d_M_bits_14 : decode b_M_bits 14 = .ok (.iload_n 0, 1) := by decide +kernel
theorem d_M_bits_15 : decode b_M_bits 15 = .ok (.imul, 1) := by decide +kernel
theorem d_M_bits_16 : decode b_M_bits 16 = .ok (.bipush 29, 2) := by decide +kernel
theorem d_M_bits_18 : decode b_M_bits 18 = .ok (.iadd, 1) := by decide +kernel
theorem d_M_bits_19 : decode b_M_bits 19 = .ok (.bipush 64, 2) := by decide +kernel
theorem d_M_bits_21 : decode b_M_bits 21 = .ok (.irem, 1) := by decide +kernel
theorem d_M_bits_22 : decode b_M_bits 22 = .ok (.lshl, 1) := by decide +kernel
theorem d_M_bits_23 : decode b_M_bits 23 = .ok (.lor, 1) := by decide +kernel
theorem d_M_bits_24 : decode b_M_bits 24 = .ok (.lreturn, 1) := by decide +kernel
theorem d_M_blocksFor_0 : decode b_M_blocksFor 0 = .ok (.lconst 0, 1) := by decide +kernel
theorem d_M_blocksFor_1 : decode b_M_blocksFor 1 = .ok (.lstore 4, 2) := by decide +kernel
theorem d_M_blocksFor_3 : decode b_M_blocksFor 3 = .ok (.iconst 0, 1) := by decide +kernel
theorem d_M_blocksFor_4 : decode b_M_blocksFor 4 = .ok (.istore 6, 2) := by decide +kernel
theorem d_M_blocksFor_6 : decode b_M_blocksFor 6 = .ok (.iconst 0, 1) := by decide +kernel
theorem d_M_blocksFor_7 : decode b_M_blocksFor 7 = .ok (.istore 7, 2) := by decide +kernel
theorem d_M_blocksFor_9 : decode b_M_blocksFor 9 = .ok (.iconst 0, 1) := by decide +kernel
theorem d_M_blocksFor_10 : decode b_M_blocksFor 10 = .ok (.istore 8, 2) := by decide +kernel
theorem d_M_blocksFor_12 : decode b_M_blocksFor 12 = .ok (.iload 8, 2) := by decide +kernel
theorem d_M_blocksFor_14 : decode b_M_blocksFor 14 = .ok (.aload_n 0, 1) := by decide +kernel
theorem d_M_blocksFor_15 : decode b_M_blocksFor 15 = .ok (.getfield 79, 3) := by decide +kernel
theorem d_M_blocksFor_18 : decode b_M_blocksFor 18 = .ok (.if_icmp .ge 88, 3) := by decide +kernel
theorem d_M_blocksFor_21 : decode b_M_blocksFor 21 = .ok (.aload_n 0, 1) := by decide +kernel
theorem d_M_blocksFor_22 : decode b_M_blocksFor 22 = .ok (.getfield 28, 3) := by decide +kernel
theorem d_M_blocksFor_25 : decode b_M_blocksFor 25 = .ok (.iload 8, 2) := by decide +kernel
theorem d_M_blocksFor_27 : decode b_M_blocksFor 27 = .ok (.iaload, 1) := by decide +kernel
theorem d_M_blocksFor_28 : decode b_M_blocksFor 28 = .ok (.iload_n 1, 1) := by decide +kernel
theorem d_M_blocksFor_29 : decode b_M_blocksFor 29 = .ok (.if_icmp .ne 71, 3) := by decide +kernel
theorem d_M_blocksFor_32 : decode b_M_blocksFor 32 = .ok (.aload_n 0, 1) := by decide +kernel
theorem d_M_blocksFor_33 : decode b_M_blocksFor 33 = .ok (.getfield 31, 3) := by decide +kernel
theorem d_M_blocksFor_36 : decode b_M_blocksFor 36 = .ok (.iload 8, 2) := by decide +kernel
theorem d_M_blocksFor_38 : decode b_M_blocksFor 38 = .ok (.iaload, 1) := by decide +kernel
theorem d_M_blocksFor_39 : decode b_M_blocksFor 39 = .ok (.iload_n 2, 1) := by decide +kernel
theorem d_M_blocksFor_40 : decode b_M_blocksFor 40 = .ok (.if_icmp .ne 60, 3) := by decide +kernel
theorem d_M_blocksFor_43 : decode b_M_blocksFor 43 = .ok (.lload 4, 2) := by decide +kernel
theorem d_M_blocksFor_45 : decode b_M_blocksFor 45 = .ok (.aload_n 0, 1) := by decide +kernel
theorem d_M_blocksFor_46 : decode b_M_blocksFor 46 = .ok (.getfield 13, 3) := by decide +kernel
theorem d_M_blocksFor_49 : decode b_M_blocksFor 49 = .ok (.iload 8, 2) := by decide +kernel
theorem d_M_blocksFor_51 : decode b_M_blocksFor 51 = .ok (.iaload, 1) := by decide +kernel
theorem d_M_blocksFor_52 : decode b_M_blocksFor 52 = .ok (.invokestatic 161, 3) := by decide +kernel
theorem d_M_blocksFor_55 : decode b_M_blocksFor 55 = .ok (.lor, 1) := by decide +kernel
theorem d_M_blocksFor_56 : decode b_M_blocksFor 56 = .ok (.lstore 4, 2) := by decide +kernel
theorem d_M_blocksFor_58 : decode b_M_blocksFor 58 = .ok (.iload 6, 2) := by decide +kernel
theorem d_M_blocksFor_60 : decode b_M_blocksFor 60 = .ok (.aload_n 0, 1) := by decide +kernel
theorem d_M_blocksFor_61 : decode b_M_blocksFor 61 = .ok (.getfield 13, 3) := by decide +kernel
theorem d_M_blocksFor_64 : decode b_M_blocksFor 64 = .ok (.iload 8, 2) := by decide +kernel
theorem d_M_blocksFor_66 : decode b_M_blocksFor 66 = .ok (.iaload, 1) := by decide +kernel
theorem d_M_blocksFor_67 : decode b_M_blocksFor 67 = .ok (.iload_n 3, 1) := by decide +kernel
theorem d_M_blocksFor_68 : decode b_M_blocksFor 68 = .ok (.if_icmp .ge 7, 3) := by decide +kernel
theorem d_M_blocksFor_71 : decode b_M_blocksFor 71 = .ok (.iconst 1, 1) := by decide +kernel
theorem d_M_blocksFor_72 : decode b_M_blocksFor 72 = .ok (.goto 4, 3) := by decide +kernel
theorem d_M_blocksFor_75 : decode b_M_blocksFor 75 = .ok (.iconst 0, 1) := by decide +kernel
theorem d_M_blocksFor_76 : decode b_M_blocksFor 76 = .ok (.iadd, 1) := by decide +kernel
theorem d_M_blocksFor_77 : decode b_M_blocksFor 77 = .ok (.istore 6, 2) := by decide +kernel
theorem d_M_blocksFor_79 : decode b_M_blocksFor 79 = .ok (.iload 7, 2) := by decide +kernel
theorem d_M_blocksFor_81 : decode b_M_blocksFor 81 = .ok (.aload_n 0, 1) := by decide +kernel
theorem d_M_blocksFor_82 : decode b_M_blocksFor 82 = .ok (.getfield 13, 3) := by decide +kernel
theorem d_M_blocksFor_85 : decode b_M_blocksFor 85 = .ok (.iload 8, 2) := by decide +kernel
theorem d_M_blocksFor_87 : decode b_M_blocksFor 87 = .ok (.iaload, 1) := by decide +kernel
theorem d_M_blocksFor_88 : decode b_M_blocksFor 88 = .ok (.iload_n 3, 1) := by decide +kernel
theorem d_M_blocksFor_89 : decode b_M_blocksFor 89 = .ok (.if_icmp .ne 7, 3) := by decide +kernel
theorem d_M_blocksFor_92 : decode b_M_blocksFor 92 = .ok (.iconst 1, 1) := by decide +kernel
theorem d_M_blocksFor_93 : decode b_M_blocksFor 93 = .ok (.goto 4, 3) := by decide +kernel
theorem d_M_blocksFor_96 : decode b_M_blocksFor 96 = .ok (.iconst 0, 1) := by decide +kernel
theorem d_M_blocksFor_97 : decode b_M_blocksFor 97 = .ok (.iadd, 1) := by decide +kernel
theorem d_M_blocksFor_98 : decode b_M_blocksFor 98 = .ok (.istore 7, 2) := by decide +kernel
theorem d_M_blocksFor_100 : decode b_M_blocksFor 100 = .ok (.iinc 8 1, 3) := by decide +kernel
theorem d_M_blocksFor_103 : decode b_M_blocksFor 103 = .ok (.goto (-91), 3) := by decide +kernel
theorem d_M_blocksFor_106 : decode b_M_blocksFor 106 = .ok (.iload_n 3, 1) := by decide +kernel
theorem d_M_blocksFor_107 : decode b_M_blocksFor 107 = .ok (.invokestatic 161, 3) := by decide +kernel
theorem d_M_blocksFor_110 : decode b_M_blocksFor 110 = .ok (.lstore 8, 2) := by decide +kernel
theorem d_M_blocksFor_112 : decode b_M_blocksFor 112 = .ok (.lload 4, 2) := by decide +kernel
theorem d_M_blocksFor_114 : decode b_M_blocksFor 114 = .ok (.lload 8, 2) := by decide +kernel
theorem d_M_blocksFor_116 : decode b_M_blocksFor 116 = .ok (.land, 1) := by decide +kernel
theorem d_M_blocksFor_117 : decode b_M_blocksFor 117 = .ok (.lload 8, 2) := by decide +kernel
theorem d_M_blocksFor_119 : decode b_M_blocksFor 119 = .ok (.lcmp, 1) := by decide +kernel
theorem d_M_blocksFor_120 : decode b_M_blocksFor 120 = .ok (.ifCond .eq 5, 3) := by decide +kernel
theorem d_M_blocksFor_123 : decode b_M_blocksFor 123 = .ok (.iconst 0, 1) := by decide +kernel
theorem d_M_blocksFor_124 : decode b_M_blocksFor 124 = .ok (.ireturn, 1) := by decide +kernel
theorem d_M_blocksFor_125 : decode b_M_blocksFor 125 = .ok (.iload 7, 2) := by decide +kernel
theorem d_M_blocksFor_127 : decode b_M_blocksFor 127 = .ok (.ifCond .ne 7, 3) := by decide +kernel
theorem d_M_blocksFor_130 : decode b_M_blocksFor 130 = .ok (.iconst 1, 1) := by decide +kernel
theorem d_M_blocksFor_131 : decode b_M_blocksFor 131 = .ok (.goto 19, 3) := by decide +kernel
theorem d_M_blocksFor_134 : decode b_M_blocksFor 134 = .ok (.iload 6, 2) := by decide +kernel
theorem d_M_blocksFor_136 : decode b_M_blocksFor 136 = .ok (.iload 7, 2) := by decide +kernel
theorem d_M_blocksFor_138 : decode b_M_blocksFor 138 = .ok (.iadd, 1) := by decide +kernel
theorem d_M_blocksFor_139 : decode b_M_blocksFor 139 = .ok (.iconst 1, 1) := by decide +kernel
theorem d_M_blocksFor_140 : decode b_M_blocksFor 140 = .ok (.isub, 1) := by decide +kernel
theorem d_M_blocksFor_141 : decode b_M_blocksFor 141 = .ok (.iconst 4, 1) := by decide +kernel
theorem d_M_blocksFor_142 : decode b_M_blocksFor 142 = .ok (.idiv, 1) := by decide +kernel
theorem d_M_blocksFor_143 : decode b_M_blocksFor 143 = .ok (.iload 6, 2) := by decide +kernel
theorem d_M_blocksFor_145 : decode b_M_blocksFor 145 = .ok (.iconst 4, 1) := by decide +kernel
theorem d_M_blocksFor_146 : decode b_M_blocksFor 146 = .ok (.idiv, 1) := by decide +kernel
theorem d_M_blocksFor_147 : decode b_M_blocksFor 147 = .ok (.isub, 1) := by decide +kernel
theorem d_M_blocksFor_148 : decode b_M_blocksFor 148 = .ok (.iconst 1, 1) := by decide +kernel
theorem d_M_blocksFor_149 : decode b_M_blocksFor 149 = .ok (.iadd, 1) := by decide +kernel
theorem d_M_blocksFor_150 : decode b_M_blocksFor 150 = .ok (.ireturn, 1) := by decide +kernel
theorem d_M_look_0 : decode b_M_look 0 = .ok (.aload_n 0, 1) := by decide +kernel
theorem d_M_look_1 : decode b_M_look 1 = .ok (.iload_n 1, 1) := by decide +kernel
theorem d_M_look_2 : decode b_M_look 2 = .ok (.invokevirtual 92, 3) := by decide +kernel
theorem d_M_look_5 : decode b_M_look 5 = .ok (.istore_n 2, 1) := by decide +kernel
theorem d_M_look_6 : decode b_M_look 6 = .ok (.iconst 0, 1) := by decide +kernel
theorem d_M_look_7 : decode b_M_look 7 = .ok (.istore_n 3, 1) := by decide +kernel
theorem d_M_look_8 : decode b_M_look 8 = .ok (.iload_n 3, 1) := by decide +kernel
theorem d_M_look_9 : decode b_M_look 9 = .ok (.aload_n 0, 1) := by decide +kernel
theorem d_M_look_10 : decode b_M_look 10 = .ok (.getfield 41, 3) := by decide +kernel
theorem d_M_look_13 : decode b_M_look 13 = .ok (.iload_n 2, 1) := by decide +kernel
theorem d_M_look_14 : decode b_M_look 14 = .ok (.iaload, 1) := by decide +kernel
theorem d_M_look_15 : decode b_M_look 15 = .ok (.if_icmp .ge 25, 3) := by decide +kernel
theorem d_M_look_18 : decode b_M_look 18 = .ok (.aload_n 0, 1) := by decide +kernel
theorem d_M_look_19 : decode b_M_look 19 = .ok (.dup, 1) := by decide +kernel
theorem d_M_look_20 : decode b_M_look 20 = .ok (.getfield 165, 3) := by decide +kernel
theorem d_M_look_23 : decode b_M_look 23 = .ok (.aload_n 0, 1) := by decide +kernel
theorem d_M_look_24 : decode b_M_look 24 = .ok (.iload_n 2, 1) := by decide +kernel
theorem d_M_look_25 : decode b_M_look 25 = .ok (.iload_n 3, 1) := by decide +kernel
theorem d_M_look_26 : decode b_M_look 26 = .ok (.iload_n 1, 1) := by decide +kernel
theorem d_M_look_27 : decode b_M_look 27 = .ok (.invokevirtual 168, 3) := by decide +kernel
theorem d_M_look_30 : decode b_M_look 30 = .ok (.iadd, 1) := by decide +kernel
theorem d_M_look_31 : decode b_M_look 31 = .ok (.putfield 165, 3) := by decide +kernel
theorem d_M_look_34 : decode b_M_look 34 = .ok (.iinc 3 1, 3) := by decide +kernel
theorem d_M_look_37 : decode b_M_look 37 = .ok (.goto (-29), 3) := by decide +kernel
theorem d_M_look_40 : decode b_M_look 40 = .ok (.return_, 1) := by decide +kernel
theorem d_M_get_0 : decode b_M_get 0 = .ok (.iload_n 1, 1) := by decide +kernel
theorem d_M_get_1 : decode b_M_get 1 = .ok (.invokestatic 96, 3) := by decide +kernel
theorem d_M_get_4 : decode b_M_get 4 = .ok (.ifCond .eq 10, 3) := by decide +kernel
theorem d_M_get_7 : decode b_M_get 7 = .ok (.iload_n 2, 1) := by decide +kernel
theorem d_M_get_8 : decode b_M_get 8 = .ok (.invokestatic 105, 3) := by decide +kernel
theorem d_M_get_11 : decode b_M_get 11 = .ok (.ifCond .ne 7, 3) := by decide +kernel
theorem d_M_get_14 : decode b_M_get 14 = .ok (.ldc2_w 171, 3) := by decide +kernel
theorem d_M_get_17 : decode b_M_get 17 = .ok (.lreturn, 1) := by decide +kernel
theorem d_M_get_18 : decode b_M_get 18 = .ok (.aload_n 0, 1) := by decide +kernel
theorem d_M_get_19 : decode b_M_get 19 = .ok (.iload_n 1, 1) := by decide +kernel
theorem d_M_get_20 : decode b_M_get 20 = .ok (.invokevirtual 173, 3) := by decide +kernel
theorem d_M_get_23 : decode b_M_get 23 = .ok (.iload 4, 2) := by decide +kernel
theorem d_M_get_25 : decode b_M_get 25 = .ok (.ifCond .ge 7, 3) := by decide +kernel
theorem d_M_get_28 : decode b_M_get 28 = .ok (.ldc2_w 171, 3) := by decide +kernel
theorem d_M_get_31 : decode b_M_get 31 = .ok (.lreturn, 1) := by decide +kernel
theorem d_M_get_32 : decode b_M_get 32 = .ok (.iload_n 3, 1) := by decide +kernel
theorem d_M_get_33 : decode b_M_get 33 = .ok (.sipush 9999, 3) := by decide +kernel
theorem d_M_get_36 : decode b_M_get 36 = .ok (.if_icmp .le 9, 3) := by decide +kernel
theorem d_M_get_39 : decode b_M_get 39 = .ok (.sipush 10000, 3) := by decide +kernel
theorem d_M_get_42 : decode b_M_get 42 = .ok (.goto 14, 3) := by decide +kernel
theorem d_M_get_45 : decode b_M_get 45 = .ok (.iload_n 3, 1) := by decide +kernel
theorem d_M_get_46 : decode b_M_get 46 = .ok (.ifCond .ge 7, 3) := by decide +kernel
theorem d_M_get_49 : decode b_M_get 49 = .ok (.iconst 0, 1) := by decide +kernel
theorem d_M_get_50 : decode b_M_get 50 = .ok (.goto 6, 3) := by decide +kernel
theorem d_M_get_53 : decode b_M_get 53 = .ok (.iload_n 3, 1) := by decide +kernel
theorem d_M_get_54 : decode b_M_get 54 = .ok (.iconst 1, 1) := by decide +kernel
theorem d_M_get_55 : decode b_M_get 55 = .ok (.iadd, 1) := by decide +kernel
theorem d_M_get_56 : decode b_M_get 56 = .ok (.istore 5, 2) := by decide +kernel
theorem d_M_get_58 : decode b_M_get 58 = .ok (.aload_n 0, 1) := by decide +kernel
theorem d_M_get_59 : decode b_M_get 59 = .ok (.iload_n 1, 1) := by decide +kernel
theorem d_M_get_60 : decode b_M_get 60 = .ok (.iload_n 2, 1) := by decide +kernel
theorem d_M_get_61 : decode b_M_get 61 = .ok (.iload 5, 2) := by decide +kernel
theorem d_M_get_63 : decode b_M_get 63 = .ok (.invokevirtual 134, 3) := by decide +kernel
theorem d_M_get_66 : decode b_M_get 66 = .ok (.istore 6, 2) := by decide +kernel
theorem d_M_get_68 : decode b_M_get 68 = .ok (.iconst 0, 1) := by decide +kernel
theorem d_M_get_69 : decode b_M_get 69 = .ok (.istore 7, 2) := by decide +kernel
theorem d_M_get_71 : decode b_M_get 71 = .ok (.iload 7, 2) := by decide +kernel
theorem d_M_get_73 : decode b_M_get 73 = .ok (.iload 4, 2) := by decide +kernel
theorem d_M_get_75 : decode b_M_get 75 = .ok (.if_icmp .ge 29, 3) := by decide +kernel
theorem d_M_get_78 : decode b_M_get 78 = .ok (.iload 6, 2) := by decide +kernel
theorem d_M_get_80 : decode b_M_get 80 = .ok (.ifCond .lt 24, 3) := by decide +kernel
theorem d_M_get_83 : decode b_M_get 83 = .ok (.aload_n 0, 1) := by decide +kernel
theorem d_M_get_84 : decode b_M_get 84 = .ok (.iload_n 1, 1) := by decide +kernel
theorem d_M_get_85 : decode b_M_get 85 = .ok (.iload_n 2, 1) := by decide +kernel
theorem d_M_get_86 : decode b_M_get 86 = .ok (.aload_n 0, 1) := by decide +kernel
theorem d_M_get_87 : decode b_M_get 87 = .ok (.getfield 19, 3) := by decide +kernel
theorem d_M_get_90 : decode b_M_get 90 = .ok (.iload 6, 2) := by decide +kernel
theorem d_M_get_92 : decode b_M_get 92 = .ok (.iaload, 1) := by decide +kernel
theorem d_M_get_93 : decode b_M_get 93 = .ok (.invokevirtual 134, 3) := by decide +kernel
theorem d_M_get_96 : decode b_M_get 96 = .ok (.istore 6, 2) := by decide +kernel
theorem d_M_get_98 : decode b_M_get 98 = .ok (.iinc 7 1, 3) := by decide +kernel
theorem d_M_get_101 : decode b_M_get 101 = .ok (.goto (-30), 3) := by decide +kernel
theorem d_M_get_104 : decode b_M_get 104 = .ok (.iload 6, 2) := by decide +kernel
theorem d_M_get_106 : decode b_M_get 106 = .ok (.ifCond .ge 9, 3) := by decide +kernel
theorem d_M_get_109 : decode b_M_get 109 = .ok (.ldc2_w 171, 3) := by decide +kernel
theorem d_M_get_112 : decode b_M_get 112 = .ok (.goto 28, 3) := by decide +kernel
theorem d_M_get_115 : decode b_M_get 115 = .ok (.ldc2_w 177, 3) := by decide +kernel
theorem d_M_get_118 : decode b_M_get 118 = .ok (.aload_n 0, 1) := by decide +kernel
theorem d_M_get_119 : decode b_M_get 119 = .ok (.getfield 19, 3) := by decide +kernel
theorem d_M_get_122 : decode b_M_get 122 = .ok (.iload 6, 2) := by decide +kernel
theorem d_M_get_124 : decode b_M_get 124 = .ok (.iaload, 1) := by decide +kernel
theorem d_M_get_125 : decode b_M_get 125 = .ok (.i2l, 1) := by decide +kernel
theorem d_M_get_126 : decode b_M_get 126 = .ok (.lmul, 1) := by decide +kernel
theorem d_M_get_127 : decode b_M_get 127 = .ok (.aload_n 0, 1) := by decide +kernel
theorem d_M_get_128 : decode b_M_get 128 = .ok (.getfield 22, 3) := by decide +kernel
theorem d_M_get_131 : decode b_M_get 131 = .ok (.iload 6, 2) := by decide +kernel
theorem d_M_get_133 : decode b_M_get 133 = .ok (.iaload, 1) := by decide +kernel
theorem d_M_get_134 : decode b_M_get 134 = .ok (.i2l, 1) := by decide +kernel
theorem d_M_get_135 : decode b_M_get 135 = .ok (.ldc2_w 179, 3) := by decide +kernel
theorem d_M_get_138 : decode b_M_get 138 = .ok (.land, 1) := by decide +kernel
theorem d_M_get_139 : decode b_M_get 139 = .ok (.ladd, 1) := by decide +kernel
theorem d_M_get_140 : decode b_M_get 140 = .ok (.lreturn, 1) := by decide +kernel
theorem d_M_gather_0 : decode b_M_gather 0 = .ok (.aload_n 0, 1) := by decide +kernel
theorem d_M_gather_1 : decode b_M_gather 1 = .ok (.iload_n 1, 1) := by decide +kernel
theorem d_M_gather_2 : decode b_M_gather 2 = .ok (.iload_n 2, 1) := by decide +kernel
theorem d_M_gather_3 : decode b_M_gather 3 = .ok (.iload 4, 2) := by decide +kernel
theorem d_M_gather_5 : decode b_M_gather 5 = .ok (.sipush 9999, 3) := by decide +kernel
theorem d_M_gather_8 : decode b_M_gather 8 = .ok (.if_icmp .le 9, 3) := by decide +kernel
theorem d_M_gather_11 : decode b_M_gather 11 = .ok (.sipush 10000, 3) := by decide +kernel
theorem d_M_gather_14 : decode b_M_gather 14 = .ok (.goto 16, 3) := by decide +kernel
theorem d_M_gather_17 : decode b_M_gather 17 = .ok (.iload 4, 2) := by decide +kernel
theorem d_M_gather_19 : decode b_M_gather 19 = .ok (.ifCond .ge 7, 3) := by decide +kernel
theorem d_M_gather_22 : decode b_M_gather 22 = .ok (.iconst 0, 1) := by decide +kernel
theorem d_M_gather_23 : decode b_M_gather 23 = .ok (.goto 7, 3) := by decide +kernel
theorem d_M_gather_26 : decode b_M_gather 26 = .ok (.iload 4, 2) := by decide +kernel
theorem d_M_gather_28 : decode b_M_gather 28 = .ok (.iconst 1, 1) := by decide +kernel
theorem d_M_gather_29 : decode b_M_gather 29 = .ok (.iadd, 1) := by decide +kernel
theorem d_M_gather_30 : decode b_M_gather 30 = .ok (.invokevirtual 134, 3) := by decide +kernel
theorem d_M_gather_33 : decode b_M_gather 33 = .ok (.istore 5, 2) := by decide +kernel
theorem d_M_gather_35 : decode b_M_gather 35 = .ok (.iload 5, 2) := by decide +kernel
theorem d_M_gather_37 : decode b_M_gather 37 = .ok (.ifCond .lt 85, 3) := by decide +kernel
theorem d_M_gather_40 : decode b_M_gather 40 = .ok (.aload_n 0, 1) := by decide +kernel
theorem d_M_gather_41 : decode b_M_gather 41 = .ok (.getfield 19, 3) := by decide +kernel
theorem d_M_gather_44 : decode b_M_gather 44 = .ok (.iload 5, 2) := by decide +kernel
theorem d_M_gather_46 : decode b_M_gather 46 = .ok (.iaload, 1) := by decide +kernel
theorem d_M_gather_47 : decode b_M_gather 47 = .ok (.iload_n 3, 1) := by decide +kernel
theorem d_M_gather_48 : decode b_M_gather 48 = .ok (.if_icmp .lt 74, 3) := by decide +kernel
theorem d_M_gather_51 : decode b_M_gather 51 = .ok (.aload_n 0, 1) := by decide +kernel
theorem d_M_gather_52 : decode b_M_gather 52 = .ok (.getfield 62, 3) := by decide +kernel
theorem d_M_gather_55 : decode b_M_gather 55 = .ok (.aload_n 0, 1) := by decide +kernel
theorem d_M_gather_56 : decode b_M_gather 56 = .ok (.getfield 181, 3) := by decide +kernel
theorem d_M_gather_59 : decode b_M_gather 59 = .ok (.ldc 184, 2) := by decide +kernel
theorem d_M_gather_61 : decode b_M_gather 61 = .ok (.iload_n 1, 1) := by decide +kernel
theorem d_M_gather_62 : decode b_M_gather 62 = .ok (.imul, 1) := by decide +kernel
theorem d_M_gather_63 : decode b_M_gather 63 = .ok (.sipush 10000, 3) := by decide +kernel
theorem d_M_gather_66 : decode b_M_gather 66 = .ok (.iload_n 2, 1) := by decide +kernel
theorem d_M_gather_67 : decode b_M_gather 67 = .ok (.imul, 1) := by decide +kernel
theorem d_M_gather_68 : decode b_M_gather 68 = .ok (.iadd, 1) := by decide +kernel
theorem d_M_gather_69 : decode b_M_gather 69 = .ok (.aload_n 0, 1) := by decide +kernel
theorem d_M_gather_70 : decode b_M_gather 70 = .ok (.getfield 19, 3) := by decide +kernel
theorem d_M_gather_73 : decode b_M_gather 73 = .ok (.iload 5, 2) := by decide +kernel
theorem d_M_gather_75 : decode b_M_gather 75 = .ok (.iaload, 1) := by decide +kernel
theorem d_M_gather_76 : decode b_M_gather 76 = .ok (.iadd, 1) := by decide +kernel
theorem d_M_gather_77 : decode b_M_gather 77 = .ok (.iastore, 1) := by decide +kernel
theorem d_M_gather_78 : decode b_M_gather 78 = .ok (.aload_n 0, 1) := by decide +kernel
theorem d_M_gather_79 : decode b_M_gather 79 = .ok (.getfield 65, 3) := by decide +kernel
theorem d_M_gather_82 : decode b_M_gather 82 = .ok (.aload_n 0, 1) := by decide +kernel
theorem d_M_gather_83 : decode b_M_gather 83 = .ok (.getfield 181, 3) := by decide +kernel
theorem d_M_gather_86 : decode b_M_gather 86 = .ok (.aload_n 0, 1) := by decide +kernel
theorem d_M_gather_87 : decode b_M_gather 87 = .ok (.getfield 22, 3) := by decide +kernel
theorem d_M_gather_90 : decode b_M_gather 90 = .ok (.iload 5, 2) := by decide +kernel
theorem d_M_gather_92 : decode b_M_gather 92 = .ok (.iaload, 1) := by decide +kernel
theorem d_M_gather_93 : decode b_M_gather 93 = .ok (.iastore, 1) := by decide +kernel
theorem d_M_gather_94 : decode b_M_gather 94 = .ok (.aload_n 0, 1) := by decide +kernel
theorem d_M_gather_95 : decode b_M_gather 95 = .ok (.dup, 1) := by decide +kernel
theorem d_M_gather_96 : decode b_M_gather 96 = .ok (.getfield 181, 3) := by decide +kernel
theorem d_M_gather_99 : decode b_M_gather 99 = .ok (.iconst 1, 1) := by decide +kernel
theorem d_M_gather_100 : decode b_M_gather 100 = .ok (.iadd, 1) := by decide +kernel
theorem d_M_gather_101 : decode b_M_gather 101 = .ok (.putfield 181, 3) := by decide +kernel
theorem d_M_gather_104 : decode b_M_gather 104 = .ok (.aload_n 0, 1) := by decide +kernel
theorem d_M_gather_105 : decode b_M_gather 105 = .ok (.iload_n 1, 1) := by decide +kernel
theorem d_M_gather_106 : decode b_M_gather 106 = .ok (.iload_n 2, 1) := by decide +kernel
theorem d_M_gather_107 : decode b_M_gather 107 = .ok (.aload_n 0, 1) := by decide +kernel
theorem d_M_gather_108 : decode b_M_gather 108 = .ok (.getfield 19, 3) := by decide +kernel
theorem d_M_gather_111 : decode b_M_gather 111 = .ok (.iload 5, 2) := by decide +kernel
theorem d_M_gather_113 : decode b_M_gather 113 = .ok (.iaload, 1) := by decide +kernel
theorem d_M_gather_114 : decode b_M_gather 114 = .ok (.invokevirtual 134, 3) := by decide +kernel
theorem d_M_gather_117 : decode b_M_gather 117 = .ok (.istore 5, 2) := by decide +kernel
theorem d_M_gather_119 : decode b_M_gather 119 = .ok (.goto (-84), 3) := by decide +kernel
theorem d_M_gather_122 : decode b_M_gather 122 = .ok (.return_, 1) := by decide +kernel
theorem d_M_scan_0 : decode b_M_scan 0 = .ok (.iload_n 3, 1) := by decide +kernel
theorem d_M_scan_1 : decode b_M_scan 1 = .ok (.iconst (-1), 1) := by decide +kernel
theorem d_M_scan_2 : decode b_M_scan 2 = .ok (.if_icmp .lt 9, 3) := by decide +kernel
theorem d_M_scan_5 : decode b_M_scan 5 = .ok (.iload_n 3, 1) := by decide +kernel
theorem d_M_scan_6 : decode b_M_scan 6 = .ok (.bipush 7, 2) := by decide +kernel
theorem d_M_scan_8 : decode b_M_scan 8 = .ok (.if_icmp .le 5, 3) := by decide +kernel
theorem d_M_scan_11 : decode b_M_scan 11 = .ok (.iconst (-1), 1) := by decide +kernel
theorem d_M_scan_12 : decode b_M_scan 12 = .ok (.ireturn, 1) := by decide +kernel
theorem d_M_scan_13 : decode b_M_scan 13 = .ok (.aload_n 0, 1) := by decide +kernel
theorem d_M_scan_14 : decode b_M_scan 14 = .ok (.iconst 0, 1) := by decide +kernel
theorem d_M_scan_15 : decode b_M_scan 15 = .ok (.putfield 181, 3) := by decide +kernel
theorem d_M_scan_18 : decode b_M_scan 18 = .ok (.iconst 0, 1) := by decide +kernel
theorem d_M_scan_19 : decode b_M_scan 19 = .ok (.istore 6, 2) := by decide +kernel
theorem d_M_scan_21 : decode b_M_scan 21 = .ok (.iload 6, 2) := by decide +kernel
theorem d_M_scan_23 : decode b_M_scan 23 = .ok (.bipush 64, 2) := by decide +kernel
theorem d_M_scan_25 : decode b_M_scan 25 = .ok (.if_icmp .ge 66, 3) := by decide +kernel
theorem d_M_scan_28 : decode b_M_scan 28 = .ok (.iload 6, 2) := by decide +kernel
theorem d_M_scan_30 : decode b_M_scan 30 = .ok (.iload_n 1, 1) := by decide +kernel
theorem d_M_scan_31 : decode b_M_scan 31 = .ok (.if_icmp .lt 54, 3) := by decide +kernel
theorem d_M_scan_34 : decode b_M_scan 34 = .ok (.iload 6, 2) := by decide +kernel
theorem d_M_scan_36 : decode b_M_scan 36 = .ok (.iload_n 2, 1) := by decide +kernel
theorem d_M_scan_37 : decode b_M_scan 37 = .ok (.if_icmp .gt 48, 3) := by decide +kernel
theorem d_M_scan_40 : decode b_M_scan 40 = .ok (.aload_n 0, 1) := by decide +kernel
theorem d_M_scan_41 : decode b_M_scan 41 = .ok (.iload 6, 2) := by decide +kernel
theorem d_M_scan_43 : decode b_M_scan 43 = .ok (.invokevirtual 173, 3) := by decide +kernel
theorem d_M_scan_46 : decode b_M_scan 46 = .ok (.iconst 0, 1) := by decide +kernel
theorem d_M_scan_47 : decode b_M_scan 47 = .ok (.istore 7, 2) := by decide +kernel
theorem d_M_scan_49 : decode b_M_scan 49 = .ok (.iload 7, 2) := by decide +kernel
theorem d_M_scan_51 : decode b_M_scan 51 = .ok (.bipush 8, 2) := by decide +kernel
theorem d_M_scan_53 : decode b_M_scan 53 = .ok (.if_icmp .ge 32, 3) := by decide +kernel
theorem d_M_scan_56 : decode b_M_scan 56 = .ok (.iload_n 3, 1) := by decide +kernel
theorem d_M_scan_57 : decode b_M_scan 57 = .ok (.iconst (-1), 1) := by decide +kernel
theorem d_M_scan_58 : decode b_M_scan 58 = .ok (.if_icmp .eq 9, 3) := by decide +kernel
theorem d_M_scan_61 : decode b_M_scan 61 = .ok (.iload_n 3, 1) := by decide +kernel
theorem d_M_scan_62 : decode b_M_scan 62 = .ok (.iload 7, 2) := by decide +kernel
theorem d_M_scan_64 : decode b_M_scan 64 = .ok (.if_icmp .ne 15, 3) := by decide +kernel
theorem d_M_scan_67 : decode b_M_scan 67 = .ok (.aload_n 0, 1) := by decide +kernel
theorem d_M_scan_68 : decode b_M_scan 68 = .ok (.iload 6, 2) := by decide +kernel
theorem d_M_scan_70 : decode b_M_scan 70 = .ok (.iload 7, 2) := by decide +kernel
theorem d_M_scan_72 : decode b_M_scan 72 = .ok (.iload 4, 2) := by decide +kernel
theorem d_M_scan_74 : decode b_M_scan 74 = .ok (.iload 5, 2) := by decide +kernel
theorem d_M_scan_76 : decode b_M_scan 76 = .ok (.invokevirtual 185, 3) := by decide +kernel
theorem d_M_scan_79 : decode b_M_scan 79 = .ok (.iinc 7 1, 3) := by decide +kernel
theorem d_M_scan_82 : decode b_M_scan 82 = .ok (.goto (-33), 3) := by decide +kernel
theorem d_M_scan_85 : decode b_M_scan 85 = .ok (.iinc 6 1, 3) := by decide +kernel
theorem d_M_scan_88 : decode b_M_scan 88 = .ok (.goto (-67), 3) := by decide +kernel
theorem d_M_scan_91 : decode b_M_scan 91 = .ok (.aload_n 0, 1) := by decide +kernel
theorem d_M_scan_92 : decode b_M_scan 92 = .ok (.getfield 181, 3) := by decide +kernel
theorem d_M_scan_95 : decode b_M_scan 95 = .ok (.ireturn, 1) := by decide +kernel
theorem d_M_found_0 : decode b_M_found 0 = .ok (.iload_n 1, 1) := by decide +kernel
theorem d_M_found_1 : decode b_M_found 1 = .ok (.ifCond .lt 11, 3) := by decide +kernel
theorem d_M_found_4 : decode b_M_found 4 = .ok (.iload_n 1, 1) := by decide +kernel
theorem d_M_found_5 : decode b_M_found 5 = .ok (.aload_n 0, 1) := by decide +kernel
theorem d_M_found_6 : decode b_M_found 6 = .ok (.getfield 181, 3) := by decide +kernel
theorem d_M_found_9 : decode b_M_found 9 = .ok (.if_icmp .lt 9, 3) := by decide +kernel
theorem d_M_found_12 : decode b_M_found 12 = .ok (.ldc2_w 171, 3) := by decide +kernel
theorem d_M_found_15 : decode b_M_found 15 = .ok (.goto 26, 3) := by decide +kernel
theorem d_M_found_18 : decode b_M_found 18 = .ok (.ldc2_w 177, 3) := by decide +kernel
theorem d_M_found_21 : decode b_M_found 21 = .ok (.aload_n 0, 1) := by decide +kernel
theorem d_M_found_22 : decode b_M_found 22 = .ok (.getfield 62, 3) := by decide +kernel
theorem d_M_found_25 : decode b_M_found 25 = .ok (.iload_n 1, 1) := by decide +kernel
theorem d_M_found_26 : decode b_M_found 26 = .ok (.iaload, 1) := by decide +kernel
theorem d_M_found_27 : decode b_M_found 27 = .ok (.i2l, 1) := by decide +kernel
theorem d_M_found_28 : decode b_M_found 28 = .ok (.lmul, 1) := by decide +kernel
theorem d_M_found_29 : decode b_M_found 29 = .ok (.aload_n 0, 1) := by decide +kernel
theorem d_M_found_30 : decode b_M_found 30 = .ok (.getfield 65, 3) := by decide +kernel
theorem d_M_found_33 : decode b_M_found 33 = .ok (.iload_n 1, 1) := by decide +kernel
theorem d_M_found_34 : decode b_M_found 34 = .ok (.iaload, 1) := by decide +kernel
theorem d_M_found_35 : decode b_M_found 35 = .ok (.i2l, 1) := by decide +kernel
theorem d_M_found_36 : decode b_M_found 36 = .ok (.ldc2_w 179, 3) := by decide +kernel
theorem d_M_found_39 : decode b_M_found 39 = .ok (.land, 1) := by decide +kernel
theorem d_M_found_40 : decode b_M_found 40 = .ok (.ladd, 1) := by decide +kernel
theorem d_M_found_41 : decode b_M_found 41 = .ok (.lreturn, 1) := by decide +kernel
theorem d_M_flushed_0 : decode b_M_flushed 0 = .ok (.iconst 0, 1) := by decide +kernel
theorem d_M_flushed_1 : decode b_M_flushed 1 = .ok (.istore_n 2, 1) := by decide +kernel
theorem d_M_flushed_2 : decode b_M_flushed 2 = .ok (.iconst 0, 1) := by decide +kernel
theorem d_M_flushed_3 : decode b_M_flushed 3 = .ok (.istore_n 3, 1) := by decide +kernel
theorem d_M_flushed_4 : decode b_M_flushed 4 = .ok (.iload_n 3, 1) := by decide +kernel
theorem d_M_flushed_5 : decode b_M_flushed 5 = .ok (.aload_n 0, 1) := by decide +kernel
theorem d_M_flushed_6 : decode b_M_flushed 6 = .ok (.getfield 79, 3) := by decide +kernel
theorem d_M_flushed_9 : decode b_M_flushed 9 = .ok (.if_icmp .ge 44, 3) := by decide +kernel
theorem d_M_flushed_12 : decode b_M_flushed 12 = .ok (.aload_n 0, 1) := by decide +kernel
theorem d_M_flushed_13 : decode b_M_flushed 13 = .ok (.getfield 28, 3) := by decide +kernel
theorem d_M_flushed_16 : decode b_M_flushed 16 = .ok (.iload_n 3, 1) := by decide +kernel
theorem d_M_flushed_17 : decode b_M_flushed 17 = .ok (.iaload, 1) := by decide +kernel
theorem d_M_flushed_18 : decode b_M_flushed 18 = .ok (.iload_n 1, 1) := by decide +kernel
theorem d_M_flushed_19 : decode b_M_flushed 19 = .ok (.if_icmp .ne 28, 3) := by decide +kernel
theorem d_M_flushed_22 : decode b_M_flushed 22 = .ok (.aload_n 0, 1) := by decide +kernel
theorem d_M_flushed_23 : decode b_M_flushed 23 = .ok (.getfield 31, 3) := by decide +kernel
theorem d_M_flushed_26 : decode b_M_flushed 26 = .ok (.iload_n 3, 1) := by decide +kernel
theorem d_M_flushed_27 : decode b_M_flushed 27 = .ok (.iaload, 1) := by decide +kernel
theorem d_M_flushed_28 : decode b_M_flushed 28 = .ok (.iconst (-1), 1) := by decide +kernel
theorem d_M_flushed_29 : decode b_M_flushed 29 = .ok (.if_icmp .ne 18, 3) := by decide +kernel
theorem d_M_flushed_32 : decode b_M_flushed 32 = .ok (.aload_n 0, 1) := by decide +kernel
theorem d_M_flushed_33 : decode b_M_flushed 33 = .ok (.getfield 31, 3) := by decide +kernel
theorem d_M_flushed_36 : decode b_M_flushed 36 = .ok (.iload_n 3, 1) := by decide +kernel
theorem d_M_flushed_37 : decode b_M_flushed 37 = .ok (.aload_n 0, 1) := by decide +kernel
theorem d_M_flushed_38 : decode b_M_flushed 38 = .ok (.getfield 41, 3) := by decide +kernel
theorem d_M_flushed_41 : decode b_M_flushed 41 = .ok (.iload_n 1, 1) := by decide +kernel
theorem d_M_flushed_42 : decode b_M_flushed 42 = .ok (.iaload, 1) := by decide +kernel
theorem d_M_flushed_43 : decode b_M_flushed 43 = .ok (.iastore, 1) := by decide +kernel
theorem d_M_flushed_44 : decode b_M_flushed 44 = .ok (.iinc 2 1, 3) := by decide +kernel
theorem d_M_flushed_47 : decode b_M_flushed 47 = .ok (.iinc 3 1, 3) := by decide +kernel
theorem d_M_flushed_50 : decode b_M_flushed 50 = .ok (.goto (-46), 3) := by decide +kernel
theorem d_M_flushed_53 : decode b_M_flushed 53 = .ok (.aload_n 0, 1) := by decide +kernel
theorem d_M_flushed_54 : decode b_M_flushed 54 = .ok (.getfield 41, 3) := by decide +kernel
theorem d_M_flushed_57 : decode b_M_flushed 57 = .ok (.iload_n 1, 1) := by decide +kernel
theorem d_M_flushed_58 : decode b_M_flushed 58 = .ok (.dup2, 1) := by decide +kernel
theorem d_M_flushed_59 : decode b_M_flushed 59 = .ok (.iaload, 1) := by decide +kernel
theorem d_M_flushed_60 : decode b_M_flushed 60 = .ok (.iload_n 2, 1) := by decide +kernel
theorem d_M_flushed_61 : decode b_M_flushed 61 = .ok (.ifCond .le 7, 3) := by decide +kernel
theorem d_M_flushed_64 : decode b_M_flushed 64 = .ok (.iconst 1, 1) := by decide +kernel
theorem d_M_flushed_65 : decode b_M_flushed 65 = .ok (.goto 4, 3) := by decide +kernel
theorem d_M_flushed_68 : decode b_M_flushed 68 = .ok (.iconst 0, 1) := by decide +kernel
theorem d_M_flushed_69 : decode b_M_flushed 69 = .ok (.iadd, 1) := by decide +kernel
theorem d_M_flushed_70 : decode b_M_flushed 70 = .ok (.iastore, 1) := by decide +kernel
theorem d_M_flushed_71 : decode b_M_flushed 71 = .ok (.iload_n 2, 1) := by decide +kernel
theorem d_M_flushed_72 : decode b_M_flushed 72 = .ok (.ireturn, 1) := by decide +kernel
theorem d_M_flush_0 : decode b_M_flush 0 = .ok (.aload_n 0, 1) := by decide +kernel
theorem d_M_flush_1 : decode b_M_flush 1 = .ok (.iload_n 1, 1) := by decide +kernel
theorem d_M_flush_2 : decode b_M_flush 2 = .ok (.invokevirtual 189, 3) := by decide +kernel
theorem d_M_flush_5 : decode b_M_flush 5 = .ok (.ifCond .eq 11, 3) := by decide +kernel
theorem d_M_flush_8 : decode b_M_flush 8 = .ok (.aload_n 0, 1) := by decide +kernel
theorem d_M_flush_9 : decode b_M_flush 9 = .ok (.iload_n 1, 1) := by decide +kernel
theorem d_M_flush_10 : decode b_M_flush 10 = .ok (.invokevirtual 158, 3) := by decide +kernel
theorem d_M_flush_13 : decode b_M_flush 13 = .ok (.goto 4, 3) := by decide +kernel
theorem d_M_flush_16 : decode b_M_flush 16 = .ok (.iconst (-1), 1) := by decide +kernel
theorem d_M_flush_17 : decode b_M_flush 17 = .ok (.ireturn, 1) := by decide +kernel
theorem d_M_isIn_0 : decode b_M_isIn 0 = .ok (.aload_n 0, 1) := by decide +kernel
theorem d_M_isIn_1 : decode b_M_isIn 1 = .ok (.getfield 28, 3) := by decide +kernel
theorem d_M_isIn_4 : decode b_M_isIn 4 = .ok (.iload_n 1, 1) := by decide +kernel
theorem d_M_isIn_5 : decode b_M_isIn 5 = .ok (.iaload, 1) := by decide +kernel
theorem d_M_isIn_6 : decode b_M_isIn 6 = .ok (.iload_n 2, 1) := by decide +kernel
theorem d_M_isIn_7 : decode b_M_isIn 7 = .ok (.if_icmp .ne 17, 3) := by decide +kernel
theorem d_M_isIn_10 : decode b_M_isIn 10 = .ok (.aload_n 0, 1) := by decide +kernel
theorem d_M_isIn_11 : decode b_M_isIn 11 = .ok (.getfield 31, 3) := by decide +kernel
theorem d_M_isIn_14 : decode b_M_isIn 14 = .ok (.iload_n 1, 1) := by decide +kernel
theorem d_M_isIn_15 : decode b_M_isIn 15 = .ok (.iaload, 1) := by decide +kernel
theorem d_M_isIn_16 : decode b_M_isIn 16 = .ok (.iload_n 3, 1) := by decide +kernel
theorem d_M_isIn_17 : decode b_M_isIn 17 = .ok (.if_icmp .lt 7, 3) := by decide +kernel
theorem d_M_isIn_20 : decode b_M_isIn 20 = .ok (.iconst 1, 1) := by decide +kernel
theorem d_M_isIn_21 : decode b_M_isIn 21 = .ok (.goto 4, 3) := by decide +kernel
theorem d_M_isIn_24 : decode b_M_isIn 24 = .ok (.iconst 0, 1) := by decide +kernel
theorem d_M_isIn_25 : decode b_M_isIn 25 = .ok (.ireturn, 1) := by decide +kernel
theorem d_M_merge_0 : decode b_M_merge 0 = .ok (.iconst 0, 1) := by decide +kernel
theorem d_M_merge_1 : decode b_M_merge 1 = .ok (.istore 4, 2) := by decide +kernel
theorem d_M_merge_3 : decode b_M_merge 3 = .ok (.iload 4, 2) := by decide +kernel
theorem d_M_merge_5 : decode b_M_merge 5 = .ok (.aload_n 0, 1) := by decide +kernel
theorem d_M_merge_6 : decode b_M_merge 6 = .ok (.getfield 79, 3) := by decide +kernel
theorem d_M_merge_9 : decode b_M_merge 9 = .ok (.if_icmp .ge 142, 3) := by decide +kernel
theorem d_M_merge_12 : decode b_M_merge 12 = .ok (.iload_n 3, 1) := by decide +kernel
theorem d_M_merge_13 : decode b_M_merge 13 = .ok (.ifCond .eq 12, 3) := by decide +kernel
theorem d_M_merge_16 : decode b_M_merge 16 = .ok (.aload_n 0, 1) := by decide +kernel
theorem d_M_merge_17 : decode b_M_merge 17 = .ok (.iload 4, 2) := by decide +kernel
theorem d_M_merge_19 : decode b_M_merge 19 = .ok (.invokevirtual 86, 3) := by decide +kernel
theorem d_M_merge_22 : decode b_M_merge 22 = .ok (.goto 27, 3) := by decide +kernel
theorem d_M_merge_25 : decode b_M_merge 25 = .ok (.aload_n 0, 1) := by decide +kernel
theorem d_M_merge_26 : decode b_M_merge 26 = .ok (.getfield 7, 3) := by decide +kernel
theorem d_M_merge_29 : decode b_M_merge 29 = .ok (.iload 4, 2) := by decide +kernel
theorem d_M_merge_31 : decode b_M_merge 31 = .ok (.iaload, 1) := by decide +kernel
theorem d_M_merge_32 : decode b_M_merge 32 = .ok (.ifCond .ne 12, 3) := by decide +kernel
theorem d_M_merge_35 : decode b_M_merge 35 = .ok (.aload_n 0, 1) := by decide +kernel
theorem d_M_merge_36 : decode b_M_merge 36 = .ok (.iload 4, 2) := by decide +kernel
theorem d_M_merge_38 : decode b_M_merge 38 = .ok (.invokevirtual 75, 3) := by decide +kernel
theorem d_M_merge_41 : decode b_M_merge 41 = .ok (.ifCond .ne 7, 3) := by decide +kernel
theorem d_M_merge_44 : decode b_M_merge 44 = .ok (.iconst 1, 1) := by decide +kernel
theorem d_M_merge_45 : decode b_M_merge 45 = .ok (.goto 4, 3) := by decide +kernel
theorem d_M_merge_48 : decode b_M_merge 48 = .ok (.iconst 0, 1) := by decide +kernel
theorem d_M_merge_49 : decode b_M_merge 49 = .ok (.istore 5, 2) := by decide +kernel
theorem d_M_merge_51 : decode b_M_merge 51 = .ok (.iload 4, 2) := by decide +kernel
theorem d_M_merge_53 : decode b_M_merge 53 = .ok (.iconst 1, 1) := by decide +kernel
theorem d_M_merge_54 : decode b_M_merge 54 = .ok (.iadd, 1) := by decide +kernel
theorem d_M_merge_55 : decode b_M_merge 55 = .ok (.istore 6, 2) := by decide +kernel
theorem d_M_merge_57 : decode b_M_merge 57 = .ok (.iload 6, 2) := by decide +kernel
theorem d_M_merge_59 : decode b_M_merge 59 = .ok (.aload_n 0, 1) := by decide +kernel
theorem d_M_merge_60 : decode b_M_merge 60 = .ok (.getfield 79, 3) := by decide +kernel
theorem d_M_merge_63 : decode b_M_merge 63 = .ok (.if_icmp .ge 47, 3) := by decide +kernel
theorem d_M_merge_66 : decode b_M_merge 66 = .ok (.iload_n 3, 1) := by decide +kernel
theorem d_M_merge_67 : decode b_M_merge 67 = .ok (.ifCond .ne 43, 3) := by decide +kernel
theorem d_M_merge_70 : decode b_M_merge 70 = .ok (.iload 5, 2) := by decide +kernel
theorem d_M_merge_72 : decode b_M_merge 72 = .ok (.ifCond .eq 29, 3) := by decide +kernel
theorem d_M_merge_75 : decode b_M_merge 75 = .ok (.aload_n 0, 1) := by decide +kernel
theorem d_M_merge_76 : decode b_M_merge 76 = .ok (.iload 6, 2) := by decide +kernel
theorem d_M_merge_78 : decode b_M_merge 78 = .ok (.iload_n 1, 1) := by decide +kernel
theorem d_M_merge_79 : decode b_M_merge 79 = .ok (.iload_n 2, 1) := by decide +kernel
theorem d_M_merge_80 : decode b_M_merge 80 = .ok (.invokevirtual 192, 3) := by decide +kernel
theorem d_M_merge_83 : decode b_M_merge 83 = .ok (.ifCond .eq 14, 3) := by decide +kernel
theorem d_M_merge_86 : decode b_M_merge 86 = .ok (.aload_n 0, 1) := by decide +kernel
theorem d_M_merge_87 : decode b_M_merge 87 = .ok (.iload 6, 2) := by decide +kernel
theorem d_M_merge_89 : decode b_M_merge 89 = .ok (.iload 4, 2) := by decide +kernel
theorem d_M_merge_91 : decode b_M_merge 91 = .ok (.invokevirtual 82, 3) := by decide +kernel
theorem d_M_merge_94 : decode b_M_merge 94 = .ok (.ifCond .ne 7, 3) := by decide +kernel
theorem d_M_merge_97 : decode b_M_merge 97 = .ok (.iconst 1, 1) := by decide +kernel
theorem d_M_merge_98 : decode b_M_merge 98 = .ok (.goto 4, 3) := by decide +kernel
theorem d_M_merge_101 : decode b_M_merge 101 = .ok (.iconst 0, 1) := by decide +kernel
theorem d_M_merge_102 : decode b_M_merge 102 = .ok (.istore 5, 2) := by decide +kernel
theorem d_M_merge_104 : decode b_M_merge 104 = .ok (.iinc 6 1, 3) := by decide +kernel
theorem d_M_merge_107 : decode b_M_merge 107 = .ok (.goto (-50), 3) := by decide +kernel
theorem d_M_merge_110 : decode b_M_merge 110 = .ok (.aload_n 0, 1) := by decide +kernel
theorem d_M_merge_111 : decode b_M_merge 111 = .ok (.getfield 25, 3) := by decide +kernel
theorem d_M_merge_114 : decode b_M_merge 114 = .ok (.iload 4, 2) := by decide +kernel
theorem d_M_merge_116 : decode b_M_merge 116 = .ok (.aload_n 0, 1) := by decide +kernel
theorem d_M_merge_117 : decode b_M_merge 117 = .ok (.iload 4, 2) := by decide +kernel
theorem d_M_merge_119 : decode b_M_merge 119 = .ok (.iload_n 1, 1) := by decide +kernel
theorem d_M_merge_120 : decode b_M_merge 120 = .ok (.iload_n 2, 1) := by decide +kernel
theorem d_M_merge_121 : decode b_M_merge 121 = .ok (.invokevirtual 192, 3) := by decide +kernel
theorem d_M_merge_124 : decode b_M_merge 124 = .ok (.ifCond .eq 13, 3) := by decide +kernel
theorem d_M_merge_127 : decode b_M_merge 127 = .ok (.iload 5, 2) := by decide +kernel
theorem d_M_merge_129 : decode b_M_merge 129 = .ok (.ifCond .ne 8, 3) := by decide +kernel
theorem d_M_merge_132 : decode b_M_merge 132 = .ok (.bipush (-2), 2) := by decide +kernel
theorem d_M_merge_134 : decode b_M_merge 134 = .ok (.goto 10, 3) := by decide +kernel
theorem d_M_merge_137 : decode b_M_merge 137 = .ok (.aload_n 0, 1) := by decide +kernel
theorem d_M_merge_138 : decode b_M_merge 138 = .ok (.getfield 25, 3) := by decide +kernel
theorem d_M_merge_141 : decode b_M_merge 141 = .ok (.iload 4, 2) := by decide +kernel
theorem d_M_merge_143 : decode b_M_merge 143 = .ok (.iaload, 1) := by decide +kernel
theorem d_M_merge_144 : decode b_M_merge 144 = .ok (.iastore, 1) := by decide +kernel
theorem d_M_merge_145 : decode b_M_merge 145 = .ok (.iinc 4 1, 3) := by decide +kernel
theorem d_M_merge_148 : decode b_M_merge 148 = .ok (.goto (-145), 3) := by decide +kernel
theorem d_M_merge_151 : decode b_M_merge 151 = .ok (.iconst 0, 1) := by decide +kernel
theorem d_M_merge_152 : decode b_M_merge 152 = .ok (.istore 4, 2) := by decide +kernel
theorem d_M_merge_154 : decode b_M_merge 154 = .ok (.iconst 0, 1) := by decide +kernel
theorem d_M_merge_155 : decode b_M_merge 155 = .ok (.istore 5, 2) := by decide +kernel
theorem d_M_merge_157 : decode b_M_merge 157 = .ok (.iconst 0, 1) := by decide +kernel
theorem d_M_merge_158 : decode b_M_merge 158 = .ok (.istore 6, 2) := by decide +kernel
theorem d_M_merge_160 : decode b_M_merge 160 = .ok (.iload 6, 2) := by decide +kernel
theorem d_M_merge_162 : decode b_M_merge 162 = .ok (.aload_n 0, 1) := by decide +kernel
theorem d_M_merge_163 : decode b_M_merge 163 = .ok (.getfield 79, 3) := by decide +kernel
theorem d_M_merge_166 : decode b_M_merge 166 = .ok (.if_icmp .ge 54, 3) := by decide +kernel
theorem d_M_merge_169 : decode b_M_merge 169 = .ok (.aload_n 0, 1) := by decide +kernel
theorem d_M_merge_170 : decode b_M_merge 170 = .ok (.getfield 25, 3) := by decide +kernel
theorem d_M_merge_173 : decode b_M_merge 173 = .ok (.iload 6, 2) := by decide +kernel
theorem d_M_merge_175 : decode b_M_merge 175 = .ok (.iaload, 1) := by decide +kernel
theorem d_M_merge_176 : decode b_M_merge 176 = .ok (.bipush (-2), 2) := by decide +kernel
theorem d_M_merge_178 : decode b_M_merge 178 = .ok (.if_icmp .eq 36, 3) := by decide +kernel
theorem d_M_merge_181 : decode b_M_merge 181 = .ok (.aload_n 0, 1) := by decide +kernel
theorem d_M_merge_182 : decode b_M_merge 182 = .ok (.iload 6, 2) := by decide +kernel
theorem d_M_merge_184 : decode b_M_merge 184 = .ok (.iload 4, 2) := by decide +kernel
theorem d_M_merge_186 : decode b_M_merge 186 = .ok (.invokevirtual 196, 3) := by decide +kernel
theorem d_M_merge_189 : decode b_M_merge 189 = .ok (.aload_n 0, 1) := by decide +kernel
theorem d_M_merge_190 : decode b_M_merge 190 = .ok (.iload 4, 2) := by decide +kernel
theorem d_M_merge_192 : decode b_M_merge 192 = .ok (.iload_n 1, 1) := by decide +kernel
theorem d_M_merge_193 : decode b_M_merge 193 = .ok (.iload_n 2, 1) := by decide +kernel
theorem d_M_merge_194 : decode b_M_merge 194 = .ok (.invokevirtual 192, 3) := by decide +kernel
theorem d_M_merge_197 : decode b_M_merge 197 = .ok (.ifCond .eq 14, 3) := by decide +kernel
theorem d_M_merge_200 : decode b_M_merge 200 = .ok (.aload_n 0, 1) := by decide +kernel
theorem d_M_merge_201 : decode b_M_merge 201 = .ok (.getfield 31, 3) := by decide +kernel
theorem d_M_merge_204 : decode b_M_merge 204 = .ok (.iload 4, 2) := by decide +kernel
theorem d_M_merge_206 : decode b_M_merge 206 = .ok (.iload_n 2, 1) := by decide +kernel
theorem d_M_merge_207 : decode b_M_merge 207 = .ok (.iastore, 1) := by decide +kernel
theorem d_M_merge_208 : decode b_M_merge 208 = .ok (.iinc 5 1, 3) := by decide +kernel
theorem d_M_merge_211 : decode b_M_merge 211 = .ok (.iinc 4 1, 3) := by decide +kernel
theorem d_M_merge_214 : decode b_M_merge 214 = .ok (.iinc 6 1, 3) := by decide +kernel
theorem d_M_merge_217 : decode b_M_merge 217 = .ok (.goto (-57), 3) := by decide +kernel
theorem d_M_merge_220 : decode b_M_merge 220 = .ok (.aload_n 0, 1) := by decide +kernel
theorem d_M_merge_221 : decode b_M_merge 221 = .ok (.iload 4, 2) := by decide +kernel
theorem d_M_merge_223 : decode b_M_merge 223 = .ok (.putfield 79, 3) := by decide +kernel
theorem d_M_merge_226 : decode b_M_merge 226 = .ok (.aload_n 0, 1) := by decide +kernel
theorem d_M_merge_227 : decode b_M_merge 227 = .ok (.getfield 41, 3) := by decide +kernel
theorem d_M_merge_230 : decode b_M_merge 230 = .ok (.iload_n 1, 1) := by decide +kernel
theorem d_M_merge_231 : decode b_M_merge 231 = .ok (.iload 5, 2) := by decide +kernel
theorem d_M_merge_233 : decode b_M_merge 233 = .ok (.ifCond .le 9, 3) := by decide +kernel
theorem d_M_merge_236 : decode b_M_merge 236 = .ok (.iload_n 2, 1) := by decide +kernel
theorem d_M_merge_237 : decode b_M_merge 237 = .ok (.iconst 1, 1) := by decide +kernel
theorem d_M_merge_238 : decode b_M_merge 238 = .ok (.iadd, 1) := by decide +kernel
theorem d_M_merge_239 : decode b_M_merge 239 = .ok (.goto 4, 3) := by decide +kernel
theorem d_M_merge_242 : decode b_M_merge 242 = .ok (.iload_n 2, 1) := by decide +kernel
theorem d_M_merge_243 : decode b_M_merge 243 = .ok (.iastore, 1) := by decide +kernel
theorem d_M_merge_244 : decode b_M_merge 244 = .ok (.iload 5, 2) := by decide +kernel
theorem d_M_merge_246 : decode b_M_merge 246 = .ok (.ireturn, 1) := by decide +kernel
theorem d_M_compact_0 : decode b_M_compact 0 = .ok (.aload_n 0, 1) := by decide +kernel
theorem d_M_compact_1 : decode b_M_compact 1 = .ok (.iload_n 1, 1) := by decide +kernel
theorem d_M_compact_2 : decode b_M_compact 2 = .ok (.invokevirtual 189, 3) := by decide +kernel
theorem d_M_compact_5 : decode b_M_compact 5 = .ok (.ifCond .eq 18, 3) := by decide +kernel
theorem d_M_compact_8 : decode b_M_compact 8 = .ok (.iload_n 2, 1) := by decide +kernel
theorem d_M_compact_9 : decode b_M_compact 9 = .ok (.iconst 2, 1) := by decide +kernel
theorem d_M_compact_10 : decode b_M_compact 10 = .ok (.if_icmp .lt 13, 3) := by decide +kernel
theorem d_M_compact_13 : decode b_M_compact 13 = .ok (.iload_n 2, 1) := by decide +kernel
theorem d_M_compact_14 : decode b_M_compact 14 = .ok (.aload_n 0, 1) := by decide +kernel
theorem d_M_compact_15 : decode b_M_compact 15 = .ok (.getfield 41, 3) := by decide +kernel
theorem d_M_compact_18 : decode b_M_compact 18 = .ok (.iload_n 1, 1) := by decide +kernel
theorem d_M_compact_19 : decode b_M_compact 19 = .ok (.iaload, 1) := by decide +kernel
theorem d_M_compact_20 : decode b_M_compact 20 = .ok (.if_icmp .le 5, 3) := by decide +kernel
theorem d_M_compact_23 : decode b_M_compact 23 = .ok (.iconst (-1), 1) := by decide +kernel
theorem d_M_compact_24 : decode b_M_compact 24 = .ok (.ireturn, 1) := by decide +kernel
theorem d_M_compact_25 : decode b_M_compact 25 = .ok (.aload_n 0, 1) := by decide +kernel
theorem d_M_compact_26 : decode b_M_compact 26 = .ok (.iload_n 1, 1) := by decide +kernel
theorem d_M_compact_27 : decode b_M_compact 27 = .ok (.aload_n 0, 1) := by decide +kernel
theorem d_M_compact_28 : decode b_M_compact 28 = .ok (.getfield 41, 3) := by decide +kernel
theorem d_M_compact_31 : decode b_M_compact 31 = .ok (.iload_n 1, 1) := by decide +kernel
theorem d_M_compact_32 : decode b_M_compact 32 = .ok (.iaload, 1) := by decide +kernel
theorem d_M_compact_33 : decode b_M_compact 33 = .ok (.iload_n 2, 1) := by decide +kernel
theorem d_M_compact_34 : decode b_M_compact 34 = .ok (.isub, 1) := by decide +kernel
theorem d_M_compact_35 : decode b_M_compact 35 = .ok (.iconst 0, 1) := by decide +kernel
theorem d_M_compact_36 : decode b_M_compact 36 = .ok (.invokevirtual 199, 3) := by decide +kernel
theorem d_M_compact_39 : decode b_M_compact 39 = .ok (.ireturn, 1) := by decide +kernel
theorem d_M_major_0 : decode b_M_major 0 = .ok (.aload_n 0, 1) := by decide +kernel
theorem d_M_major_1 : decode b_M_major 1 = .ok (.iload_n 1, 1) := by decide +kernel
theorem d_M_major_2 : decode b_M_major 2 = .ok (.invokevirtual 189, 3) := by decide +kernel
theorem d_M_major_5 : decode b_M_major 5 = .ok (.ifCond .ne 5, 3) := by decide +kernel
theorem d_M_major_8 : decode b_M_major 8 = .ok (.iconst (-1), 1) := by decide +kernel
theorem d_M_major_9 : decode b_M_major 9 = .ok (.ireturn, 1) := by decide +kernel
theorem d_M_major_10 : decode b_M_major 10 = .ok (.aload_n 0, 1) := by decide +kernel
theorem d_M_major_11 : decode b_M_major 11 = .ok (.iload_n 1, 1) := by decide +kernel
theorem d_M_major_12 : decode b_M_major 12 = .ok (.invokevirtual 158, 3) := by decide +kernel
theorem d_M_major_15 : decode b_M_major 15 = .ok (.istore_n 2, 1) := by decide +kernel
theorem d_M_major_16 : decode b_M_major 16 = .ok (.iload_n 2, 1) := by decide +kernel
theorem d_M_major_17 : decode b_M_major 17 = .ok (.ifCond .lt 13, 3) := by decide +kernel
theorem d_M_major_20 : decode b_M_major 20 = .ok (.aload_n 0, 1) := by decide +kernel
theorem d_M_major_21 : decode b_M_major 21 = .ok (.iload_n 1, 1) := by decide +kernel
theorem d_M_major_22 : decode b_M_major 22 = .ok (.iconst 0, 1) := by decide +kernel
theorem d_M_major_23 : decode b_M_major 23 = .ok (.iconst 1, 1) := by decide +kernel
theorem d_M_major_24 : decode b_M_major 24 = .ok (.invokevirtual 199, 3) := by decide +kernel
theorem d_M_major_27 : decode b_M_major 27 = .ok (.goto 4, 3) := by decide +kernel
theorem d_M_major_30 : decode b_M_major 30 = .ok (.iconst 0, 1) := by decide +kernel
theorem d_M_major_31 : decode b_M_major 31 = .ok (.ireturn, 1) := by decide +kernel
theorem d_M_lastRow_0 : decode b_M_lastRow 0 = .ok (.iload_n 1, 1) := by decide +kernel
theorem d_M_lastRow_1 : decode b_M_lastRow 1 = .ok (.aload_n 0, 1) := by decide +kernel
theorem d_M_lastRow_2 : decode b_M_lastRow 2 = .ok (.getfield 34, 3) := by decide +kernel
theorem d_M_lastRow_5 : decode b_M_lastRow 5 = .ok (.iconst 1, 1) := by decide +kernel
theorem d_M_lastRow_6 : decode b_M_lastRow 6 = .ok (.isub, 1) := by decide +kernel
theorem d_M_lastRow_7 : decode b_M_lastRow 7 = .ok (.if_icmp .ne 8, 3) := by decide +kernel
theorem d_M_lastRow_10 : decode b_M_lastRow 10 = .ok (.bipush 63, 2) := by decide +kernel
theorem d_M_lastRow_12 : decode b_M_lastRow 12 = .ok (.goto 13, 3) := by decide +kernel
theorem d_M_lastRow_15 : decode b_M_lastRow 15 = .ok (.aload_n 0, 1) := by decide +kernel
theorem d_M_lastRow_16 : decode b_M_lastRow 16 = .ok (.getfield 38, 3) := by decide +kernel
theorem d_M_lastRow_19 : decode b_M_lastRow 19 = .ok (.iload_n 1, 1) := by decide +kernel
theorem d_M_lastRow_20 : decode b_M_lastRow 20 = .ok (.iconst 1, 1) := by decide +kernel
theorem d_M_lastRow_21 : decode b_M_lastRow 21 = .ok (.iadd, 1) := by decide +kernel
theorem d_M_lastRow_22 : decode b_M_lastRow 22 = .ok (.iaload, 1) := by decide +kernel
theorem d_M_lastRow_23 : decode b_M_lastRow 23 = .ok (.iconst 1, 1) := by decide +kernel
theorem d_M_lastRow_24 : decode b_M_lastRow 24 = .ok (.isub, 1) := by decide +kernel
theorem d_M_lastRow_25 : decode b_M_lastRow 25 = .ok (.ireturn, 1) := by decide +kernel
theorem d_M_close_0 : decode b_M_close 0 = .ok (.iconst 0, 1) := by decide +kernel
theorem d_M_close_1 : decode b_M_close 1 = .ok (.istore_n 2, 1) := by decide +kernel
theorem d_M_close_2 : decode b_M_close 2 = .ok (.iconst 0, 1) := by decide +kernel
theorem d_M_close_3 : decode b_M_close 3 = .ok (.istore_n 3, 1) := by decide +kernel
theorem d_M_close_4 : decode b_M_close 4 = .ok (.iload_n 3, 1) := by decide +kernel
theorem d_M_close_5 : decode b_M_close 5 = .ok (.aload_n 0, 1) := by decide +kernel
theorem d_M_close_6 : decode b_M_close 6 = .ok (.getfield 41, 3) := by decide +kernel
theorem d_M_close_9 : decode b_M_close 9 = .ok (.iload_n 1, 1) := by decide +kernel
theorem d_M_close_10 : decode b_M_close 10 = .ok (.iaload, 1) := by decide +kernel
theorem d_M_close_11 : decode b_M_close 11 = .ok (.if_icmp .ge 69, 3) := by decide +kernel
theorem d_M_close_14 : decode b_M_close 14 = .ok (.aload_n 0, 1) := by decide +kernel
theorem d_M_close_15 : decode b_M_close 15 = .ok (.iload_n 1, 1) := by decide +kernel
theorem d_M_close_16 : decode b_M_close 16 = .ok (.iload_n 3, 1) := by decide +kernel
theorem d_M_close_17 : decode b_M_close 17 = .ok (.invokevirtual 155, 3) := by decide +kernel
theorem d_M_close_20 : decode b_M_close 20 = .ok (.ifCond .le 54, 3) := by decide +kernel
theorem d_M_close_23 : decode b_M_close 23 = .ok (.iconst 0, 1) := by decide +kernel
theorem d_M_close_24 : decode b_M_close 24 = .ok (.istore 4, 2) := by decide +kernel
theorem d_M_close_26 : decode b_M_close 26 = .ok (.iload 4, 2) := by decide +kernel
theorem d_M_close_28 : decode b_M_close 28 = .ok (.aload_n 0, 1) := by decide +kernel
theorem d_M_close_29 : decode b_M_close 29 = .ok (.getfield 79, 3) := by decide +kernel
theorem d_M_close_32 : decode b_M_close 32 = .ok (.if_icmp .ge 39, 3) := by decide +kernel
theorem d_M_close_35 : decode b_M_close 35 = .ok (.aload_n 0, 1) := by decide +kernel
theorem d_M_close_36 : decode b_M_close 36 = .ok (.getfield 28, 3) := by decide +kernel
theorem d_M_close_39 : decode b_M_close 39 = .ok (.iload 4, 2) := by decide +kernel
theorem d_M_close_41 : decode b_M_close 41 = .ok (.iaload, 1) := by decide +kernel
theorem d_M_close_42 : decode b_M_close 42 = .ok (.iload_n 1, 1) := by decide +kernel
theorem d_M_close_43 : decode b_M_close 43 = .ok (.if_icmp .ne 22, 3) := by decide +kernel
theorem d_M_close_46 : decode b_M_close 46 = .ok (.aload_n 0, 1) := by decide +kernel
theorem d_M_close_47 : decode b_M_close 47 = .ok (.getfield 31, 3) := by decide +kernel
theorem d_M_close_50 : decode b_M_close 50 = .ok (.iload 4, 2) := by decide +kernel
theorem d_M_close_52 : decode b_M_close 52 = .ok (.iaload, 1) := by decide +kernel
theorem d_M_close_53 : decode b_M_close 53 = .ok (.iload_n 3, 1) := by decide +kernel
theorem d_M_close_54 : decode b_M_close 54 = .ok (.if_icmp .ne 11, 3) := by decide +kernel
theorem d_M_close_57 : decode b_M_close 57 = .ok (.aload_n 0, 1) := by decide +kernel
theorem d_M_close_58 : decode b_M_close 58 = .ok (.getfield 31, 3) := by decide +kernel
theorem d_M_close_61 : decode b_M_close 61 = .ok (.iload 4, 2) := by decide +kernel
theorem d_M_close_63 : decode b_M_close 63 = .ok (.iload_n 2, 1) := by decide +kernel
theorem d_M_close_64 : decode b_M_close 64 = .ok (.iastore, 1) := by decide +kernel
theorem d_M_close_65 : decode b_M_close 65 = .ok (.iinc 4 1, 3) := by decide +kernel
theorem d_M_close_68 : decode b_M_close 68 = .ok (.goto (-42), 3) := by decide +kernel
theorem d_M_close_71 : decode b_M_close 71 = .ok (.iinc 2 1, 3) := by decide +kernel
theorem d_M_close_74 : decode b_M_close 74 = .ok (.iinc 3 1, 3) := by decide +kernel
theorem d_M_close_77 : decode b_M_close 77 = .ok (.goto (-73), 3) := by decide +kernel
theorem d_M_close_80 : decode b_M_close 80 = .ok (.aload_n 0, 1) := by decide +kernel
theorem d_M_close_81 : decode b_M_close 81 = .ok (.getfield 41, 3) := by decide +kernel
theorem d_M_close_84 : decode b_M_close 84 = .ok (.iload_n 1, 1) := by decide +kernel
theorem d_M_close_85 : decode b_M_close 85 = .ok (.iload_n 2, 1) := by decide +kernel
theorem d_M_close_86 : decode b_M_close 86 = .ok (.iastore, 1) := by decide +kernel
theorem d_M_close_87 : decode b_M_close 87 = .ok (.return_, 1) := by decide +kernel
theorem d_M_split_0 : decode b_M_split 0 = .ok (.aload_n 0, 1) := by decide +kernel
theorem d_M_split_1 : decode b_M_split 1 = .ok (.iload_n 1, 1) := by decide +kernel
theorem d_M_split_2 : decode b_M_split 2 = .ok (.invokevirtual 189, 3) := by decide +kernel
theorem d_M_split_5 : decode b_M_split 5 = .ok (.ifCond .eq 12, 3) := by decide +kernel
theorem d_M_split_8 : decode b_M_split 8 = .ok (.aload_n 0, 1) := by decide +kernel
theorem d_M_split_9 : decode b_M_split 9 = .ok (.getfield 34, 3) := by decide +kernel
theorem d_M_split_12 : decode b_M_split 12 = .ok (.bipush 8, 2) := by decide +kernel
theorem d_M_split_14 : decode b_M_split 14 = .ok (.if_icmp .ne 5, 3) := by decide +kernel
theorem d_M_split_17 : decode b_M_split 17 = .ok (.iconst 0, 1) := by decide +kernel
theorem d_M_split_18 : decode b_M_split 18 = .ok (.ireturn, 1) := by decide +kernel
theorem d_M_split_19 : decode b_M_split 19 = .ok (.iload_n 2, 1) := by decide +kernel
theorem d_M_split_20 : decode b_M_split 20 = .ok (.aload_n 0, 1) := by decide +kernel
theorem d_M_split_21 : decode b_M_split 21 = .ok (.getfield 38, 3) := by decide +kernel
theorem d_M_split_24 : decode b_M_split 24 = .ok (.iload_n 1, 1) := by decide +kernel
theorem d_M_split_25 : decode b_M_split 25 = .ok (.iaload, 1) := by decide +kernel
theorem d_M_split_26 : decode b_M_split 26 = .ok (.if_icmp .le 12, 3) := by decide +kernel
theorem d_M_split_29 : decode b_M_split 29 = .ok (.iload_n 2, 1) := by decide +kernel
theorem d_M_split_30 : decode b_M_split 30 = .ok (.aload_n 0, 1) := by decide +kernel
theorem d_M_split_31 : decode b_M_split 31 = .ok (.iload_n 1, 1) := by decide +kernel
theorem d_M_split_32 : decode b_M_split 32 = .ok (.invokevirtual 203, 3) := by decide +kernel
theorem d_M_split_35 : decode b_M_split 35 = .ok (.if_icmp .le 5, 3) := by decide +kernel
theorem d_M_split_38 : decode b_M_split 38 = .ok (.iconst 0, 1) := by decide +kernel
theorem d_M_split_39 : decode b_M_split 39 = .ok (.ireturn, 1) := by decide +kernel
theorem d_M_split_40 : decode b_M_split 40 = .ok (.iconst 0, 1) := by decide +kernel
theorem d_M_split_41 : decode b_M_split 41 = .ok (.istore_n 3, 1) := by decide +kernel
theorem d_M_split_42 : decode b_M_split 42 = .ok (.iload_n 3, 1) := by decide +kernel
theorem d_M_split_43 : decode b_M_split 43 = .ok (.aload_n 0, 1) := by decide +kernel
theorem d_M_split_44 : decode b_M_split 44 = .ok (.getfield 79, 3) := by decide +kernel
theorem d_M_split_47 : decode b_M_split 47 = .ok (.if_icmp .ge 49, 3) := by decide +kernel
theorem d_M_split_50 : decode b_M_split 50 = .ok (.aload_n 0, 1) := by decide +kernel
theorem d_M_split_51 : decode b_M_split 51 = .ok (.getfield 28, 3) := by decide +kernel
theorem d_M_split_54 : decode b_M_split 54 = .ok (.iload_n 3, 1) := by decide +kernel
theorem d_M_split_55 : decode b_M_split 55 = .ok (.iaload, 1) := by decide +kernel
theorem d_M_split_56 : decode b_M_split 56 = .ok (.iload_n 1, 1) := by decide +kernel
theorem d_M_split_57 : decode b_M_split 57 = .ok (.if_icmp .gt 23, 3) := by decide +kernel
theorem d_M_split_60 : decode b_M_split 60 = .ok (.aload_n 0, 1) := by decide +kernel
theorem d_M_split_61 : decode b_M_split 61 = .ok (.getfield 28, 3) := by decide +kernel
theorem d_M_split_64 : decode b_M_split 64 = .ok (.iload_n 3, 1) := by decide +kernel
theorem d_M_split_65 : decode b_M_split 65 = .ok (.iaload, 1) := by decide +kernel
theorem d_M_split_66 : decode b_M_split 66 = .ok (.iload_n 1, 1) := by decide +kernel
theorem d_M_split_67 : decode b_M_split 67 = .ok (.if_icmp .ne 23, 3) := by decide +kernel
theorem d_M_split_70 : decode b_M_split 70 = .ok (.aload_n 0, 1) := by decide +kernel
theorem d_M_split_71 : decode b_M_split 71 = .ok (.getfield 13, 3) := by decide +kernel
theorem d_M_split_74 : decode b_M_split 74 = .ok (.iload_n 3, 1) := by decide +kernel
theorem d_M_split_75 : decode b_M_split 75 = .ok (.iaload, 1) := by decide +kernel
theorem d_M_split_76 : decode b_M_split 76 = .ok (.iload_n 2, 1) := by decide +kernel
theorem d_M_split_77 : decode b_M_split 77 = .ok (.if_icmp .lt 13, 3) := by decide +kernel
theorem d_M_split_80 : decode b_M_split 80 = .ok (.aload_n 0, 1) := by decide +kernel
theorem d_M_split_81 : decode b_M_split 81 = .ok (.getfield 28, 3) := by decide +kernel
theorem d_M_split_84 : decode b_M_split 84 = .ok (.iload_n 3, 1) := by decide +kernel
theorem d_M_split_85 : decode b_M_split 85 = .ok (.dup2, 1) := by decide +kernel
theorem d_M_split_86 : decode b_M_split 86 = .ok (.iaload, 1) := by decide +kernel
theorem d_M_split_87 : decode b_M_split 87 = .ok (.iconst 1, 1) := by decide +kernel
theorem d_M_split_88 : decode b_M_split 88 = .ok (.iadd, 1) := by decide +kernel
theorem d_M_split_89 : decode b_M_split 89 = .ok (.iastore, 1) := by decide +kernel
theorem d_M_split_90 : decode b_M_split 90 = .ok (.iinc 3 1, 3) := by decide +kernel
theorem d_M_split_93 : decode b_M_split 93 = .ok (.goto (-51), 3) := by decide +kernel
theorem d_M_split_96 : decode b_M_split 96 = .ok (.aload_n 0, 1) := by decide +kernel
theorem d_M_split_97 : decode b_M_split 97 = .ok (.getfield 34, 3) := by decide +kernel
theorem d_M_split_100 : decode b_M_split 100 = .ok (.istore_n 3, 1) := by decide +kernel
theorem d_M_split_101 : decode b_M_split 101 = .ok (.iload_n 3, 1) := by decide +kernel
theorem d_M_split_102 : decode b_M_split 102 = .ok (.iload_n 1, 1) := by decide +kernel
theorem d_M_split_103 : decode b_M_split 103 = .ok (.iconst 1, 1) := by decide +kernel
theorem d_M_split_104 : decode b_M_split 104 = .ok (.iadd, 1) := by decide +kernel
theorem d_M_split_105 : decode b_M_split 105 = .ok (.if_icmp .le 37, 3) := by decide +kernel
theorem d_M_split_108 : decode b_M_split 108 = .ok (.aload_n 0, 1) := by decide +kernel
theorem d_M_split_109 : decode b_M_split 109 = .ok (.getfield 38, 3) := by decide +kernel
theorem d_M_split_112 : decode b_M_split 112 = .ok (.iload_n 3, 1) := by decide +kernel
theorem d_M_split_113 : decode b_M_split 113 = .ok (.aload_n 0, 1) := by decide +kernel
theorem d_M_split_114 : decode b_M_split 114 = .ok (.getfield 38, 3) := by decide +kernel
theorem d_M_split_117 : decode b_M_split 117 = .ok (.iload_n 3, 1) := by decide +kernel
theorem d_M_split_118 : decode b_M_split 118 = .ok (.iconst 1, 1) := by decide +kernel
theorem d_M_split_119 : decode b_M_split 119 = .ok (.isub, 1) := by decide +kernel
theorem d_M_split_120 : decode b_M_split 120 = .ok (.iaload, 1) := by decide +kernel
theorem d_M_split_121 : decode b_M_split 121 = .ok (.iastore, 1) := by decide +kernel
theorem d_M_split_122 : decode b_M_split 122 = .ok (.aload_n 0, 1) := by decide +kernel
theorem d_M_split_123 : decode b_M_split 123 = .ok (.getfield 41, 3) := by decide +kernel
theorem d_M_split_126 : decode b_M_split 126 = .ok (.iload_n 3, 1) := by decide +kernel
theorem d_M_split_127 : decode b_M_split 127 = .ok (.aload_n 0, 1) := by decide +kernel
theorem d_M_split_128 : decode b_M_split 128 = .ok (.getfield 41, 3) := by decide +kernel
theorem d_M_split_131 : decode b_M_split 131 = .ok (.iload_n 3, 1) := by decide +kernel
theorem d_M_split_132 : decode b_M_split 132 = .ok (.iconst 1, 1) := by decide +kernel
theorem d_M_split_133 : decode b_M_split 133 = .ok (.isub, 1) := by decide +kernel
theorem d_M_split_134 : decode b_M_split 134 = .ok (.iaload, 1) := by decide +kernel
theorem d_M_split_135 : decode b_M_split 135 = .ok (.iastore, 1) := by decide +kernel
theorem d_M_split_136 : decode b_M_split 136 = .ok (.iinc 3 (-1), 3) := by decide +kernel
theorem d_M_split_139 : decode b_M_split 139 = .ok (.goto (-38), 3) := by decide +kernel
theorem d_M_split_142 : decode b_M_split 142 = .ok (.aload_n 0, 1) := by decide +kernel
theorem d_M_split_143 : decode b_M_split 143 = .ok (.getfield 38, 3) := by decide +kernel
theorem d_M_split_146 : decode b_M_split 146 = .ok (.iload_n 1, 1) := by decide +kernel
theorem d_M_split_147 : decode b_M_split 147 = .ok (.iconst 1, 1) := by decide +kernel
theorem d_M_split_148 : decode b_M_split 148 = .ok (.iadd, 1) := by decide +kernel
theorem d_M_split_149 : decode b_M_split 149 = .ok (.iload_n 2, 1) := by decide +kernel
theorem d_M_split_150 : decode b_M_split 150 = .ok (.iastore, 1) := by decide +kernel
theorem d_M_split_151 : decode b_M_split 151 = .ok (.aload_n 0, 1) := by decide +kernel
theorem d_M_split_152 : decode b_M_split 152 = .ok (.getfield 41, 3) := by decide +kernel
theorem d_M_split_155 : decode b_M_split 155 = .ok (.iload_n 1, 1) := by decide +kernel
theorem d_M_split_156 : decode b_M_split 156 = .ok (.iconst 1, 1) := by decide +kernel
theorem d_M_split_157 : decode b_M_split 157 = .ok (.iadd, 1) := by decide +kernel
theorem d_M_split_158 : decode b_M_split 158 = .ok (.aload_n 0, 1) := by decide +kernel
theorem d_M_split_159 : decode b_M_split 159 = .ok (.getfield 41, 3) := by decide +kernel
theorem d_M_split_162 : decode b_M_split 162 = .ok (.iload_n 1, 1) := by decide +kernel
theorem d_M_split_163 : decode b_M_split 163 = .ok (.iaload, 1) := by decide +kernel
theorem d_M_split_164 : decode b_M_split 164 = .ok (.iastore, 1) := by decide +kernel
theorem d_M_split_165 : decode b_M_split 165 = .ok (.aload_n 0, 1) := by decide +kernel
theorem d_M_split_166 : decode b_M_split 166 = .ok (.dup, 1) := by decide +kernel
theorem d_M_split_167 : decode b_M_split 167 = .ok (.getfield 34, 3) := by decide +kernel
theorem d_M_split_170 : decode b_M_split 170 = .ok (.iconst 1, 1) := by decide +kernel
theorem d_M_split_171 : decode b_M_split 171 = .ok (.iadd, 1) := by decide +kernel
theorem d_M_split_172 : decode b_M_split 172 = .ok (.putfield 34, 3) := by decide +kernel
theorem d_M_split_175 : decode b_M_split 175 = .ok (.aload_n 0, 1) := by decide +kernel
theorem d_M_split_176 : decode b_M_split 176 = .ok (.iload_n 1, 1) := by decide +kernel
theorem d_M_split_177 : decode b_M_split 177 = .ok (.invokevirtual 206, 3) := by decide +kernel
theorem d_M_split_180 : decode b_M_split 180 = .ok (.aload_n 0, 1) := by decide +kernel
theorem d_M_split_181 : decode b_M_split 181 = .ok (.iload_n 1, 1) := by decide +kernel
theorem d_M_split_182 : decode b_M_split 182 = .ok (.iconst 1, 1) := by decide +kernel
theorem d_M_split_183 : decode b_M_split 183 = .ok (.iadd, 1) := by decide +kernel
theorem d_M_split_184 : decode b_M_split 184 = .ok (.invokevirtual 206, 3) := by decide +kernel
theorem d_M_split_187 : decode b_M_split 187 = .ok (.iconst 1, 1) := by decide +kernel
theorem d_M_split_188 : decode b_M_split 188 = .ok (.ireturn, 1) := by decide +kernel
