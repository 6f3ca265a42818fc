theorem d_T_init_0 : decode b_T_init 0 = .ok (.aload_n 0, 1) := by decide +kernel
theorem d_T_init_1 : decode b_T_init 1 = .ok (.invokespecial 3, 3) := by decide +kernel
theorem d_T_init_4 : decode b_T_init 4 = .ok (.aload_n 0, 1) := by decide +kernel
theorem d_T_init_5 : decode b_T_init 5 = .ok (.iconst 2, 1) := by decide +kernel
theorem d_T_init_6 : decode b_T_init 6 = .ok (.newarray .int, 2) := by decide +kernel
theorem d_T_init_8 : decode b_T_init 8 = .ok (.putfield 9, 3) := by decide +kernel
theorem d_T_init_11 : decode b_T_init 11 = .ok (.aload_n 0, 1) := by decide +kernel
theorem d_T_init_12 : decode b_T_init 12 = .ok (.iconst 2, 1) := by decide +kernel
theorem d_T_init_13 : decode b_T_init 13 = .ok (.newarray .int, 2) := by decide +kernel
theorem d_T_init_15 : decode b_T_init 15 = .ok (.putfield 13, 3) := by decide +kernel
theorem d_T_init_18 : decode b_T_init 18 = .ok (.aload_n 0, 1) := by decide +kernel
theorem d_T_init_19 : decode b_T_init 19 = .ok (.iconst 0, 1) := by decide +kernel
theorem d_T_init_20 : decode b_T_init 20 = .ok (.putfield 16, 3) := by decide +kernel
theorem d_T_init_23 : decode b_T_init 23 = .ok (.aload_n 0, 1) := by decide +kernel
theorem d_T_init_24 : decode b_T_init 24 = .ok (.sipush 247, 3) := by decide +kernel
theorem d_T_init_27 : decode b_T_init 27 = .ok (.anewarray 20, 3) := by decide +kernel
theorem d_T_init_30 : decode b_T_init 30 = .ok (.putfield 22, 3) := by decide +kernel
theorem d_T_init_33 : decode b_T_init 33 = .ok (.aload_n 0, 1) := by decide +kernel
theorem d_T_init_34 : decode b_T_init 34 = .ok (.iconst 0, 1) := by decide +kernel
theorem d_T_init_35 : decode b_T_init 35 = .ok (.putfield 26, 3) := by decide +kernel
theorem d_T_init_38 : decode b_T_init 38 = .ok (.aload_n 0, 1) := by decide +kernel
theorem d_T_init_39 : decode b_T_init 39 = .ok (.iconst 0, 1) := by decide +kernel
theorem d_T_init_40 : decode b_T_init 40 = .ok (.putfield 29, 3) := by decide +kernel
theorem d_T_init_43 : decode b_T_init 43 = .ok (.aload_n 0, 1) := by decide +kernel
theorem d_T_init_44 : decode b_T_init 44 = .ok (.bipush 9, 2) := by decide +kernel
theorem d_T_init_46 : decode b_T_init 46 = .ok (.newarray .int, 2) := by decide +kernel
theorem d_T_init_48 : decode b_T_init 48 = .ok (.putfield 32, 3) := by decide +kernel
theorem d_T_init_51 : decode b_T_init 51 = .ok (.aload_n 0, 1) := by decide +kernel
theorem d_T_init_52 : decode b_T_init 52 = .ok (.iconst 1, 1) := by decide +kernel
theorem d_T_init_53 : decode b_T_init 53 = .ok (.putfield 35, 3) := by decide +kernel
theorem d_T_init_56 : decode b_T_init 56 = .ok (.aload_n 0, 1) := by decide +kernel
theorem d_T_init_57 : decode b_T_init 57 = .ok (.new 38, 3) := by decide +kernel
theorem d_T_init_60 : decode b_T_init 60 = .ok (.dup, 1) := by decide +kernel
theorem d_T_init_61 : decode b_T_init 61 = .ok (.invokespecial 40, 3) := by decide +kernel
theorem d_T_init_64 : decode b_T_init 64 = .ok (.putfield 41, 3) := by decide +kernel
theorem d_T_init_67 : decode b_T_init 67 = .ok (.aload_n 0, 1) := by decide +kernel
theorem d_T_init_68 : decode b_T_init 68 = .ok (.iconst 0, 1) := by decide +kernel
theorem d_T_init_69 : decode b_T_init 69 = .ok (.putfield 45, 3) := by decide +kernel
theorem d_T_init_72 : decode b_T_init 72 = .ok (.aload_n 0, 1) := by decide +kernel
theorem d_T_init_73 : decode b_T_init 73 = .ok (.sipush 247, 3) := by decide +kernel
theorem d_T_init_76 : decode b_T_init 76 = .ok (.newarray .long, 2) := by decide +kernel
theorem d_T_init_78 : decode b_T_init 78 = .ok (.putfield 49, 3) := by decide +kernel
theorem d_T_init_81 : decode b_T_init 81 = .ok (.aload_n 0, 1) := by decide +kernel
theorem d_T_init_82 : decode b_T_init 82 = .ok (.iconst 0, 1) := by decide +kernel
theorem d_T_init_83 : decode b_T_init 83 = .ok (.putfield 53, 3) := by decide +kernel
theorem d_T_init_86 : decode b_T_init 86 = .ok (.aload_n 0, 1) := by decide +kernel
theorem d_T_init_87 : decode b_T_init 87 = .ok (.new 56, 3) := by decide +kernel
theorem d_T_init_90 : decode b_T_init 90 = .ok (.dup, 1) := by decide +kernel
theorem d_T_init_91 : decode b_T_init 91 = .ok (.invokespecial 58, 3) := by decide +kernel
theorem d_T_init_94 : decode b_T_init 94 = .ok (.putfield 59, 3) := by decide +kernel
theorem d_T_init_97 : decode b_T_init 97 = .ok (.aload_n 0, 1) := by decide +kernel
theorem d_T_init_98 : decode b_T_init 98 = .ok (.iconst 0, 1) := by decide +kernel
theorem d_T_init_99 : decode b_T_init 99 = .ok (.putfield 63, 3) := by decide +kernel
theorem d_T_init_102 : decode b_T_init 102 = .ok (.aload_n 0, 1) := by decide +kernel
theorem d_T_init_103 : decode b_T_init 103 = .ok (.getfield 9, 3) := by decide +kernel
theorem d_T_init_106 : decode b_T_init 106 = .ok (.iconst 0, 1) := by decide +kernel
theorem d_T_init_107 : decode b_T_init 107 = .ok (.iload_n 1, 1) := by decide +kernel
theorem d_T_init_108 : decode b_T_init 108 = .ok (.iconst 5, 1) := by decide +kernel
theorem d_T_init_109 : decode b_T_init 109 = .ok (.invokestatic 66, 3) := by decide +kernel
theorem d_T_init_112 : decode b_T_init 112 = .ok (.iastore, 1) := by decide +kernel
theorem d_T_init_113 : decode b_T_init 113 = .ok (.aload_n 0, 1) := by decide +kernel
theorem d_T_init_114 : decode b_T_init 114 = .ok (.getfield 13, 3) := by decide +kernel
theorem d_T_init_117 : decode b_T_init 117 = .ok (.iconst 0, 1) := by decide +kernel
theorem d_T_init_118 : decode b_T_init 118 = .ok (.iload_n 2, 1) := by decide +kernel
theorem d_T_init_119 : decode b_T_init 119 = .ok (.sipush 9999, 3) := by decide +kernel
theorem d_T_init_122 : decode b_T_init 122 = .ok (.invokestatic 66, 3) := by decide +kernel
theorem d_T_init_125 : decode b_T_init 125 = .ok (.iastore, 1) := by decide +kernel
theorem d_T_init_126 : decode b_T_init 126 = .ok (.aload_n 0, 1) := by decide +kernel
theorem d_T_init_127 : decode b_T_init 127 = .ok (.getfield 9, 3) := by decide +kernel
theorem d_T_init_130 : decode b_T_init 130 = .ok (.iconst 1, 1) := by decide +kernel
theorem d_T_init_131 : decode b_T_init 131 = .ok (.iload_n 3, 1) := by decide +kernel
theorem d_T_init_132 : decode b_T_init 132 = .ok (.iconst 5, 1) := by decide +kernel
theorem d_T_init_133 : decode b_T_init 133 = .ok (.invokestatic 66, 3) := by decide +kernel
theorem d_T_init_136 : decode b_T_init 136 = .ok (.iastore, 1) := by decide +kernel
theorem d_T_init_137 : decode b_T_init 137 = .ok (.aload_n 0, 1) := by decide +kernel
theorem d_T_init_138 : decode b_T_init 138 = .ok (.getfield 13, 3) := by decide +kernel
theorem d_T_init_141 : decode b_T_init 141 = .ok (.iconst 1, 1) := by decide +kernel
theorem d_T_init_142 : decode b_T_init 142 = .ok (.iload 4, 2) := by decide +kernel
theorem d_T_init_144 : decode b_T_init 144 = .ok (.sipush 9999, 3) := by decide +kernel
theorem d_T_init_147 : decode b_T_init 147 = .ok (.invokestatic 66, 3) := by decide +kernel
theorem d_T_init_150 : decode b_T_init 150 = .ok (.iastore, 1) := by decide +kernel
theorem d_T_init_151 : decode b_T_init 151 = .ok (.aload_n 0, 1) := by decide +kernel
theorem d_T_init_152 : decode b_T_init 152 = .ok (.getfield 32, 3) := by decide +kernel
theorem d_T_init_155 : decode b_T_init 155 = .ok (.iconst 1, 1) := by decide +kernel
theorem d_T_init_156 : decode b_T_init 156 = .ok (.bipush 64, 2) := by decide +kernel
theorem d_T_init_158 : decode b_T_init 158 = .ok (.iastore, 1) := by decide +kernel
theorem d_T_init_159 : decode b_T_init 159 = .ok (.return_, 1) := by decide +kernel
theorem d_T_put_0 : decode b_T_put 0 = .ok (.iload_n 1, 1) := by decide +kernel
theorem d_T_put_1 : decode b_T_put 1 = .ok (.invokestatic 70, 3) := by decide +kernel
theorem d_T_put_4 : decode b_T_put 4 = .ok (.ifCond .eq 28, 3) := by decide +kernel
theorem d_T_put_7 : decode b_T_put 7 = .ok (.iload_n 2, 1) := by decide +kernel
theorem d_T_put_8 : decode b_T_put 8 = .ok (.invokestatic 74, 3) := by decide +kernel
theorem d_T_put_11 : decode b_T_put 11 = .ok (.ifCond .eq 21, 3) := by decide +kernel
theorem d_T_put_14 : decode b_T_put 14 = .ok (.iload_n 3, 1) := by decide +kernel
theorem d_T_put_15 : decode b_T_put 15 = .ok (.invokestatic 77, 3) := by decide +kernel
theorem d_T_put_18 : decode b_T_put 18 = .ok (.ifCond .eq 14, 3) := by decide +kernel
theorem d_T_put_21 : decode b_T_put 21 = .ok (.aload_n 0, 1) := by decide +kernel
theorem d_T_put_22 : decode b_T_put 22 = .ok (.getfield 41, 3) := by decide +kernel
theorem d_T_put_25 : decode b_T_put 25 = .ok (.iload_n 1, 1) := by decide +kernel
theorem d_T_put_26 : decode b_T_put 26 = .ok (.invokevirtual 80, 3) := by decide +kernel
theorem d_T_put_29 : decode b_T_put 29 = .ok (.ifCond .ne 5, 3) := by decide +kernel
theorem d_T_put_32 : decode b_T_put 32 = .ok (.iconst 0, 1) := by decide +kernel
theorem d_T_put_33 : decode b_T_put 33 = .ok (.ireturn, 1) := by decide +kernel
theorem d_T_put_34 : decode b_T_put 34 = .ok (.aload_n 0, 1) := by decide +kernel
theorem d_T_put_35 : decode b_T_put 35 = .ok (.getfield 41, 3) := by decide +kernel
theorem d_T_put_38 : decode b_T_put 38 = .ok (.iload_n 1, 1) := by decide +kernel
theorem d_T_put_39 : decode b_T_put 39 = .ok (.iload_n 2, 1) := by decide +kernel
theorem d_T_put_40 : decode b_T_put 40 = .ok (.iload_n 3, 1) := by decide +kernel
theorem d_T_put_41 : decode b_T_put 41 = .ok (.iload 4, 2) := by decide +kernel
theorem d_T_put_43 : decode b_T_put 43 = .ok (.invokevirtual 83, 3) := by decide +kernel
theorem d_T_put_46 : decode b_T_put 46 = .ok (.iconst 1, 1) := by decide +kernel
theorem d_T_put_47 : decode b_T_put 47 = .ok (.ireturn, 1) := by decide +kernel
theorem d_T_erase_0 : decode b_T_erase 0 = .ok (.iload_n 1, 1) := by decide +kernel
theorem d_T_erase_1 : decode b_T_erase 1 = .ok (.invokestatic 70, 3) := by decide +kernel
theorem d_T_erase_4 : decode b_T_erase 4 = .ok (.ifCond .eq 22, 3) := by decide +kernel
theorem d_T_erase_7 : decode b_T_erase 7 = .ok (.iload_n 2, 1) := by decide +kernel
theorem d_T_erase_8 : decode b_T_erase 8 = .ok (.iload_n 3, 1) := by decide +kernel
theorem d_T_erase_9 : decode b_T_erase 9 = .ok (.invokestatic 87, 3) := by decide +kernel
theorem d_T_erase_12 : decode b_T_erase 12 = .ok (.ifCond .eq 14, 3) := by decide +kernel
theorem d_T_erase_15 : decode b_T_erase 15 = .ok (.aload_n 0, 1) := by decide +kernel
theorem d_T_erase_16 : decode b_T_erase 16 = .ok (.getfield 41, 3) := by decide +kernel
theorem d_T_erase_19 : decode b_T_erase 19 = .ok (.iload_n 1, 1) := by decide +kernel
theorem d_T_erase_20 : decode b_T_erase 20 = .ok (.invokevirtual 80, 3) := by decide +kernel
theorem d_T_erase_23 : decode b_T_erase 23 = .ok (.ifCond .ne 5, 3) := by decide +kernel
theorem d_T_erase_26 : decode b_T_erase 26 = .ok (.iconst 0, 1) := by decide +kernel
theorem d_T_erase_27 : decode b_T_erase 27 = .ok (.ireturn, 1) := by decide +kernel
theorem d_T_erase_28 : decode b_T_erase 28 = .ok (.aload_n 0, 1) := by decide +kernel
theorem d_T_erase_29 : decode b_T_erase 29 = .ok (.getfield 41, 3) := by decide +kernel
theorem d_T_erase_32 : decode b_T_erase 32 = .ok (.iload_n 1, 1) := by decide +kernel
theorem d_T_erase_33 : decode b_T_erase 33 = .ok (.iload_n 2, 1) := by decide +kernel
theorem d_T_erase_34 : decode b_T_erase 34 = .ok (.iload_n 3, 1) := by decide +kernel
theorem d_T_erase_35 : decode b_T_erase 35 = .ok (.invokevirtual 91, 3) := by decide +kernel
theorem d_T_erase_38 : decode b_T_erase 38 = .ok (.iconst 1, 1) := by decide +kernel
theorem d_T_erase_39 : decode b_T_erase 39 = .ok (.ireturn, 1) := by decide +kernel
theorem d_T_expect_0 : decode b_T_expect 0 = .ok (.iload_n 1, 1) := by decide +kernel
theorem d_T_expect_1 : decode b_T_expect 1 = .ok (.invokestatic 70, 3) := by decide +kernel
theorem d_T_expect_4 : decode b_T_expect 4 = .ok (.ifCond .eq 10, 3) := by decide +kernel
theorem d_T_expect_7 : decode b_T_expect 7 = .ok (.iload_n 2, 1) := by decide +kernel
theorem d_T_expect_8 : decode b_T_expect 8 = .ok (.invokestatic 74, 3) := by decide +kernel
theorem d_T_expect_11 : decode b_T_expect 11 = .ok (.ifCond .ne 5, 3) := by decide +kernel
theorem d_T_expect_14 : decode b_T_expect 14 = .ok (.iconst 0, 1) := by decide +kernel
theorem d_T_expect_15 : decode b_T_expect 15 = .ok (.ireturn, 1) := by decide +kernel
theorem d_T_expect_16 : decode b_T_expect 16 = .ok (.aload_n 0, 1) := by decide +kernel
theorem d_T_expect_17 : decode b_T_expect 17 = .ok (.getfield 41, 3) := by decide +kernel
theorem d_T_expect_20 : decode b_T_expect 20 = .ok (.iload_n 1, 1) := by decide +kernel
theorem d_T_expect_21 : decode b_T_expect 21 = .ok (.iload_n 2, 1) := by decide +kernel
theorem d_T_expect_22 : decode b_T_expect 22 = .ok (.iload_n 3, 1) := by decide +kernel
theorem d_T_expect_23 : decode b_T_expect 23 = .ok (.iload 4, 2) := by decide +kernel
theorem d_T_expect_25 : decode b_T_expect 25 = .ok (.invokevirtual 95, 3) := by decide +kernel
theorem d_T_expect_28 : decode b_T_expect 28 = .ok (.iconst 1, 1) := by decide +kernel
theorem d_T_expect_29 : decode b_T_expect 29 = .ok (.ireturn, 1) := by decide +kernel
theorem d_T_apply_0 : decode b_T_apply 0 = .ok (.aload_n 0, 1) := by decide +kernel
theorem d_T_apply_1 : decode b_T_apply 1 = .ok (.getfield 41, 3) := by decide +kernel
theorem d_T_apply_4 : decode b_T_apply 4 = .ok (.getfield 99, 3) := by decide +kernel
theorem d_T_apply_7 : decode b_T_apply 7 = .ok (.ifCond .ne 5, 3) := by decide +kernel
theorem d_T_apply_10 : decode b_T_apply 10 = .ok (.iconst (-1), 1) := by decide +kernel
theorem d_T_apply_11 : decode b_T_apply 11 = .ok (.ireturn, 1) := by decide +kernel
theorem d_T_apply_12 : decode b_T_apply 12 = .ok (.aload_n 0, 1) := by decide +kernel
theorem d_T_apply_13 : decode b_T_apply 13 = .ok (.getfield 26, 3) := by decide +kernel
theorem d_T_apply_16 : decode b_T_apply 16 = .ok (.sipush 240, 3) := by decide +kernel
theorem d_T_apply_19 : decode b_T_apply 19 = .ok (.if_icmp .lt 6, 3) := by decide +kernel
theorem d_T_apply_22 : decode b_T_apply 22 = .ok (.bipush (-2), 2) := by decide +kernel
theorem d_T_apply_24 : decode b_T_apply 24 = .ok (.ireturn, 1) := by decide +kernel
theorem d_T_apply_25 : decode b_T_apply 25 = .ok (.aload_n 0, 1) := by decide +kernel
theorem d_T_apply_26 : decode b_T_apply 26 = .ok (.getfield 45, 3) := by decide +kernel
theorem d_T_apply_29 : decode b_T_apply 29 = .ok (.ifCond .eq 15, 3) := by decide +kernel
theorem d_T_apply_32 : decode b_T_apply 32 = .ok (.aload_n 0, 1) := by decide +kernel
theorem d_T_apply_33 : decode b_T_apply 33 = .ok (.iconst 0, 1) := by decide +kernel
theorem d_T_apply_34 : decode b_T_apply 34 = .ok (.putfield 45, 3) := by decide +kernel
theorem d_T_apply_37 : decode b_T_apply 37 = .ok (.aload_n 0, 1) := by decide +kernel
theorem d_T_apply_38 : decode b_T_apply 38 = .ok (.invokevirtual 102, 3) := by decide +kernel
theorem d_T_apply_41 : decode b_T_apply 41 = .ok (.bipush (-3), 2) := by decide +kernel
theorem d_T_apply_43 : decode b_T_apply 43 = .ok (.ireturn, 1) := by decide +kernel
theorem d_T_apply_44 : decode b_T_apply 44 = .ok (.aload_n 0, 1) := by decide +kernel
theorem d_T_apply_45 : decode b_T_apply 45 = .ok (.invokevirtual 105, 3) := by decide +kernel
theorem d_T_apply_48 : decode b_T_apply 48 = .ok (.ifCond .eq 10, 3) := by decide +kernel
theorem d_T_apply_51 : decode b_T_apply 51 = .ok (.aload_n 0, 1) := by decide +kernel
theorem d_T_apply_52 : decode b_T_apply 52 = .ok (.invokevirtual 109, 3) := by decide +kernel
theorem d_T_apply_55 : decode b_T_apply 55 = .ok (.goto 4, 3) := by decide +kernel
theorem d_T_apply_58 : decode b_T_apply 58 = .ok (.iconst 0, 1) := by decide +kernel
theorem d_T_apply_59 : decode b_T_apply 59 = .ok (.istore_n 1, 1) := by decide +kernel
theorem d_T_apply_60 : decode b_T_apply 60 = .ok (.aload_n 0, 1) := by decide +kernel
theorem d_T_apply_61 : decode b_T_apply 61 = .ok (.getfield 41, 3) := by decide +kernel
theorem d_T_apply_64 : decode b_T_apply 64 = .ok (.invokevirtual 113, 3) := by decide +kernel
theorem d_T_apply_67 : decode b_T_apply 67 = .ok (.iload_n 1, 1) := by decide +kernel
theorem d_T_apply_68 : decode b_T_apply 68 = .ok (.ireturn, 1) := by decide +kernel
theorem d_T_tear_0 : decode b_T_tear 0 = .ok (.aload_n 0, 1) := by decide +kernel
theorem d_T_tear_1 : decode b_T_tear 1 = .ok (.iconst 1, 1) := by decide +kernel
theorem d_T_tear_2 : decode b_T_tear 2 = .ok (.putfield 45, 3) := by decide +kernel
theorem d_T_tear_5 : decode b_T_tear 5 = .ok (.return_, 1) := by decide +kernel
theorem d_T_crash_0 : decode b_T_crash 0 = .ok (.aload_n 0, 1) := by decide +kernel
theorem d_T_crash_1 : decode b_T_crash 1 = .ok (.getfield 41, 3) := by decide +kernel
theorem d_T_crash_4 : decode b_T_crash 4 = .ok (.invokevirtual 113, 3) := by decide +kernel
theorem d_T_crash_7 : decode b_T_crash 7 = .ok (.return_, 1) := by decide +kernel
theorem d_T_tick_0 : decode b_T_tick 0 = .ok (.iload_n 1, 1) := by decide +kernel
theorem d_T_tick_1 : decode b_T_tick 1 = .ok (.ifCond .lt 20, 3) := by decide +kernel
theorem d_T_tick_4 : decode b_T_tick 4 = .ok (.iload_n 1, 1) := by decide +kernel
theorem d_T_tick_5 : decode b_T_tick 5 = .ok (.sipush 5000, 3) := by decide +kernel
theorem d_T_tick_8 : decode b_T_tick 8 = .ok (.if_icmp .gt 13, 3) := by decide +kernel
theorem d_T_tick_11 : decode b_T_tick 11 = .ok (.aload_n 0, 1) := by decide +kernel
theorem d_T_tick_12 : decode b_T_tick 12 = .ok (.dup, 1) := by decide +kernel
theorem d_T_tick_13 : decode b_T_tick 13 = .ok (.getfield 16, 3) := by decide +kernel
theorem d_T_tick_16 : decode b_T_tick 16 = .ok (.iload_n 1, 1) := by decide +kernel
theorem d_T_tick_17 : decode b_T_tick 17 = .ok (.iadd, 1) := by decide +kernel
theorem d_T_tick_18 : decode b_T_tick 18 = .ok (.putfield 16, 3) := by decide +kernel
theorem d_T_tick_21 : decode b_T_tick 21 = .ok (.aload_n 0, 1) := by decide +kernel
theorem d_T_tick_22 : decode b_T_tick 22 = .ok (.getfield 16, 3) := by decide +kernel
theorem d_T_tick_25 : decode b_T_tick 25 = .ok (.ireturn, 1) := by decide +kernel
theorem d_T_isExpectationMet_0 : decode b_T_isExpectationMet 0 = .ok (.aload_n 0, 1) := by decide +kernel
theorem d_T_isExpectationMet_1 : decode b_T_isExpectationMet 1 = .ok (.getfield 41, 3) := by decide +kernel
theorem d_T_isExpectationMet_4 : decode b_T_isExpectationMet 4 = .ok (.getfield 116, 3) := by decide +kernel
theorem d_T_isExpectationMet_7 : decode b_T_isExpectationMet 7 = .ok (.ifCond .ne 5, 3) := by decide +kernel
theorem d_T_isExpectationMet_10 : decode b_T_isExpectationMet 10 = .ok (.iconst 1, 1) := by decide +kernel
theorem d_T_isExpectationMet_11 : decode b_T_isExpectationMet 11 = .ok (.ireturn, 1) := by decide +kernel
theorem d_T_isExpectationMet_12 : decode b_T_isExpectationMet 12 = .ok (.aload_n 0, 1) := by decide +kernel
theorem d_T_isExpectationMet_13 : decode b_T_isExpectationMet 13 = .ok (.aload_n 0, 1) := by decide +kernel
theorem d_T_isExpectationMet_14 : decode b_T_isExpectationMet 14 = .ok (.getfield 41, 3) := by decide +kernel
theorem d_T_isExpectationMet_17 : decode b_T_isExpectationMet 17 = .ok (.getfield 119, 3) := by decide +kernel
theorem d_T_isExpectationMet_20 : decode b_T_isExpectationMet 20 = .ok (.aload_n 0, 1) := by decide +kernel
theorem d_T_isExpectationMet_21 : decode b_T_isExpectationMet 21 = .ok (.getfield 41, 3) := by decide +kernel
theorem d_T_isExpectationMet_24 : decode b_T_isExpectationMet 24 = .ok (.getfield 122, 3) := by decide +kernel
theorem d_T_isExpectationMet_27 : decode b_T_isExpectationMet 27 = .ok (.sipush 10000, 3) := by decide +kernel
theorem d_T_isExpectationMet_30 : decode b_T_isExpectationMet 30 = .ok (.iconst 0, 1) := by decide +kernel
theorem d_T_isExpectationMet_31 : decode b_T_isExpectationMet 31 = .ok (.invokevirtual 125, 3) := by decide +kernel
theorem d_T_isExpectationMet_34 : decode b_T_isExpectationMet 34 = .ok (.astore_n 1, 1) := by decide +kernel
theorem d_T_isExpectationMet_35 : decode b_T_isExpectationMet 35 = .ok (.aload_n 1, 1) := by decide +kernel
theorem d_T_isExpectationMet_36 : decode b_T_isExpectationMet 36 = .ok (.ifnonnull 19, 3) := by decide +kernel
theorem d_T_isExpectationMet_39 : decode b_T_isExpectationMet 39 = .ok (.aload_n 0, 1) := by decide +kernel
theorem d_T_isExpectationMet_40 : decode b_T_isExpectationMet 40 = .ok (.getfield 41, 3) := by decide +kernel
theorem d_T_isExpectationMet_43 : decode b_T_isExpectationMet 43 = .ok (.getfield 129, 3) := by decide +kernel
theorem d_T_isExpectationMet_46 : decode b_T_isExpectationMet 46 = .ok (.ifCond .ne 7, 3) := by decide +kernel
theorem d_T_isExpectationMet_49 : decode b_T_isExpectationMet 49 = .ok (.iconst 1, 1) := by decide +kernel
theorem d_T_isExpectationMet_50 : decode b_T_isExpectationMet 50 = .ok (.goto 4, 3) := by decide +kernel
theorem d_T_isExpectationMet_53 : decode b_T_isExpectationMet 53 = .ok (.iconst 0, 1) := by decide +kernel
theorem d_T_isExpectationMet_54 : decode b_T_isExpectationMet 54 = .ok (.ireturn, 1) := by decide +kernel
theorem d_T_isExpectationMet_55 : decode b_T_isExpectationMet 55 = .ok (.aload_n 0, 1) := by decide +kernel
theorem d_T_isExpectationMet_56 : decode b_T_isExpectationMet 56 = .ok (.getfield 41, 3) := by decide +kernel
theorem d_T_isExpectationMet_59 : decode b_T_isExpectationMet 59 = .ok (.getfield 129, 3) := by decide +kernel
theorem d_T_isExpectationMet_62 : decode b_T_isExpectationMet 62 = .ok (.ifCond .eq 21, 3) := by decide +kernel
theorem d_T_isExpectationMet_65 : decode b_T_isExpectationMet 65 = .ok (.aload_n 1, 1) := by decide +kernel
theorem d_T_isExpectationMet_66 : decode b_T_isExpectationMet 66 = .ok (.getfield 132, 3) := by decide +kernel
theorem d_T_isExpectationMet_69 : decode b_T_isExpectationMet 69 = .ok (.aload_n 0, 1) := by decide +kernel
theorem d_T_isExpectationMet_70 : decode b_T_isExpectationMet 70 = .ok (.getfield 41, 3) := by decide +kernel
theorem d_T_isExpectationMet_73 : decode b_T_isExpectationMet 73 = .ok (.getfield 135, 3) := by decide +kernel
theorem d_T_isExpectationMet_76 : decode b_T_isExpectationMet 76 = .ok (.if_icmp .ne 7, 3) := by decide +kernel
theorem d_T_isExpectationMet_79 : decode b_T_isExpectationMet 79 = .ok (.iconst 1, 1) := by decide +kernel
theorem d_T_isExpectationMet_80 : decode b_T_isExpectationMet 80 = .ok (.goto 4, 3) := by decide +kernel
theorem d_T_isExpectationMet_83 : decode b_T_isExpectationMet 83 = .ok (.iconst 0, 1) := by decide +kernel
theorem d_T_isExpectationMet_84 : decode b_T_isExpectationMet 84 = .ok (.ireturn, 1) := by decide +kernel
theorem d_T_applyChanges_0 : decode b_T_applyChanges 0 = .ok (.aload_n 0, 1) := by decide +kernel
theorem d_T_applyChanges_1 : decode b_T_applyChanges 1 = .ok (.getfield 26, 3) := by decide +kernel
theorem d_T_applyChanges_4 : decode b_T_applyChanges 4 = .ok (.istore_n 1, 1) := by decide +kernel
theorem d_T_applyChanges_5 : decode b_T_applyChanges 5 = .ok (.iconst 0, 1) := by decide +kernel
theorem d_T_applyChanges_6 : decode b_T_applyChanges 6 = .ok (.istore_n 2, 1) := by decide +kernel
theorem d_T_applyChanges_7 : decode b_T_applyChanges 7 = .ok (.iload_n 2, 1) := by decide +kernel
theorem d_T_applyChanges_8 : decode b_T_applyChanges 8 = .ok (.aload_n 0, 1) := by decide +kernel
theorem d_T_applyChanges_9 : decode b_T_applyChanges 9 = .ok (.getfield 41, 3) := by decide +kernel
theorem d_T_applyChanges_12 : decode b_T_applyChanges 12 = .ok (.getfield 99, 3) := by decide +kernel
theorem d_T_applyChanges_15 : decode b_T_applyChanges 15 = .ok (.if_icmp .ge 14, 3) := by decide +kernel
theorem d_T_applyChanges_18 : decode b_T_applyChanges 18 = .ok (.aload_n 0, 1) := by decide +kernel
theorem d_T_applyChanges_19 : decode b_T_applyChanges 19 = .ok (.iload_n 2, 1) := by decide +kernel
theorem d_T_applyChanges_20 : decode b_T_applyChanges 20 = .ok (.invokevirtual 138, 3) := by decide +kernel
theorem d_T_applyChanges_23 : decode b_T_applyChanges 23 = .ok (.iinc 2 1, 3) := by decide +kernel
theorem d_T_applyChanges_26 : decode b_T_applyChanges 26 = .ok (.goto (-19), 3) := by decide +kernel
theorem d_T_applyChanges_29 : decode b_T_applyChanges 29 = .ok (.aload_n 0, 1) := by decide +kernel
theorem d_T_applyChanges_30 : decode b_T_applyChanges 30 = .ok (.getfield 26, 3) := by decide +kernel
theorem d_T_applyChanges_33 : decode b_T_applyChanges 33 = .ok (.iload_n 1, 1) := by decide +kernel
theorem d_T_applyChanges_34 : decode b_T_applyChanges 34 = .ok (.isub, 1) := by decide +kernel
theorem d_T_applyChanges_35 : decode b_T_applyChanges 35 = .ok (.istore_n 2, 1) := by decide +kernel
theorem d_T_applyChanges_36 : decode b_T_applyChanges 36 = .ok (.aload_n 0, 1) := by decide +kernel
theorem d_T_applyChanges_37 : decode b_T_applyChanges 37 = .ok (.aload_n 0, 1) := by decide +kernel
theorem d_T_applyChanges_38 : decode b_T_applyChanges 38 = .ok (.getfield 41, 3) := by decide +kernel
theorem d_T_applyChanges_41 : decode b_T_applyChanges 41 = .ok (.getfield 142, 3) := by decide +kernel
theorem d_T_applyChanges_44 : decode b_T_applyChanges 44 = .ok (.invokevirtual 145, 3) := by decide +kernel
theorem d_T_applyChanges_47 : decode b_T_applyChanges 47 = .ok (.istore_n 3, 1) := by decide +kernel
theorem d_T_applyChanges_48 : decode b_T_applyChanges 48 = .ok (.aload_n 0, 1) := by decide +kernel
theorem d_T_applyChanges_49 : decode b_T_applyChanges 49 = .ok (.iload_n 3, 1) := by decide +kernel
theorem d_T_applyChanges_50 : decode b_T_applyChanges 50 = .ok (.iconst (-1), 1) := by decide +kernel
theorem d_T_applyChanges_51 : decode b_T_applyChanges 51 = .ok (.invokevirtual 149, 3) := by decide +kernel
theorem d_T_applyChanges_54 : decode b_T_applyChanges 54 = .ok (.bipush 16, 2) := by decide +kernel
theorem d_T_applyChanges_56 : decode b_T_applyChanges 56 = .ok (.if_icmp .lt 9, 3) := by decide +kernel
theorem d_T_applyChanges_59 : decode b_T_applyChanges 59 = .ok (.aload_n 0, 1) := by decide +kernel
theorem d_T_applyChanges_60 : decode b_T_applyChanges 60 = .ok (.iload_n 3, 1) := by decide +kernel
theorem d_T_applyChanges_61 : decode b_T_applyChanges 61 = .ok (.invokevirtual 152, 3) := by decide +kernel
theorem d_T_applyChanges_64 : decode b_T_applyChanges 64 = .ok (.pop, 1) := by decide +kernel
theorem d_T_applyChanges_65 : decode b_T_applyChanges 65 = .ok (.iload_n 2, 1) := by decide +kernel
theorem d_T_applyChanges_66 : decode b_T_applyChanges 66 = .ok (.ireturn, 1) := by decide +kernel
theorem d_T_applyChange_0 : decode b_T_applyChange 0 = .ok (.aload_n 0, 1) := by decide +kernel
theorem d_T_applyChange_1 : decode b_T_applyChange 1 = .ok (.getfield 41, 3) := by decide +kernel
theorem d_T_applyChange_4 : decode b_T_applyChange 4 = .ok (.getfield 155, 3) := by decide +kernel
theorem d_T_applyChange_7 : decode b_T_applyChange 7 = .ok (.iload_n 1, 1) := by decide +kernel
theorem d_T_applyChange_8 : decode b_T_applyChange 8 = .ok (.iaload, 1) := by decide +kernel
theorem d_T_applyChange_9 : decode b_T_applyChange 9 = .ok (.istore_n 2, 1) := by decide +kernel
theorem d_T_applyChange_10 : decode b_T_applyChange 10 = .ok (.aload_n 0, 1) := by decide +kernel
theorem d_T_applyChange_11 : decode b_T_applyChange 11 = .ok (.getfield 41, 3) := by decide +kernel
theorem d_T_applyChange_14 : decode b_T_applyChange 14 = .ok (.getfield 158, 3) := by decide +kernel
theorem d_T_applyChange_17 : decode b_T_applyChange 17 = .ok (.iload_n 1, 1) := by decide +kernel
theorem d_T_applyChange_18 : decode b_T_applyChange 18 = .ok (.baload, 1) := by decide +kernel
theorem d_T_applyChange_19 : decode b_T_applyChange 19 = .ok (.istore_n 3, 1) := by decide +kernel
theorem d_T_applyChange_20 : decode b_T_applyChange 20 = .ok (.aload_n 0, 1) := by decide +kernel
theorem d_T_applyChange_21 : decode b_T_applyChange 21 = .ok (.aload_n 0, 1) := by decide +kernel
theorem d_T_applyChange_22 : decode b_T_applyChange 22 = .ok (.getfield 41, 3) := by decide +kernel
theorem d_T_applyChange_25 : decode b_T_applyChange 25 = .ok (.getfield 142, 3) := by decide +kernel
theorem d_T_applyChange_28 : decode b_T_applyChange 28 = .ok (.iload_n 2, 1) := by decide +kernel
theorem d_T_applyChange_29 : decode b_T_applyChange 29 = .ok (.aload_n 0, 1) := by decide +kernel
theorem d_T_applyChange_30 : decode b_T_applyChange 30 = .ok (.getfield 41, 3) := by decide +kernel
theorem d_T_applyChange_33 : decode b_T_applyChange 33 = .ok (.getfield 162, 3) := by decide +kernel
theorem d_T_applyChange_36 : decode b_T_applyChange 36 = .ok (.iload_n 1, 1) := by decide +kernel
theorem d_T_applyChange_37 : decode b_T_applyChange 37 = .ok (.iaload, 1) := by decide +kernel
theorem d_T_applyChange_38 : decode b_T_applyChange 38 = .ok (.iload_n 3, 1) := by decide +kernel
theorem d_T_applyChange_39 : decode b_T_applyChange 39 = .ok (.invokevirtual 165, 3) := by decide +kernel
theorem d_T_applyChange_42 : decode b_T_applyChange 42 = .ok (.astore 4, 2) := by decide +kernel
theorem d_T_applyChange_44 : decode b_T_applyChange 44 = .ok (.aload 4, 2) := by decide +kernel
theorem d_T_applyChange_46 : decode b_T_applyChange 46 = .ok (.ifnonnull 4, 3) := by decide +kernel
theorem d_T_applyChange_49 : decode b_T_applyChange 49 = .ok (.return_, 1) := by decide +kernel
theorem d_T_applyChange_50 : decode b_T_applyChange 50 = .ok (.aload 4, 2) := by decide +kernel
theorem d_T_applyChange_52 : decode b_T_applyChange 52 = .ok (.aload_n 0, 1) := by decide +kernel
theorem d_T_applyChange_53 : decode b_T_applyChange 53 = .ok (.getfield 41, 3) := by decide +kernel
theorem d_T_applyChange_56 : decode b_T_applyChange 56 = .ok (.getfield 169, 3) := by decide +kernel
theorem d_T_applyChange_59 : decode b_T_applyChange 59 = .ok (.iload_n 1, 1) := by decide +kernel
theorem d_T_applyChange_60 : decode b_T_applyChange 60 = .ok (.iaload, 1) := by decide +kernel
theorem d_T_applyChange_61 : decode b_T_applyChange 61 = .ok (.putfield 132, 3) := by decide +kernel
theorem d_T_applyChange_64 : decode b_T_applyChange 64 = .ok (.aload 4, 2) := by decide +kernel
theorem d_T_applyChange_66 : decode b_T_applyChange 66 = .ok (.iload_n 1, 1) := by decide +kernel
theorem d_T_applyChange_67 : decode b_T_applyChange 67 = .ok (.ifCond .ne 7, 3) := by decide +kernel
theorem d_T_applyChange_70 : decode b_T_applyChange 70 = .ok (.iconst 1, 1) := by decide +kernel
theorem d_T_applyChange_71 : decode b_T_applyChange 71 = .ok (.goto 4, 3) := by decide +kernel
theorem d_T_applyChange_74 : decode b_T_applyChange 74 = .ok (.iconst 0, 1) := by decide +kernel
theorem d_T_applyChange_75 : decode b_T_applyChange 75 = .ok (.putfield 172, 3) := by decide +kernel
theorem d_T_applyChange_78 : decode b_T_applyChange 78 = .ok (.iload_n 3, 1) := by decide +kernel
theorem d_T_applyChange_79 : decode b_T_applyChange 79 = .ok (.ifCond .ne 15, 3) := by decide +kernel
theorem d_T_applyChange_82 : decode b_T_applyChange 82 = .ok (.aload_n 0, 1) := by decide +kernel
theorem d_T_applyChange_83 : decode b_T_applyChange 83 = .ok (.aload_n 0, 1) := by decide +kernel
theorem d_T_applyChange_84 : decode b_T_applyChange 84 = .ok (.getfield 41, 3) := by decide +kernel
theorem d_T_applyChange_87 : decode b_T_applyChange 87 = .ok (.getfield 142, 3) := by decide +kernel
theorem d_T_applyChange_90 : decode b_T_applyChange 90 = .ok (.iload_n 2, 1) := by decide +kernel
theorem d_T_applyChange_91 : decode b_T_applyChange 91 = .ok (.invokevirtual 175, 3) := by decide +kernel
theorem d_T_applyChange_94 : decode b_T_applyChange 94 = .ok (.return_, 1) := by decide +kernel
theorem d_T_eraseBeyondNumber_0 : decode b_T_eraseBeyondNumber 0 = .ok (.aload_n 0, 1) := by decide +kernel
theorem d_T_eraseBeyondNumber_1 : decode b_T_eraseBeyondNumber 1 = .ok (.getfield 9, 3) := by decide +kernel
theorem d_T_eraseBeyondNumber_4 : decode b_T_eraseBeyondNumber 4 = .ok (.iload_n 2, 1) := by decide +kernel
theorem d_T_eraseBeyondNumber_5 : decode b_T_eraseBeyondNumber 5 = .ok (.invokestatic 179, 3) := by decide +kernel
theorem d_T_eraseBeyondNumber_8 : decode b_T_eraseBeyondNumber 8 = .ok (.iaload, 1) := by decide +kernel
theorem d_T_eraseBeyondNumber_9 : decode b_T_eraseBeyondNumber 9 = .ok (.istore_n 3, 1) := by decide +kernel
theorem d_T_eraseBeyondNumber_10 : decode b_T_eraseBeyondNumber 10 = .ok (.iload_n 3, 1) := by decide +kernel
theorem d_T_eraseBeyondNumber_11 : decode b_T_eraseBeyondNumber 11 = .ok (.ifCond .ne 4, 3) := by decide +kernel
theorem d_T_eraseBeyondNumber_14 : decode b_T_eraseBeyondNumber 14 = .ok (.return_, 1) := by decide +kernel
theorem d_T_eraseBeyondNumber_15 : decode b_T_eraseBeyondNumber 15 = .ok (.aload_n 0, 1) := by decide +kernel
theorem d_T_eraseBeyondNumber_16 : decode b_T_eraseBeyondNumber 16 = .ok (.iload_n 1, 1) := by decide +kernel
theorem d_T_eraseBeyondNumber_17 : decode b_T_eraseBeyondNumber 17 = .ok (.iload_n 2, 1) := by decide +kernel
theorem d_T_eraseBeyondNumber_18 : decode b_T_eraseBeyondNumber 18 = .ok (.sipush 10000, 3) := by decide +kernel
theorem d_T_eraseBeyondNumber_21 : decode b_T_eraseBeyondNumber 21 = .ok (.iload_n 3, 1) := by decide +kernel
theorem d_T_eraseBeyondNumber_22 : decode b_T_eraseBeyondNumber 22 = .ok (.invokevirtual 125, 3) := by decide +kernel
theorem d_T_eraseBeyondNumber_25 : decode b_T_eraseBeyondNumber 25 = .ok (.astore 4, 2) := by decide +kernel
theorem d_T_eraseBeyondNumber_27 : decode b_T_eraseBeyondNumber 27 = .ok (.aload 4, 2) := by decide +kernel
theorem d_T_eraseBeyondNumber_29 : decode b_T_eraseBeyondNumber 29 = .ok (.ifnull 16, 3) := by decide +kernel
theorem d_T_eraseBeyondNumber_32 : decode b_T_eraseBeyondNumber 32 = .ok (.aload_n 0, 1) := by decide +kernel
theorem d_T_eraseBeyondNumber_33 : decode b_T_eraseBeyondNumber 33 = .ok (.iload_n 1, 1) := by decide +kernel
theorem d_T_eraseBeyondNumber_34 : decode b_T_eraseBeyondNumber 34 = .ok (.iload_n 2, 1) := by decide +kernel
theorem d_T_eraseBeyondNumber_35 : decode b_T_eraseBeyondNumber 35 = .ok (.aload 4, 2) := by decide +kernel
theorem d_T_eraseBeyondNumber_37 : decode b_T_eraseBeyondNumber 37 = .ok (.getfield 182, 3) := by decide +kernel
theorem d_T_eraseBeyondNumber_40 : decode b_T_eraseBeyondNumber 40 = .ok (.iconst 1, 1) := by decide +kernel
theorem d_T_eraseBeyondNumber_41 : decode b_T_eraseBeyondNumber 41 = .ok (.invokevirtual 165, 3) := by decide +kernel
theorem d_T_eraseBeyondNumber_44 : decode b_T_eraseBeyondNumber 44 = .ok (.pop, 1) := by decide +kernel
theorem d_T_eraseBeyondNumber_45 : decode b_T_eraseBeyondNumber 45 = .ok (.return_, 1) := by decide +kernel
theorem d_T_get_0 : decode b_T_get 0 = .ok (.iload_n 1, 1) := by decide +kernel
theorem d_T_get_1 : decode b_T_get 1 = .ok (.invokestatic 70, 3) := by decide +kernel
theorem d_T_get_4 : decode b_T_get 4 = .ok (.ifCond .eq 10, 3) := by decide +kernel
theorem d_T_get_7 : decode b_T_get 7 = .ok (.iload_n 2, 1) := by decide +kernel
theorem d_T_get_8 : decode b_T_get 8 = .ok (.invokestatic 74, 3) := by decide +kernel
theorem d_T_get_11 : decode b_T_get 11 = .ok (.ifCond .ne 7, 3) := by decide +kernel
theorem d_T_get_14 : decode b_T_get 14 = .ok (.ldc2_w 185, 3) := by decide +kernel
theorem d_T_get_17 : decode b_T_get 17 = .ok (.lreturn, 1) := by decide +kernel
theorem d_T_get_18 : decode b_T_get 18 = .ok (.aload_n 0, 1) := by decide +kernel
theorem d_T_get_19 : decode b_T_get 19 = .ok (.iload_n 1, 1) := by decide +kernel
theorem d_T_get_20 : decode b_T_get 20 = .ok (.invokevirtual 187, 3) := by decide +kernel
theorem d_T_get_23 : decode b_T_get 23 = .ok (.aload_n 0, 1) := by decide +kernel
theorem d_T_get_24 : decode b_T_get 24 = .ok (.iload_n 1, 1) := by decide +kernel
theorem d_T_get_25 : decode b_T_get 25 = .ok (.iload_n 2, 1) := by decide +kernel
theorem d_T_get_26 : decode b_T_get 26 = .ok (.iload_n 3, 1) := by decide +kernel
theorem d_T_get_27 : decode b_T_get 27 = .ok (.iload 4, 2) := by decide +kernel
theorem d_T_get_29 : decode b_T_get 29 = .ok (.invokevirtual 125, 3) := by decide +kernel
theorem d_T_get_32 : decode b_T_get 32 = .ok (.astore 5, 2) := by decide +kernel
theorem d_T_get_34 : decode b_T_get 34 = .ok (.aload 5, 2) := by decide +kernel
theorem d_T_get_36 : decode b_T_get 36 = .ok (.ifnonnull 9, 3) := by decide +kernel
theorem d_T_get_39 : decode b_T_get 39 = .ok (.ldc2_w 185, 3) := by decide +kernel
theorem d_T_get_42 : decode b_T_get 42 = .ok (.goto 16, 3) := by decide +kernel
theorem d_T_get_45 : decode b_T_get 45 = .ok (.aload 5, 2) := by decide +kernel
theorem d_T_get_47 : decode b_T_get 47 = .ok (.getfield 182, 3) := by decide +kernel
theorem d_T_get_50 : decode b_T_get 50 = .ok (.aload 5, 2) := by decide +kernel
theorem d_T_get_52 : decode b_T_get 52 = .ok (.getfield 132, 3) := by decide +kernel
theorem d_T_get_55 : decode b_T_get 55 = .ok (.invokestatic 190, 3) := by decide +kernel
theorem d_T_get_58 : decode b_T_get 58 = .ok (.lreturn, 1) := by decide +kernel
theorem d_T_scan_0 : decode b_T_scan 0 = .ok (.iload_n 3, 1) := by decide +kernel
theorem d_T_scan_1 : decode b_T_scan 1 = .ok (.iconst (-1), 1) := by decide +kernel
theorem d_T_scan_2 : decode b_T_scan 2 = .ok (.if_icmp .eq 12, 3) := by decide +kernel
theorem d_T_scan_5 : decode b_T_scan 5 = .ok (.iload_n 3, 1) := by decide +kernel
theorem d_T_scan_6 : decode b_T_scan 6 = .ok (.invokestatic 74, 3) := by decide +kernel
theorem d_T_scan_9 : decode b_T_scan 9 = .ok (.ifCond .ne 5, 3) := by decide +kernel
theorem d_T_scan_12 : decode b_T_scan 12 = .ok (.iconst (-1), 1) := by decide +kernel
theorem d_T_scan_13 : decode b_T_scan 13 = .ok (.ireturn, 1) := by decide +kernel
theorem d_T_scan_14 : decode b_T_scan 14 = .ok (.iload_n 1, 1) := by decide +kernel
theorem d_T_scan_15 : decode b_T_scan 15 = .ok (.iconst 0, 1) := by decide +kernel
theorem d_T_scan_16 : decode b_T_scan 16 = .ok (.invokestatic 194, 3) := by decide +kernel
theorem d_T_scan_19 : decode b_T_scan 19 = .ok (.istore 6, 2) := by decide +kernel
theorem d_T_scan_21 : decode b_T_scan 21 = .ok (.iload_n 2, 1) := by decide +kernel
theorem d_T_scan_22 : decode b_T_scan 22 = .ok (.bipush 63, 2) := by decide +kernel
theorem d_T_scan_24 : decode b_T_scan 24 = .ok (.invokestatic 199, 3) := by decide +kernel
theorem d_T_scan_27 : decode b_T_scan 27 = .ok (.istore 7, 2) := by decide +kernel
theorem d_T_scan_29 : decode b_T_scan 29 = .ok (.iload 6, 2) := by decide +kernel
theorem d_T_scan_31 : decode b_T_scan 31 = .ok (.istore 8, 2) := by decide +kernel
theorem d_T_scan_33 : decode b_T_scan 33 = .ok (.iload 8, 2) := by decide +kernel
theorem d_T_scan_35 : decode b_T_scan 35 = .ok (.iload 7, 2) := by decide +kernel
theorem d_T_scan_37 : decode b_T_scan 37 = .ok (.if_icmp .gt 15, 3) := by decide +kernel
theorem d_T_scan_40 : decode b_T_scan 40 = .ok (.aload_n 0, 1) := by decide +kernel
theorem d_T_scan_41 : decode b_T_scan 41 = .ok (.iload 8, 2) := by decide +kernel
theorem d_T_scan_43 : decode b_T_scan 43 = .ok (.invokevirtual 187, 3) := by decide +kernel
theorem d_T_scan_46 : decode b_T_scan 46 = .ok (.iinc 8 1, 3) := by decide +kernel
theorem d_T_scan_49 : decode b_T_scan 49 = .ok (.goto (-16), 3) := by decide +kernel
theorem d_T_scan_52 : decode b_T_scan 52 = .ok (.aload_n 0, 1) := by decide +kernel
theorem d_T_scan_53 : decode b_T_scan 53 = .ok (.iconst 0, 1) := by decide +kernel
theorem d_T_scan_54 : decode b_T_scan 54 = .ok (.putfield 53, 3) := by decide +kernel
theorem d_T_scan_57 : decode b_T_scan 57 = .ok (.iconst 0, 1) := by decide +kernel
theorem d_T_scan_58 : decode b_T_scan 58 = .ok (.istore 8, 2) := by decide +kernel
theorem d_T_scan_60 : decode b_T_scan 60 = .ok (.iload 8, 2) := by decide +kernel
theorem d_T_scan_62 : decode b_T_scan 62 = .ok (.aload_n 0, 1) := by decide +kernel
theorem d_T_scan_63 : decode b_T_scan 63 = .ok (.getfield 26, 3) := by decide +kernel
theorem d_T_scan_66 : decode b_T_scan 66 = .ok (.if_icmp .ge 99, 3) := by decide +kernel
theorem d_T_scan_69 : decode b_T_scan 69 = .ok (.aload_n 0, 1) := by decide +kernel
theorem d_T_scan_70 : decode b_T_scan 70 = .ok (.getfield 22, 3) := by decide +kernel
theorem d_T_scan_73 : decode b_T_scan 73 = .ok (.iload 8, 2) := by decide +kernel
theorem d_T_scan_75 : decode b_T_scan 75 = .ok (.aaload, 1) := by decide +kernel
theorem d_T_scan_76 : decode b_T_scan 76 = .ok (.astore 9, 2) := by decide +kernel
theorem d_T_scan_78 : decode b_T_scan 78 = .ok (.aload 9, 2) := by decide +kernel
theorem d_T_scan_80 : decode b_T_scan 80 = .ok (.getfield 202, 3) := by decide +kernel
theorem d_T_scan_83 : decode b_T_scan 83 = .ok (.iload 6, 2) := by decide +kernel
theorem d_T_scan_85 : decode b_T_scan 85 = .ok (.if_icmp .lt 37, 3) := by decide +kernel
theorem d_T_scan_88 : decode b_T_scan 88 = .ok (.aload 9, 2) := by decide +kernel
theorem d_T_scan_90 : decode b_T_scan 90 = .ok (.getfield 202, 3) := by decide +kernel
theorem d_T_scan_93 : decode b_T_scan 93 = .ok (.iload 7, 2) := by decide +kernel
theorem d_T_scan_95 : decode b_T_scan 95 = .ok (.if_icmp .gt 27, 3) := by decide +kernel
theorem d_T_scan_98 : decode b_T_scan 98 = .ok (.aload 9, 2) := by decide +kernel
theorem d_T_scan_100 : decode b_T_scan 100 = .ok (.getfield 182, 3) := by decide +kernel
theorem d_T_scan_103 : decode b_T_scan 103 = .ok (.iload 4, 2) := by decide +kernel
theorem d_T_scan_105 : decode b_T_scan 105 = .ok (.if_icmp .lt 17, 3) := by decide +kernel
theorem d_T_scan_108 : decode b_T_scan 108 = .ok (.aload 9, 2) := by decide +kernel
theorem d_T_scan_110 : decode b_T_scan 110 = .ok (.getfield 182, 3) := by decide +kernel
theorem d_T_scan_113 : decode b_T_scan 113 = .ok (.iload 5, 2) := by decide +kernel
theorem d_T_scan_115 : decode b_T_scan 115 = .ok (.if_icmp .gt 7, 3) := by decide +kernel
theorem d_T_scan_118 : decode b_T_scan 118 = .ok (.iconst 1, 1) := by decide +kernel
theorem d_T_scan_119 : decode b_T_scan 119 = .ok (.goto 4, 3) := by decide +kernel
theorem d_T_scan_122 : decode b_T_scan 122 = .ok (.iconst 0, 1) := by decide +kernel
theorem d_T_scan_123 : decode b_T_scan 123 = .ok (.istore 10, 2) := by decide +kernel
theorem d_T_scan_125 : decode b_T_scan 125 = .ok (.iload 10, 2) := by decide +kernel
theorem d_T_scan_127 : decode b_T_scan 127 = .ok (.ifCond .eq 32, 3) := by decide +kernel
theorem d_T_scan_130 : decode b_T_scan 130 = .ok (.iload_n 3, 1) := by decide +kernel
theorem d_T_scan_131 : decode b_T_scan 131 = .ok (.iconst (-1), 1) := by decide +kernel
theorem d_T_scan_132 : decode b_T_scan 132 = .ok (.if_icmp .eq 12, 3) := by decide +kernel
theorem d_T_scan_135 : decode b_T_scan 135 = .ok (.aload 9, 2) := by decide +kernel
theorem d_T_scan_137 : decode b_T_scan 137 = .ok (.getfield 203, 3) := by decide +kernel
theorem d_T_scan_140 : decode b_T_scan 140 = .ok (.iload_n 3, 1) := by decide +kernel
theorem d_T_scan_141 : decode b_T_scan 141 = .ok (.if_icmp .ne 18, 3) := by decide +kernel
theorem d_T_scan_144 : decode b_T_scan 144 = .ok (.aload_n 0, 1) := by decide +kernel
theorem d_T_scan_145 : decode b_T_scan 145 = .ok (.aload 9, 2) := by decide +kernel
theorem d_T_scan_147 : decode b_T_scan 147 = .ok (.invokevirtual 206, 3) := by decide +kernel
theorem d_T_scan_150 : decode b_T_scan 150 = .ok (.ifCond .eq 9, 3) := by decide +kernel
theorem d_T_scan_153 : decode b_T_scan 153 = .ok (.aload_n 0, 1) := by decide +kernel
theorem d_T_scan_154 : decode b_T_scan 154 = .ok (.aload 9, 2) := by decide +kernel
theorem d_T_scan_156 : decode b_T_scan 156 = .ok (.invokevirtual 210, 3) := by decide +kernel
theorem d_T_scan_159 : decode b_T_scan 159 = .ok (.iinc 8 1, 3) := by decide +kernel
theorem d_T_scan_162 : decode b_T_scan 162 = .ok (.goto (-102), 3) := by decide +kernel
theorem d_T_scan_165 : decode b_T_scan 165 = .ok (.aload_n 0, 1) := by decide +kernel
theorem d_T_scan_166 : decode b_T_scan 166 = .ok (.getfield 53, 3) := by decide +kernel
theorem d_T_scan_169 : decode b_T_scan 169 = .ok (.ireturn, 1) := by decide +kernel
theorem d_T_found_0 : decode b_T_found 0 = .ok (.iload_n 1, 1) := by decide +kernel
theorem d_T_found_1 : decode b_T_found 1 = .ok (.ifCond .lt 20, 3) := by decide +kernel
theorem d_T_found_4 : decode b_T_found 4 = .ok (.iload_n 1, 1) := by decide +kernel
theorem d_T_found_5 : decode b_T_found 5 = .ok (.aload_n 0, 1) := by decide +kernel
theorem d_T_found_6 : decode b_T_found 6 = .ok (.getfield 53, 3) := by decide +kernel
theorem d_T_found_9 : decode b_T_found 9 = .ok (.if_icmp .ge 12, 3) := by decide +kernel
theorem d_T_found_12 : decode b_T_found 12 = .ok (.aload_n 0, 1) := by decide +kernel
theorem d_T_found_13 : decode b_T_found 13 = .ok (.getfield 49, 3) := by decide +kernel
theorem d_T_found_16 : decode b_T_found 16 = .ok (.iload_n 1, 1) := by decide +kernel
theorem d_T_found_17 : decode b_T_found 17 = .ok (.laload, 1) := by decide +kernel
theorem d_T_found_18 : decode b_T_found 18 = .ok (.goto 6, 3) := by decide +kernel
theorem d_T_found_21 : decode b_T_found 21 = .ok (.ldc2_w 185, 3) := by decide +kernel
theorem d_T_found_24 : decode b_T_found 24 = .ok (.lreturn, 1) := by decide +kernel
theorem d_T_looked_0 : decode b_T_looked 0 = .ok (.aload_n 0, 1) := by decide +kernel
theorem d_T_looked_1 : decode b_T_looked 1 = .ok (.getfield 63, 3) := by decide +kernel
theorem d_T_looked_4 : decode b_T_looked 4 = .ok (.ireturn, 1) := by decide +kernel
theorem d_T_addToResult_0 : decode b_T_addToResult 0 = .ok (.aload_n 0, 1) := by decide +kernel
theorem d_T_addToResult_1 : decode b_T_addToResult 1 = .ok (.getfield 53, 3) := by decide +kernel
theorem d_T_addToResult_4 : decode b_T_addToResult 4 = .ok (.aload_n 0, 1) := by decide +kernel
theorem d_T_addToResult_5 : decode b_T_addToResult 5 = .ok (.getfield 49, 3) := by decide +kernel
theorem d_T_addToResult_8 : decode b_T_addToResult 8 = .ok (.arraylength, 1) := by decide +kernel
theorem d_T_addToResult_9 : decode b_T_addToResult 9 = .ok (.if_icmp .ge 50, 3) := by decide +kernel
theorem d_T_addToResult_12 : decode b_T_addToResult 12 = .ok (.aload_n 0, 1) := by decide +kernel
theorem d_T_addToResult_13 : decode b_T_addToResult 13 = .ok (.getfield 49, 3) := by decide +kernel
theorem d_T_addToResult_16 : decode b_T_addToResult 16 = .ok (.aload_n 0, 1) := by decide +kernel
theorem d_T_addToResult_17 : decode b_T_addToResult 17 = .ok (.getfield 53, 3) := by decide +kernel
theorem d_T_addToResult_20 : decode b_T_addToResult 20 = .ok (.aload_n 1, 1) := by decide +kernel
theorem d_T_addToResult_21 : decode b_T_addToResult 21 = .ok (.getfield 202, 3) := by decide +kernel
theorem d_T_addToResult_24 : decode b_T_addToResult 24 = .ok (.bipush 8, 2) := by decide +kernel
theorem d_T_addToResult_26 : decode b_T_addToResult 26 = .ok (.imul, 1) := by decide +kernel
theorem d_T_addToResult_27 : decode b_T_addToResult 27 = .ok (.aload_n 1, 1) := by decide +kernel
theorem d_T_addToResult_28 : decode b_T_addToResult 28 = .ok (.getfield 203, 3) := by decide +kernel
theorem d_T_addToResult_31 : decode b_T_addToResult 31 = .ok (.iadd, 1) := by decide +kernel
theorem d_T_addToResult_32 : decode b_T_addToResult 32 = .ok (.sipush 10000, 3) := by decide +kernel
theorem d_T_addToResult_35 : decode b_T_addToResult 35 = .ok (.imul, 1) := by decide +kernel
theorem d_T_addToResult_36 : decode b_T_addToResult 36 = .ok (.aload_n 1, 1) := by decide +kernel
theorem d_T_addToResult_37 : decode b_T_addToResult 37 = .ok (.getfield 182, 3) := by decide +kernel
theorem d_T_addToResult_40 : decode b_T_addToResult 40 = .ok (.iadd, 1) := by decide +kernel
theorem d_T_addToResult_41 : decode b_T_addToResult 41 = .ok (.aload_n 1, 1) := by decide +kernel
theorem d_T_addToResult_42 : decode b_T_addToResult 42 = .ok (.getfield 132, 3) := by decide +kernel
theorem d_T_addToResult_45 : decode b_T_addToResult 45 = .ok (.invokestatic 190, 3) := by decide +kernel
theorem d_T_addToResult_48 : decode b_T_addToResult 48 = .ok (.lastore, 1) := by decide +kernel
theorem d_T_addToResult_49 : decode b_T_addToResult 49 = .ok (.aload_n 0, 1) := by decide +kernel
theorem d_T_addToResult_50 : decode b_T_addToResult 50 = .ok (.dup, 1) := by decide +kernel
theorem d_T_addToResult_51 : decode b_T_addToResult 51 = .ok (.getfield 53, 3) := by decide +kernel
theorem d_T_addToResult_54 : decode b_T_addToResult 54 = .ok (.iconst 1, 1) := by decide +kernel
theorem d_T_addToResult_55 : decode b_T_addToResult 55 = .ok (.iadd, 1) := by decide +kernel
theorem d_T_addToResult_56 : decode b_T_addToResult 56 = .ok (.putfield 53, 3) := by decide +kernel
theorem d_T_addToResult_59 : decode b_T_addToResult 59 = .ok (.return_, 1) := by decide +kernel
theorem d_T_liveCell_0 : decode b_T_liveCell 0 = .ok (.iconst 0, 1) := by decide +kernel
theorem d_T_liveCell_1 : decode b_T_liveCell 1 = .ok (.istore 5, 2) := by decide +kernel
theorem d_T_liveCell_3 : decode b_T_liveCell 3 = .ok (.aload_n 0, 1) := by decide +kernel
theorem d_T_liveCell_4 : decode b_T_liveCell 4 = .ok (.iload_n 1, 1) := by decide +kernel
theorem d_T_liveCell_5 : decode b_T_liveCell 5 = .ok (.invokevirtual 214, 3) := by decide +kernel
theorem d_T_liveCell_8 : decode b_T_liveCell 8 = .ok (.istore 6, 2) := by decide +kernel
theorem d_T_liveCell_10 : decode b_T_liveCell 10 = .ok (.iload 6, 2) := by decide +kernel
theorem d_T_liveCell_12 : decode b_T_liveCell 12 = .ok (.aload_n 0, 1) := by decide +kernel
theorem d_T_liveCell_13 : decode b_T_liveCell 13 = .ok (.getfield 26, 3) := by decide +kernel
theorem d_T_liveCell_16 : decode b_T_liveCell 16 = .ok (.if_icmp .ge 72, 3) := by decide +kernel
theorem d_T_liveCell_19 : decode b_T_liveCell 19 = .ok (.aload_n 0, 1) := by decide +kernel
theorem d_T_liveCell_20 : decode b_T_liveCell 20 = .ok (.getfield 22, 3) := by decide +kernel
theorem d_T_liveCell_23 : decode b_T_liveCell 23 = .ok (.iload 6, 2) := by decide +kernel
theorem d_T_liveCell_25 : decode b_T_liveCell 25 = .ok (.aaload, 1) := by decide +kernel
theorem d_T_liveCell_26 : decode b_T_liveCell 26 = .ok (.getfield 202, 3) := by decide +kernel
theorem d_T_liveCell_29 : decode b_T_liveCell 29 = .ok (.iload_n 1, 1) := by decide +kernel
theorem d_T_liveCell_30 : decode b_T_liveCell 30 = .ok (.if_icmp .ne 58, 3) := by decide +kernel
theorem d_T_liveCell_33 : decode b_T_liveCell 33 = .ok (.aload_n 0, 1) := by decide +kernel
theorem d_T_liveCell_34 : decode b_T_liveCell 34 = .ok (.getfield 22, 3) := by decide +kernel
theorem d_T_liveCell_37 : decode b_T_liveCell 37 = .ok (.iload 6, 2) := by decide +kernel
theorem d_T_liveCell_39 : decode b_T_liveCell 39 = .ok (.aaload, 1) := by decide +kernel
theorem d_T_liveCell_40 : decode b_T_liveCell 40 = .ok (.astore 7, 2) := by decide +kernel
theorem d_T_liveCell_42 : decode b_T_liveCell 42 = .ok (.aload 7, 2) := by decide +kernel
theorem d_T_liveCell_44 : decode b_T_liveCell 44 = .ok (.getfield 203, 3) := by decide +kernel
theorem d_T_liveCell_47 : decode b_T_liveCell 47 = .ok (.iload_n 2, 1) := by decide +kernel
theorem d_T_liveCell_48 : decode b_T_liveCell 48 = .ok (.if_icmp .ne 34, 3) := by decide +kernel
theorem d_T_liveCell_51 : decode b_T_liveCell 51 = .ok (.aload 7, 2) := by decide +kernel
theorem d_T_liveCell_53 : decode b_T_liveCell 53 = .ok (.getfield 182, 3) := by decide +kernel
theorem d_T_liveCell_56 : decode b_T_liveCell 56 = .ok (.iload_n 3, 1) := by decide +kernel
theorem d_T_liveCell_57 : decode b_T_liveCell 57 = .ok (.if_icmp .gt 25, 3) := by decide +kernel
theorem d_T_liveCell_60 : decode b_T_liveCell 60 = .ok (.aload_n 0, 1) := by decide +kernel
theorem d_T_liveCell_61 : decode b_T_liveCell 61 = .ok (.aload 7, 2) := by decide +kernel
theorem d_T_liveCell_63 : decode b_T_liveCell 63 = .ok (.invokevirtual 206, 3) := by decide +kernel
theorem d_T_liveCell_66 : decode b_T_liveCell 66 = .ok (.ifCond .eq 16, 3) := by decide +kernel
theorem d_T_liveCell_69 : decode b_T_liveCell 69 = .ok (.iload 5, 2) := by decide +kernel
theorem d_T_liveCell_71 : decode b_T_liveCell 71 = .ok (.iload 4, 2) := by decide +kernel
theorem d_T_liveCell_73 : decode b_T_liveCell 73 = .ok (.if_icmp .ne 6, 3) := by decide +kernel
theorem d_T_liveCell_76 : decode b_T_liveCell 76 = .ok (.aload 7, 2) := by decide +kernel
theorem d_T_liveCell_78 : decode b_T_liveCell 78 = .ok (.areturn, 1) := by decide +kernel
theorem d_T_liveCell_79 : decode b_T_liveCell 79 = .ok (.iinc 5 1, 3) := by decide +kernel
theorem d_T_liveCell_82 : decode b_T_liveCell 82 = .ok (.iinc 6 1, 3) := by decide +kernel
theorem d_T_liveCell_85 : decode b_T_liveCell 85 = .ok (.goto (-75), 3) := by decide +kernel
theorem d_T_liveCell_88 : decode b_T_liveCell 88 = .ok (.aconst_null, 1) := by decide +kernel
theorem d_T_liveCell_89 : decode b_T_liveCell 89 = .ok (.areturn, 1) := by decide +kernel
theorem d_T_lookFor_0 : decode b_T_lookFor 0 = .ok (.aload_n 0, 1) := by decide +kernel
theorem d_T_lookFor_1 : decode b_T_lookFor 1 = .ok (.iload_n 1, 1) := by decide +kernel
theorem d_T_lookFor_2 : decode b_T_lookFor 2 = .ok (.invokevirtual 145, 3) := by decide +kernel
theorem d_T_lookFor_5 : decode b_T_lookFor 5 = .ok (.istore_n 2, 1) := by decide +kernel
theorem d_T_lookFor_6 : decode b_T_lookFor 6 = .ok (.aload_n 0, 1) := by decide +kernel
theorem d_T_lookFor_7 : decode b_T_lookFor 7 = .ok (.iload_n 2, 1) := by decide +kernel
theorem d_T_lookFor_8 : decode b_T_lookFor 8 = .ok (.invokevirtual 217, 3) := by decide +kernel
theorem d_T_lookFor_11 : decode b_T_lookFor 11 = .ok (.istore_n 3, 1) := by decide +kernel
theorem d_T_lookFor_12 : decode b_T_lookFor 12 = .ok (.aload_n 0, 1) := by decide +kernel
theorem d_T_lookFor_13 : decode b_T_lookFor 13 = .ok (.getfield 59, 3) := by decide +kernel
theorem d_T_lookFor_16 : decode b_T_lookFor 16 = .ok (.iload_n 1, 1) := by decide +kernel
theorem d_T_lookFor_17 : decode b_T_lookFor 17 = .ok (.invokevirtual 220, 3) := by decide +kernel
theorem d_T_lookFor_20 : decode b_T_lookFor 20 = .ok (.aload_n 0, 1) := by decide +kernel
theorem d_T_lookFor_21 : decode b_T_lookFor 21 = .ok (.iload_n 2, 1) := by decide +kernel
theorem d_T_lookFor_22 : decode b_T_lookFor 22 = .ok (.invokevirtual 223, 3) := by decide +kernel
theorem d_T_lookFor_25 : decode b_T_lookFor 25 = .ok (.istore 4, 2) := by decide +kernel
theorem d_T_lookFor_27 : decode b_T_lookFor 27 = .ok (.iload 4, 2) := by decide +kernel
theorem d_T_lookFor_29 : decode b_T_lookFor 29 = .ok (.iload_n 3, 1) := by decide +kernel
theorem d_T_lookFor_30 : decode b_T_lookFor 30 = .ok (.if_icmp .ge 50, 3) := by decide +kernel
theorem d_T_lookFor_33 : decode b_T_lookFor 33 = .ok (.aload_n 0, 1) := by decide +kernel
theorem d_T_lookFor_34 : decode b_T_lookFor 34 = .ok (.getfield 22, 3) := by decide +kernel
theorem d_T_lookFor_37 : decode b_T_lookFor 37 = .ok (.iload 4, 2) := by decide +kernel
theorem d_T_lookFor_39 : decode b_T_lookFor 39 = .ok (.aaload, 1) := by decide +kernel
theorem d_T_lookFor_40 : decode b_T_lookFor 40 = .ok (.getfield 226, 3) := by decide +kernel
theorem d_T_lookFor_43 : decode b_T_lookFor 43 = .ok (.iconst (-1), 1) := by decide +kernel
theorem d_T_lookFor_44 : decode b_T_lookFor 44 = .ok (.if_icmp .eq 30, 3) := by decide +kernel
theorem d_T_lookFor_47 : decode b_T_lookFor 47 = .ok (.aload_n 0, 1) := by decide +kernel
theorem d_T_lookFor_48 : decode b_T_lookFor 48 = .ok (.getfield 59, 3) := by decide +kernel
theorem d_T_lookFor_51 : decode b_T_lookFor 51 = .ok (.aload_n 0, 1) := by decide +kernel
theorem d_T_lookFor_52 : decode b_T_lookFor 52 = .ok (.getfield 22, 3) := by decide +kernel
theorem d_T_lookFor_55 : decode b_T_lookFor 55 = .ok (.iload 4, 2) := by decide +kernel
theorem d_T_lookFor_57 : decode b_T_lookFor 57 = .ok (.aaload, 1) := by decide +kernel
theorem d_T_lookFor_58 : decode b_T_lookFor 58 = .ok (.getfield 226, 3) := by decide +kernel
theorem d_T_lookFor_61 : decode b_T_lookFor 61 = .ok (.aload_n 0, 1) := by decide +kernel
theorem d_T_lookFor_62 : decode b_T_lookFor 62 = .ok (.getfield 22, 3) := by decide +kernel
theorem d_T_lookFor_65 : decode b_T_lookFor 65 = .ok (.iload 4, 2) := by decide +kernel
theorem d_T_lookFor_67 : decode b_T_lookFor 67 = .ok (.aaload, 1) := by decide +kernel
theorem d_T_lookFor_68 : decode b_T_lookFor 68 = .ok (.getfield 202, 3) := by decide +kernel
theorem d_T_lookFor_71 : decode b_T_lookFor 71 = .ok (.invokevirtual 229, 3) := by decide +kernel
theorem d_T_lookFor_74 : decode b_T_lookFor 74 = .ok (.iinc 4 1, 3) := by decide +kernel
theorem d_T_lookFor_77 : decode b_T_lookFor 77 = .ok (.goto (-50), 3) := by decide +kernel
theorem d_T_lookFor_80 : decode b_T_lookFor 80 = .ok (.aload_n 0, 1) := by decide +kernel
theorem d_T_lookFor_81 : decode b_T_lookFor 81 = .ok (.dup, 1) := by decide +kernel
theorem d_T_lookFor_82 : decode b_T_lookFor 82 = .ok (.getfield 63, 3) := by decide +kernel
theorem d_T_lookFor_85 : decode b_T_lookFor 85 = .ok (.aload_n 0, 1) := by decide +kernel
theorem d_T_lookFor_86 : decode b_T_lookFor 86 = .ok (.getfield 59, 3) := by decide +kernel
theorem d_T_lookFor_89 : decode b_T_lookFor 89 = .ok (.invokevirtual 232, 3) := by decide +kernel
theorem d_T_lookFor_92 : decode b_T_lookFor 92 = .ok (.iadd, 1) := by decide +kernel
theorem d_T_lookFor_93 : decode b_T_lookFor 93 = .ok (.putfield 63, 3) := by decide +kernel
theorem d_T_lookFor_96 : decode b_T_lookFor 96 = .ok (.return_, 1) := by decide +kernel
theorem d_T_flush_0 : decode b_T_flush 0 = .ok (.aload_n 0, 1) := by decide +kernel
theorem d_T_flush_1 : decode b_T_flush 1 = .ok (.iload_n 1, 1) := by decide +kernel
theorem d_T_flush_2 : decode b_T_flush 2 = .ok (.invokevirtual 235, 3) := by decide +kernel
theorem d_T_flush_5 : decode b_T_flush 5 = .ok (.ifCond .eq 11, 3) := by decide +kernel
theorem d_T_flush_8 : decode b_T_flush 8 = .ok (.aload_n 0, 1) := by decide +kernel
theorem d_T_flush_9 : decode b_T_flush 9 = .ok (.iload_n 1, 1) := by decide +kernel
theorem d_T_flush_10 : decode b_T_flush 10 = .ok (.invokevirtual 152, 3) := by decide +kernel
theorem d_T_flush_13 : decode b_T_flush 13 = .ok (.goto 4, 3) := by decide +kernel
theorem d_T_flush_16 : decode b_T_flush 16 = .ok (.iconst (-1), 1) := by decide +kernel
theorem d_T_flush_17 : decode b_T_flush 17 = .ok (.ireturn, 1) := by decide +kernel
theorem d_T_compact_0 : decode b_T_compact 0 = .ok (.aload_n 0, 1) := by decide +kernel
theorem d_T_compact_1 : decode b_T_compact 1 = .ok (.iload_n 1, 1) := by decide +kernel
theorem d_T_compact_2 : decode b_T_compact 2 = .ok (.invokevirtual 235, 3) := by decide +kernel
theorem d_T_compact_5 : decode b_T_compact 5 = .ok (.ifCond .eq 17, 3) := by decide +kernel
theorem d_T_compact_8 : decode b_T_compact 8 = .ok (.iload_n 2, 1) := by decide +kernel
theorem d_T_compact_9 : decode b_T_compact 9 = .ok (.iconst 2, 1) := by decide +kernel
theorem d_T_compact_10 : decode b_T_compact 10 = .ok (.if_icmp .lt 12, 3) := by decide +kernel
theorem d_T_compact_13 : decode b_T_compact 13 = .ok (.iload_n 2, 1) := by decide +kernel
theorem d_T_compact_14 : decode b_T_compact 14 = .ok (.aload_n 0, 1) := by decide +kernel
theorem d_T_compact_15 : decode b_T_compact 15 = .ok (.iload_n 1, 1) := by decide +kernel
theorem d_T_compact_16 : decode b_T_compact 16 = .ok (.invokevirtual 238, 3) := by decide +kernel
theorem d_T_compact_19 : decode b_T_compact 19 = .ok (.if_icmp .le 5, 3) := by decide +kernel
theorem d_T_compact_22 : decode b_T_compact 22 = .ok (.iconst (-1), 1) := by decide +kernel
theorem d_T_compact_23 : decode b_T_compact 23 = .ok (.ireturn, 1) := by decide +kernel
theorem d_T_compact_24 : decode b_T_compact 24 = .ok (.aload_n 0, 1) := by decide +kernel
theorem d_T_compact_25 : decode b_T_compact 25 = .ok (.iload_n 1, 1) := by decide +kernel
theorem d_T_compact_26 : decode b_T_compact 26 = .ok (.invokevirtual 238, 3) := by decide +kernel
theorem d_T_compact_29 : decode b_T_compact 29 = .ok (.iload_n 2, 1) := by decide +kernel
theorem d_T_compact_30 : decode b_T_compact 30 = .ok (.isub, 1) := by decide +kernel
theorem d_T_compact_31 : decode b_T_compact 31 = .ok (.istore_n 3, 1) := by decide +kernel
theorem d_T_compact_32 : decode b_T_compact 32 = .ok (.aload_n 0, 1) := by decide +kernel
theorem d_T_compact_33 : decode b_T_compact 33 = .ok (.iload_n 1, 1) := by decide +kernel
theorem d_T_compact_34 : decode b_T_compact 34 = .ok (.invokevirtual 217, 3) := by decide +kernel
theorem d_T_compact_37 : decode b_T_compact 37 = .ok (.istore 4, 2) := by decide +kernel
theorem d_T_compact_39 : decode b_T_compact 39 = .ok (.aload_n 0, 1) := by decide +kernel
theorem d_T_compact_40 : decode b_T_compact 40 = .ok (.iload_n 1, 1) := by decide +kernel
theorem d_T_compact_41 : decode b_T_compact 41 = .ok (.invokevirtual 223, 3) := by decide +kernel
theorem d_T_compact_44 : decode b_T_compact 44 = .ok (.istore 5, 2) := by decide +kernel
theorem d_T_compact_46 : decode b_T_compact 46 = .ok (.iload 5, 2) := by decide +kernel
theorem d_T_compact_48 : decode b_T_compact 48 = .ok (.iload 4, 2) := by decide +kernel
theorem d_T_compact_50 : decode b_T_compact 50 = .ok (.if_icmp .ge 56, 3) := by decide +kernel
theorem d_T_compact_53 : decode b_T_compact 53 = .ok (.aload_n 0, 1) := by decide +kernel
theorem d_T_compact_54 : decode b_T_compact 54 = .ok (.getfield 22, 3) := by decide +kernel
theorem d_T_compact_57 : decode b_T_compact 57 = .ok (.iload 5, 2) := by decide +kernel
theorem d_T_compact_59 : decode b_T_compact 59 = .ok (.aaload, 1) := by decide +kernel
theorem d_T_compact_60 : decode b_T_compact 60 = .ok (.astore 6, 2) := by decide +kernel
theorem d_T_compact_62 : decode b_T_compact 62 = .ok (.aload 6, 2) := by decide +kernel
theorem d_T_compact_64 : decode b_T_compact 64 = .ok (.aload 6, 2) := by decide +kernel
theorem d_T_compact_66 : decode b_T_compact 66 = .ok (.getfield 226, 3) := by decide +kernel
theorem d_T_compact_69 : decode b_T_compact 69 = .ok (.iload_n 3, 1) := by decide +kernel
theorem d_T_compact_70 : decode b_T_compact 70 = .ok (.if_icmp .lt 26, 3) := by decide +kernel
theorem d_T_compact_73 : decode b_T_compact 73 = .ok (.aload_n 0, 1) := by decide +kernel
theorem d_T_compact_74 : decode b_T_compact 74 = .ok (.aload 6, 2) := by decide +kernel
theorem d_T_compact_76 : decode b_T_compact 76 = .ok (.invokevirtual 241, 3) := by decide +kernel
theorem d_T_compact_79 : decode b_T_compact 79 = .ok (.ifCond .ne 13, 3) := by decide +kernel
theorem d_T_compact_82 : decode b_T_compact 82 = .ok (.aload_n 0, 1) := by decide +kernel
theorem d_T_compact_83 : decode b_T_compact 83 = .ok (.iload 5, 2) := by decide +kernel
theorem d_T_compact_85 : decode b_T_compact 85 = .ok (.iload_n 3, 1) := by decide +kernel
theorem d_T_compact_86 : decode b_T_compact 86 = .ok (.invokevirtual 244, 3) := by decide +kernel
theorem d_T_compact_89 : decode b_T_compact 89 = .ok (.ifCond .eq 7, 3) := by decide +kernel
theorem d_T_compact_92 : decode b_T_compact 92 = .ok (.iconst 1, 1) := by decide +kernel
theorem d_T_compact_93 : decode b_T_compact 93 = .ok (.goto 4, 3) := by decide +kernel
theorem d_T_compact_96 : decode b_T_compact 96 = .ok (.iconst 0, 1) := by decide +kernel
theorem d_T_compact_97 : decode b_T_compact 97 = .ok (.putfield 247, 3) := by decide +kernel
theorem d_T_compact_100 : decode b_T_compact 100 = .ok (.iinc 5 1, 3) := by decide +kernel
theorem d_T_compact_103 : decode b_T_compact 103 = .ok (.goto (-57), 3) := by decide +kernel
theorem d_T_compact_106 : decode b_T_compact 106 = .ok (.aload_n 0, 1) := by decide +kernel
theorem d_T_compact_107 : decode b_T_compact 107 = .ok (.iload_n 1, 1) := by decide +kernel
theorem d_T_compact_108 : decode b_T_compact 108 = .ok (.iload_n 3, 1) := by decide +kernel
theorem d_T_compact_109 : decode b_T_compact 109 = .ok (.invokevirtual 250, 3) := by decide +kernel
theorem d_T_compact_112 : decode b_T_compact 112 = .ok (.ireturn, 1) := by decide +kernel
theorem d_T_major_0 : decode b_T_major 0 = .ok (.aload_n 0, 1) := by decide +kernel
theorem d_T_major_1 : decode b_T_major 1 = .ok (.iload_n 1, 1) := by decide +kernel
theorem d_T_major_2 : decode b_T_major 2 = .ok (.invokevirtual 235, 3) := by decide +kernel
theorem d_T_major_5 : decode b_T_major 5 = .ok (.ifCond .ne 5, 3) := by decide +kernel
theorem d_T_major_8 : decode b_T_major 8 = .ok (.iconst (-1), 1) := by decide +kernel
theorem d_T_major_9 : decode b_T_major 9 = .ok (.ireturn, 1) := by decide +kernel
theorem d_T_major_10 : decode b_T_major 10 = .ok (.aload_n 0, 1) := by decide +kernel
theorem d_T_major_11 : decode b_T_major 11 = .ok (.iload_n 1, 1) := by decide +kernel
theorem d_T_major_12 : decode b_T_major 12 = .ok (.invokevirtual 152, 3) := by decide +kernel
theorem d_T_major_15 : decode b_T_major 15 = .ok (.pop, 1) := by decide +kernel
theorem d_T_major_16 : decode b_T_major 16 = .ok (.aload_n 0, 1) := by decide +kernel
theorem d_T_major_17 : decode b_T_major 17 = .ok (.iload_n 1, 1) := by decide +kernel
theorem d_T_major_18 : decode b_T_major 18 = .ok (.invokevirtual 217, 3) := by decide +kernel
theorem d_T_major_21 : decode b_T_major 21 = .ok (.istore_n 2, 1) := by decide +kernel
theorem d_T_major_22 : decode b_T_major 22 = .ok (.aload_n 0, 1) := by decide +kernel
theorem d_T_major_23 : decode b_T_major 23 = .ok (.iload_n 1, 1) := by decide +kernel
theorem d_T_major_24 : decode b_T_major 24 = .ok (.invokevirtual 223, 3) := by decide +kernel
theorem d_T_major_27 : decode b_T_major 27 = .ok (.istore_n 3, 1) := by decide +kernel
theorem d_T_major_28 : decode b_T_major 28 = .ok (.iload_n 3, 1) := by decide +kernel
theorem d_T_major_29 : decode b_T_major 29 = .ok (.iload_n 2, 1) := by decide +kernel
theorem d_T_major_30 : decode b_T_major 30 = .ok (.if_icmp .ge 36, 3) := by decide +kernel
theorem d_T_major_33 : decode b_T_major 33 = .ok (.aload_n 0, 1) := by decide +kernel
theorem d_T_major_34 : decode b_T_major 34 = .ok (.getfield 22, 3) := by decide +kernel
theorem d_T_major_37 : decode b_T_major 37 = .ok (.iload_n 3, 1) := by decide +kernel
theorem d_T_major_38 : decode b_T_major 38 = .ok (.aaload, 1) := by decide +kernel
theorem d_T_major_39 : decode b_T_major 39 = .ok (.aload_n 0, 1) := by decide +kernel
theorem d_T_major_40 : decode b_T_major 40 = .ok (.aload_n 0, 1) := by decide +kernel
theorem d_T_major_41 : decode b_T_major 41 = .ok (.getfield 22, 3) := by decide +kernel
theorem d_T_major_44 : decode b_T_major 44 = .ok (.iload_n 3, 1) := by decide +kernel
theorem d_T_major_45 : decode b_T_major 45 = .ok (.aaload, 1) := by decide +kernel
theorem d_T_major_46 : decode b_T_major 46 = .ok (.invokevirtual 206, 3) := by decide +kernel
theorem d_T_major_49 : decode b_T_major 49 = .ok (.ifCond .ne 7, 3) := by decide +kernel
theorem d_T_major_52 : decode b_T_major 52 = .ok (.iconst 1, 1) := by decide +kernel
theorem d_T_major_53 : decode b_T_major 53 = .ok (.goto 4, 3) := by decide +kernel
theorem d_T_major_56 : decode b_T_major 56 = .ok (.iconst 0, 1) := by decide +kernel
theorem d_T_major_57 : decode b_T_major 57 = .ok (.putfield 247, 3) := by decide +kernel
theorem d_T_major_60 : decode b_T_major 60 = .ok (.iinc 3 1, 3) := by decide +kernel
theorem d_T_major_63 : decode b_T_major 63 = .ok (.goto (-35), 3) := by decide +kernel
theorem d_T_major_66 : decode b_T_major 66 = .ok (.aload_n 0, 1) := by decide +kernel
theorem d_T_major_67 : decode b_T_major 67 = .ok (.iload_n 1, 1) := by decide +kernel
theorem d_T_major_68 : decode b_T_major 68 = .ok (.iconst 0, 1) := by decide +kernel
theorem d_T_major_69 : decode b_T_major 69 = .ok (.invokevirtual 250, 3) := by decide +kernel
theorem d_T_major_72 : decode b_T_major 72 = .ok (.ireturn, 1) := by decide +kernel
theorem d_T_table_0 : decode b_T_table 0 = .ok (.aload_n 0, 1) := by decide +kernel
theorem d_T_table_1 : decode b_T_table 1 = .ok (.iload_n 1, 1) := by decide +kernel
theorem d_T_table_2 : decode b_T_table 2 = .ok (.invokevirtual 235, 3) := by decide +kernel
theorem d_T_table_5 : decode b_T_table 5 = .ok (.ifCond .eq 16, 3) := by decide +kernel
theorem d_T_table_8 : decode b_T_table 8 = .ok (.iload_n 2, 1) := by decide +kernel
theorem d_T_table_9 : decode b_T_table 9 = .ok (.ifCond .lt 12, 3) := by decide +kernel
theorem d_T_table_12 : decode b_T_table 12 = .ok (.iload_n 2, 1) := by decide +kernel
theorem d_T_table_13 : decode b_T_table 13 = .ok (.aload_n 0, 1) := by decide +kernel
theorem d_T_table_14 : decode b_T_table 14 = .ok (.iload_n 1, 1) := by decide +kernel
theorem d_T_table_15 : decode b_T_table 15 = .ok (.invokevirtual 238, 3) := by decide +kernel
theorem d_T_table_18 : decode b_T_table 18 = .ok (.if_icmp .lt 5, 3) := by decide +kernel
theorem d_T_table_21 : decode b_T_table 21 = .ok (.iconst (-1), 1) := by decide +kernel
theorem d_T_table_22 : decode b_T_table 22 = .ok (.ireturn, 1) := by decide +kernel
theorem d_T_table_23 : decode b_T_table 23 = .ok (.iload_n 3, 1) := by decide +kernel
theorem d_T_table_24 : decode b_T_table 24 = .ok (.tableswitch 66 0 3 #[32, 39, 46, 59], 32) := by decide +kernel
theorem d_T_table_56 : decode b_T_table 56 = .ok (.aload_n 0, 1) := by decide +kernel
theorem d_T_table_57 : decode b_T_table 57 = .ok (.iload_n 1, 1) := by decide +kernel
theorem d_T_table_58 : decode b_T_table 58 = .ok (.iload_n 2, 1) := by decide +kernel
theorem d_T_table_59 : decode b_T_table 59 = .ok (.invokevirtual 149, 3) := by decide +kernel
theorem d_T_table_62 : decode b_T_table 62 = .ok (.ireturn, 1) := by decide +kernel
theorem d_T_table_63 : decode b_T_table 63 = .ok (.aload_n 0, 1) := by decide +kernel
theorem d_T_table_64 : decode b_T_table 64 = .ok (.iload_n 1, 1) := by decide +kernel
theorem d_T_table_65 : decode b_T_table 65 = .ok (.iload_n 2, 1) := by decide +kernel
theorem d_T_table_66 : decode b_T_table 66 = .ok (.invokevirtual 253, 3) := by decide +kernel
theorem d_T_table_69 : decode b_T_table 69 = .ok (.ireturn, 1) := by decide +kernel
theorem d_T_table_70 : decode b_T_table 70 = .ok (.aload_n 0, 1) := by decide +kernel
theorem d_T_table_71 : decode b_T_table 71 = .ok (.iload_n 1, 1) := by decide +kernel
theorem d_T_table_72 : decode b_T_table 72 = .ok (.iload_n 2, 1) := by decide +kernel
theorem d_T_table_73 : decode b_T_table 73 = .ok (.invokevirtual 149, 3) := by decide +kernel
theorem d_T_table_76 : decode b_T_table 76 = .ok (.iconst 4, 1) := by decide +kernel
theorem d_T_table_77 : decode b_T_table 77 = .ok (.iadd, 1) := by decide +kernel
theorem d_T_table_78 : decode b_T_table 78 = .ok (.iconst 1, 1) := by decide +kernel
theorem d_T_table_79 : decode b_T_table 79 = .ok (.isub, 1) := by decide +kernel
theorem d_T_table_80 : decode b_T_table 80 = .ok (.iconst 4, 1) := by decide +kernel
theorem d_T_table_81 : decode b_T_table 81 = .ok (.idiv, 1) := by decide +kernel
theorem d_T_table_82 : decode b_T_table 82 = .ok (.ireturn, 1) := by decide +kernel
theorem d_T_table_83 : decode b_T_table 83 = .ok (.aload_n 0, 1) := by decide +kernel
theorem d_T_table_84 : decode b_T_table 84 = .ok (.iload_n 1, 1) := by decide +kernel
theorem d_T_table_85 : decode b_T_table 85 = .ok (.iload_n 2, 1) := by decide +kernel
theorem d_T_table_86 : decode b_T_table 86 = .ok (.invokevirtual 256, 3) := by decide +kernel
theorem d_T_table_89 : decode b_T_table 89 = .ok (.ireturn, 1) := by decide +kernel
theorem d_T_table_90 : decode b_T_table 90 = .ok (.iconst (-1), 1) := by decide +kernel
theorem d_T_table_91 : decode b_T_table 91 = .ok (.ireturn, 1) := by decide +kernel
theorem d_T_log_0 : decode b_T_log 0 = .ok (.iconst 0, 1) := by decide +kernel
theorem d_T_log_1 : decode b_T_log 1 = .ok (.istore_n 1, 1) := by decide +kernel
theorem d_T_log_2 : decode b_T_log 2 = .ok (.iconst 0, 1) := by decide +kernel
theorem d_T_log_3 : decode b_T_log 3 = .ok (.istore_n 2, 1) := by decide +kernel
theorem d_T_log_4 : decode b_T_log 4 = .ok (.iload_n 2, 1) := by decide +kernel
theorem d_T_log_5 : decode b_T_log 5 = .ok (.aload_n 0, 1) := by decide +kernel
theorem d_T_log_6 : decode b_T_log 6 = .ok (.getfield 26, 3) := by decide +kernel
theorem d_T_log_9 : decode b_T_log 9 = .ok (.if_icmp .ge 37, 3) := by decide +kernel
theorem d_T_log_12 : decode b_T_log 12 = .ok (.aload_n 0, 1) := by decide +kernel
theorem d_T_log_13 : decode b_T_log 13 = .ok (.getfield 22, 3) := by decide +kernel
theorem d_T_log_16 : decode b_T_log 16 = .ok (.iload_n 2, 1) := by decide +kernel
theorem d_T_log_17 : decode b_T_log 17 = .ok (.aaload, 1) := by decide +kernel
theorem d_T_log_18 : decode b_T_log 18 = .ok (.getfield 226, 3) := by decide +kernel
theorem d_T_log_21 : decode b_T_log 21 = .ok (.iconst (-1), 1) := by decide +kernel
theorem d_T_log_22 : decode b_T_log 22 = .ok (.if_icmp .ne 18, 3) := by decide +kernel
theorem d_T_log_25 : decode b_T_log 25 = .ok (.aload_n 0, 1) := by decide +kernel
theorem d_T_log_26 : decode b_T_log 26 = .ok (.getfield 22, 3) := by decide +kernel
theorem d_T_log_29 : decode b_T_log 29 = .ok (.iload_n 2, 1) := by decide +kernel
theorem d_T_log_30 : decode b_T_log 30 = .ok (.aaload, 1) := by decide +kernel
theorem d_T_log_31 : decode b_T_log 31 = .ok (.getfield 172, 3) := by decide +kernel
theorem d_T_log_34 : decode b_T_log 34 = .ok (.ifCond .eq 6, 3) := by decide +kernel
theorem d_T_log_37 : decode b_T_log 37 = .ok (.iinc 1 1, 3) := by decide +kernel
theorem d_T_log_40 : decode b_T_log 40 = .ok (.iinc 2 1, 3) := by decide +kernel
theorem d_T_log_43 : decode b_T_log 43 = .ok (.goto (-39), 3) := by decide +kernel
theorem d_T_log_46 : decode b_T_log 46 = .ok (.iload_n 1, 1) := by decide +kernel
theorem d_T_log_47 : decode b_T_log 47 = .ok (.ireturn, 1) := by decide +kernel
