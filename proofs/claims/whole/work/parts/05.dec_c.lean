theorem d_M_nearest_0 : decode b_M_nearest 0 = .ok (.iload_n 0, 1) := by decide +kernel
theorem d_M_nearest_1 : decode b_M_nearest 1 = .ok (.ifCond .ge 7, 3) := by decide +kernel
theorem d_M_nearest_4 : decode b_M_nearest 4 = .ok (.iconst 0, 1) := by decide +kernel
theorem d_M_nearest_5 : decode b_M_nearest 5 = .ok (.goto 13, 3) := by decide +kernel
theorem d_M_nearest_8 : decode b_M_nearest 8 = .ok (.iload_n 0, 1) := by decide +kernel
theorem d_M_nearest_9 : decode b_M_nearest 9 = .ok (.iload_n 1, 1) := by decide +kernel
theorem d_M_nearest_10 : decode b_M_nearest 10 = .ok (.if_icmp .le 7, 3) := by decide +kernel
theorem d_M_nearest_13 : decode b_M_nearest 13 = .ok (.iload_n 1, 1) := by decide +kernel
theorem d_M_nearest_14 : decode b_M_nearest 14 = .ok (.goto 4, 3) := by decide +kernel
theorem d_M_nearest_17 : decode b_M_nearest 17 = .ok (.iload_n 0, 1) := by decide +kernel
theorem d_M_nearest_18 : decode b_M_nearest 18 = .ok (.ireturn, 1) := by decide +kernel
theorem d_M_isRow_0 : decode b_M_isRow 0 = .ok (.iload_n 0, 1) := by decide +kernel
theorem d_M_isRow_1 : decode b_M_isRow 1 = .ok (.ifCond .lt 13, 3) := by decide +kernel
theorem d_M_isRow_4 : decode b_M_isRow 4 = .ok (.iload_n 0, 1) := by decide +kernel
theorem d_M_isRow_5 : decode b_M_isRow 5 = .ok (.bipush 63, 2) := by decide +kernel
theorem d_M_isRow_7 : decode b_M_isRow 7 = .ok (.if_icmp .gt 7, 3) := by decide +kernel
theorem d_M_isRow_10 : decode b_M_isRow 10 = .ok (.iconst 1, 1) := by decide +kernel
theorem d_M_isRow_11 : decode b_M_isRow 11 = .ok (.goto 4, 3) := by decide +kernel
theorem d_M_isRow_14 : decode b_M_isRow 14 = .ok (.iconst 0, 1) := by decide +kernel
theorem d_M_isRow_15 : decode b_M_isRow 15 = .ok (.ireturn, 1) := by decide +kernel
theorem d_M_isColumn_0 : decode b_M_isColumn 0 = .ok (.iload_n 0, 1) := by decide +kernel
theorem d_M_isColumn_1 : decode b_M_isColumn 1 = .ok (.ifCond .lt 13, 3) := by decide +kernel
theorem d_M_isColumn_4 : decode b_M_isColumn 4 = .ok (.iload_n 0, 1) := by decide +kernel
theorem d_M_isColumn_5 : decode b_M_isColumn 5 = .ok (.bipush 7, 2) := by decide +kernel
theorem d_M_isColumn_7 : decode b_M_isColumn 7 = .ok (.if_icmp .gt 7, 3) := by decide +kernel
theorem d_M_isColumn_10 : decode b_M_isColumn 10 = .ok (.iconst 1, 1) := by decide +kernel
theorem d_M_isColumn_11 : decode b_M_isColumn 11 = .ok (.goto 4, 3) := by decide +kernel
theorem d_M_isColumn_14 : decode b_M_isColumn 14 = .ok (.iconst 0, 1) := by decide +kernel
theorem d_M_isColumn_15 : decode b_M_isColumn 15 = .ok (.ireturn, 1) := by decide +kernel
theorem d_M_isTime_0 : decode b_M_isTime 0 = .ok (.iload_n 0, 1) := by decide +kernel
theorem d_M_isTime_1 : decode b_M_isTime 1 = .ok (.ifCond .lt 14, 3) := by decide +kernel
theorem d_M_isTime_4 : decode b_M_isTime 4 = .ok (.iload_n 0, 1) := by decide +kernel
theorem d_M_isTime_5 : decode b_M_isTime 5 = .ok (.sipush 9999, 3) := by decide +kernel
theorem d_M_isTime_8 : decode b_M_isTime 8 = .ok (.if_icmp .gt 7, 3) := by decide +kernel
theorem d_M_isTime_11 : decode b_M_isTime 11 = .ok (.iconst 1, 1) := by decide +kernel
theorem d_M_isTime_12 : decode b_M_isTime 12 = .ok (.goto 4, 3) := by decide +kernel
theorem d_M_isTime_15 : decode b_M_isTime 15 = .ok (.iconst 0, 1) := by decide +kernel
theorem d_M_isTime_16 : decode b_M_isTime 16 = .ok (.ireturn, 1) := by decide +kernel
theorem d_M_isTablet_0 : decode b_M_isTablet 0 = .ok (.iload_n 1, 1) := by decide +kernel
theorem d_M_isTablet_1 : decode b_M_isTablet 1 = .ok (.ifCond .lt 15, 3) := by decide +kernel
theorem d_M_isTablet_4 : decode b_M_isTablet 4 = .ok (.iload_n 1, 1) := by decide +kernel
theorem d_M_isTablet_5 : decode b_M_isTablet 5 = .ok (.aload_n 0, 1) := by decide +kernel
theorem d_M_isTablet_6 : decode b_M_isTablet 6 = .ok (.getfield 34, 3) := by decide +kernel
theorem d_M_isTablet_9 : decode b_M_isTablet 9 = .ok (.if_icmp .ge 7, 3) := by decide +kernel
theorem d_M_isTablet_12 : decode b_M_isTablet 12 = .ok (.iconst 1, 1) := by decide +kernel
theorem d_M_isTablet_13 : decode b_M_isTablet 13 = .ok (.goto 4, 3) := by decide +kernel
theorem d_M_isTablet_16 : decode b_M_isTablet 16 = .ok (.iconst 0, 1) := by decide +kernel
theorem d_M_isTablet_17 : decode b_M_isTablet 17 = .ok (.ireturn, 1) := by decide +kernel
theorem d_M_covers_0 : decode b_M_covers 0 = .ok (.iload_n 1, 1) := by decide +kernel
theorem d_M_covers_1 : decode b_M_covers 1 = .ok (.iload_n 2, 1) := by decide +kernel
theorem d_M_covers_2 : decode b_M_covers 2 = .ok (.if_icmp .le 18, 3) := by decide +kernel
theorem d_M_covers_5 : decode b_M_covers 5 = .ok (.aload_n 0, 1) := by decide +kernel
theorem d_M_covers_6 : decode b_M_covers 6 = .ok (.getfield 13, 3) := by decide +kernel
theorem d_M_covers_9 : decode b_M_covers 9 = .ok (.iload_n 1, 1) := by decide +kernel
theorem d_M_covers_10 : decode b_M_covers 10 = .ok (.iaload, 1) := by decide +kernel
theorem d_M_covers_11 : decode b_M_covers 11 = .ok (.aload_n 0, 1) := by decide +kernel
theorem d_M_covers_12 : decode b_M_covers 12 = .ok (.getfield 13, 3) := by decide +kernel
theorem d_M_covers_15 : decode b_M_covers 15 = .ok (.iload_n 2, 1) := by decide +kernel
theorem d_M_covers_16 : decode b_M_covers 16 = .ok (.iaload, 1) := by decide +kernel
theorem d_M_covers_17 : decode b_M_covers 17 = .ok (.if_icmp .eq 5, 3) := by decide +kernel
theorem d_M_covers_20 : decode b_M_covers 20 = .ok (.iconst 0, 1) := by decide +kernel
theorem d_M_covers_21 : decode b_M_covers 21 = .ok (.ireturn, 1) := by decide +kernel
theorem d_M_covers_22 : decode b_M_covers 22 = .ok (.aload_n 0, 1) := by decide +kernel
theorem d_M_covers_23 : decode b_M_covers 23 = .ok (.getfield 7, 3) := by decide +kernel
theorem d_M_covers_26 : decode b_M_covers 26 = .ok (.iload_n 1, 1) := by decide +kernel
theorem d_M_covers_27 : decode b_M_covers 27 = .ok (.iaload, 1) := by decide +kernel
theorem d_M_covers_28 : decode b_M_covers 28 = .ok (.iconst 3, 1) := by decide +kernel
theorem d_M_covers_29 : decode b_M_covers 29 = .ok (.if_icmp .ne 5, 3) := by decide +kernel
theorem d_M_covers_32 : decode b_M_covers 32 = .ok (.iconst 1, 1) := by decide +kernel
theorem d_M_covers_33 : decode b_M_covers 33 = .ok (.ireturn, 1) := by decide +kernel
theorem d_M_covers_34 : decode b_M_covers 34 = .ok (.aload_n 0, 1) := by decide +kernel
theorem d_M_covers_35 : decode b_M_covers 35 = .ok (.getfield 16, 3) := by decide +kernel
theorem d_M_covers_38 : decode b_M_covers 38 = .ok (.iload_n 1, 1) := by decide +kernel
theorem d_M_covers_39 : decode b_M_covers 39 = .ok (.iaload, 1) := by decide +kernel
theorem d_M_covers_40 : decode b_M_covers 40 = .ok (.aload_n 0, 1) := by decide +kernel
theorem d_M_covers_41 : decode b_M_covers 41 = .ok (.getfield 16, 3) := by decide +kernel
theorem d_M_covers_44 : decode b_M_covers 44 = .ok (.iload_n 2, 1) := by decide +kernel
theorem d_M_covers_45 : decode b_M_covers 45 = .ok (.iaload, 1) := by decide +kernel
theorem d_M_covers_46 : decode b_M_covers 46 = .ok (.if_icmp .eq 5, 3) := by decide +kernel
theorem d_M_covers_49 : decode b_M_covers 49 = .ok (.iconst 0, 1) := by decide +kernel
theorem d_M_covers_50 : decode b_M_covers 50 = .ok (.ireturn, 1) := by decide +kernel
theorem d_M_covers_51 : decode b_M_covers 51 = .ok (.aload_n 0, 1) := by decide +kernel
theorem d_M_covers_52 : decode b_M_covers 52 = .ok (.getfield 7, 3) := by decide +kernel
theorem d_M_covers_55 : decode b_M_covers 55 = .ok (.iload_n 1, 1) := by decide +kernel
theorem d_M_covers_56 : decode b_M_covers 56 = .ok (.iaload, 1) := by decide +kernel
theorem d_M_covers_57 : decode b_M_covers 57 = .ok (.iconst 2, 1) := by decide +kernel
theorem d_M_covers_58 : decode b_M_covers 58 = .ok (.if_icmp .ne 21, 3) := by decide +kernel
theorem d_M_covers_61 : decode b_M_covers 61 = .ok (.aload_n 0, 1) := by decide +kernel
theorem d_M_covers_62 : decode b_M_covers 62 = .ok (.getfield 7, 3) := by decide +kernel
theorem d_M_covers_65 : decode b_M_covers 65 = .ok (.iload_n 2, 1) := by decide +kernel
theorem d_M_covers_66 : decode b_M_covers 66 = .ok (.iaload, 1) := by decide +kernel
theorem d_M_covers_67 : decode b_M_covers 67 = .ok (.iconst 3, 1) := by decide +kernel
theorem d_M_covers_68 : decode b_M_covers 68 = .ok (.if_icmp .eq 7, 3) := by decide +kernel
theorem d_M_covers_71 : decode b_M_covers 71 = .ok (.iconst 1, 1) := by decide +kernel
theorem d_M_covers_72 : decode b_M_covers 72 = .ok (.goto 37, 3) := by decide +kernel
theorem d_M_covers_75 : decode b_M_covers 75 = .ok (.iconst 0, 1) := by decide +kernel
theorem d_M_covers_76 : decode b_M_covers 76 = .ok (.goto 33, 3) := by decide +kernel
theorem d_M_covers_79 : decode b_M_covers 79 = .ok (.aload_n 0, 1) := by decide +kernel
theorem d_M_covers_80 : decode b_M_covers 80 = .ok (.getfield 7, 3) := by decide +kernel
theorem d_M_covers_83 : decode b_M_covers 83 = .ok (.iload_n 2, 1) := by decide +kernel
theorem d_M_covers_84 : decode b_M_covers 84 = .ok (.iaload, 1) := by decide +kernel
theorem d_M_covers_85 : decode b_M_covers 85 = .ok (.iconst 1, 1) := by decide +kernel
theorem d_M_covers_86 : decode b_M_covers 86 = .ok (.if_icmp .gt 22, 3) := by decide +kernel
theorem d_M_covers_89 : decode b_M_covers 89 = .ok (.aload_n 0, 1) := by decide +kernel
theorem d_M_covers_90 : decode b_M_covers 90 = .ok (.getfield 19, 3) := by decide +kernel
theorem d_M_covers_93 : decode b_M_covers 93 = .ok (.iload_n 1, 1) := by decide +kernel
theorem d_M_covers_94 : decode b_M_covers 94 = .ok (.iaload, 1) := by decide +kernel
theorem d_M_covers_95 : decode b_M_covers 95 = .ok (.aload_n 0, 1) := by decide +kernel
theorem d_M_covers_96 : decode b_M_covers 96 = .ok (.getfield 19, 3) := by decide +kernel
theorem d_M_covers_99 : decode b_M_covers 99 = .ok (.iload_n 2, 1) := by decide +kernel
theorem d_M_covers_100 : decode b_M_covers 100 = .ok (.iaload, 1) := by decide +kernel
theorem d_M_covers_101 : decode b_M_covers 101 = .ok (.if_icmp .ne 7, 3) := by decide +kernel
theorem d_M_covers_104 : decode b_M_covers 104 = .ok (.iconst 1, 1) := by decide +kernel
theorem d_M_covers_105 : decode b_M_covers 105 = .ok (.goto 4, 3) := by decide +kernel
theorem d_M_covers_108 : decode b_M_covers 108 = .ok (.iconst 0, 1) := by decide +kernel
theorem d_M_covers_109 : decode b_M_covers 109 = .ok (.ireturn, 1) := by decide +kernel
theorem d_M_isOld_0 : decode b_M_isOld 0 = .ok (.aload_n 0, 1) := by decide +kernel
theorem d_M_isOld_1 : decode b_M_isOld 1 = .ok (.getfield 47, 3) := by decide +kernel
theorem d_M_isOld_4 : decode b_M_isOld 4 = .ok (.aload_n 0, 1) := by decide +kernel
theorem d_M_isOld_5 : decode b_M_isOld 5 = .ok (.getfield 16, 3) := by decide +kernel
theorem d_M_isOld_8 : decode b_M_isOld 8 = .ok (.iload_n 1, 1) := by decide +kernel
theorem d_M_isOld_9 : decode b_M_isOld 9 = .ok (.iaload, 1) := by decide +kernel
theorem d_M_isOld_10 : decode b_M_isOld 10 = .ok (.iconst 4, 1) := by decide +kernel
theorem d_M_isOld_11 : decode b_M_isOld 11 = .ok (.idiv, 1) := by decide +kernel
theorem d_M_isOld_12 : decode b_M_isOld 12 = .ok (.iaload, 1) := by decide +kernel
theorem d_M_isOld_13 : decode b_M_isOld 13 = .ok (.istore_n 2, 1) := by decide +kernel
theorem d_M_isOld_14 : decode b_M_isOld 14 = .ok (.iload_n 2, 1) := by decide +kernel
theorem d_M_isOld_15 : decode b_M_isOld 15 = .ok (.ifCond .eq 22, 3) := by decide +kernel
theorem d_M_isOld_18 : decode b_M_isOld 18 = .ok (.aload_n 0, 1) := by decide +kernel
theorem d_M_isOld_19 : decode b_M_isOld 19 = .ok (.getfield 19, 3) := by decide +kernel
theorem d_M_isOld_22 : decode b_M_isOld 22 = .ok (.iload_n 1, 1) := by decide +kernel
theorem d_M_isOld_23 : decode b_M_isOld 23 = .ok (.iaload, 1) := by decide +kernel
theorem d_M_isOld_24 : decode b_M_isOld 24 = .ok (.iload_n 2, 1) := by decide +kernel
theorem d_M_isOld_25 : decode b_M_isOld 25 = .ok (.iadd, 1) := by decide +kernel
theorem d_M_isOld_26 : decode b_M_isOld 26 = .ok (.aload_n 0, 1) := by decide +kernel
theorem d_M_isOld_27 : decode b_M_isOld 27 = .ok (.getfield 72, 3) := by decide +kernel
theorem d_M_isOld_30 : decode b_M_isOld 30 = .ok (.if_icmp .gt 7, 3) := by decide +kernel
theorem d_M_isOld_33 : decode b_M_isOld 33 = .ok (.iconst 1, 1) := by decide +kernel
theorem d_M_isOld_34 : decode b_M_isOld 34 = .ok (.goto 4, 3) := by decide +kernel
theorem d_M_isOld_37 : decode b_M_isOld 37 = .ok (.iconst 0, 1) := by decide +kernel
theorem d_M_isOld_38 : decode b_M_isOld 38 = .ok (.ireturn, 1) := by decide +kernel
theorem d_M_isLive_0 : decode b_M_isLive 0 = .ok (.aload_n 0, 1) := by decide +kernel
theorem d_M_isLive_1 : decode b_M_isLive 1 = .ok (.getfield 7, 3) := by decide +kernel
theorem d_M_isLive_4 : decode b_M_isLive 4 = .ok (.iload_n 1, 1) := by decide +kernel
theorem d_M_isLive_5 : decode b_M_isLive 5 = .ok (.iaload, 1) := by decide +kernel
theorem d_M_isLive_6 : decode b_M_isLive 6 = .ok (.ifCond .ne 11, 3) := by decide +kernel
theorem d_M_isLive_9 : decode b_M_isLive 9 = .ok (.aload_n 0, 1) := by decide +kernel
theorem d_M_isLive_10 : decode b_M_isLive 10 = .ok (.iload_n 1, 1) := by decide +kernel
theorem d_M_isLive_11 : decode b_M_isLive 11 = .ok (.invokevirtual 75, 3) := by decide +kernel
theorem d_M_isLive_14 : decode b_M_isLive 14 = .ok (.ifCond .eq 5, 3) := by decide +kernel
theorem d_M_isLive_17 : decode b_M_isLive 17 = .ok (.iconst 0, 1) := by decide +kernel
theorem d_M_isLive_18 : decode b_M_isLive 18 = .ok (.ireturn, 1) := by decide +kernel
theorem d_M_isLive_19 : decode b_M_isLive 19 = .ok (.iload_n 1, 1) := by decide +kernel
theorem d_M_isLive_20 : decode b_M_isLive 20 = .ok (.iconst 1, 1) := by decide +kernel
theorem d_M_isLive_21 : decode b_M_isLive 21 = .ok (.iadd, 1) := by decide +kernel
theorem d_M_isLive_22 : decode b_M_isLive 22 = .ok (.istore_n 2, 1) := by decide +kernel
theorem d_M_isLive_23 : decode b_M_isLive 23 = .ok (.iload_n 2, 1) := by decide +kernel
theorem d_M_isLive_24 : decode b_M_isLive 24 = .ok (.aload_n 0, 1) := by decide +kernel
theorem d_M_isLive_25 : decode b_M_isLive 25 = .ok (.getfield 79, 3) := by decide +kernel
theorem d_M_isLive_28 : decode b_M_isLive 28 = .ok (.if_icmp .ge 20, 3) := by decide +kernel
theorem d_M_isLive_31 : decode b_M_isLive 31 = .ok (.aload_n 0, 1) := by decide +kernel
theorem d_M_isLive_32 : decode b_M_isLive 32 = .ok (.iload_n 2, 1) := by decide +kernel
theorem d_M_isLive_33 : decode b_M_isLive 33 = .ok (.iload_n 1, 1) := by decide +kernel
theorem d_M_isLive_34 : decode b_M_isLive 34 = .ok (.invokevirtual 82, 3) := by decide +kernel
theorem d_M_isLive_37 : decode b_M_isLive 37 = .ok (.ifCond .eq 5, 3) := by decide +kernel
theorem d_M_isLive_40 : decode b_M_isLive 40 = .ok (.iconst 0, 1) := by decide +kernel
theorem d_M_isLive_41 : decode b_M_isLive 41 = .ok (.ireturn, 1) := by decide +kernel
theorem d_M_isLive_42 : decode b_M_isLive 42 = .ok (.iinc 2 1, 3) := by decide +kernel
theorem d_M_isLive_45 : decode b_M_isLive 45 = .ok (.goto (-22), 3) := by decide +kernel
theorem d_M_isLive_48 : decode b_M_isLive 48 = .ok (.iconst 1, 1) := by decide +kernel
theorem d_M_isLive_49 : decode b_M_isLive 49 = .ok (.ireturn, 1) := by decide +kernel
theorem d_M_below_0 : decode b_M_below 0 = .ok (.iconst (-1), 1) := by decide +kernel
theorem d_M_below_1 : decode b_M_below 1 = .ok (.istore 4, 2) := by decide +kernel
theorem d_M_below_3 : decode b_M_below 3 = .ok (.iconst 0, 1) := by decide +kernel
theorem d_M_below_4 : decode b_M_below 4 = .ok (.istore 5, 2) := by decide +kernel
theorem d_M_below_6 : decode b_M_below 6 = .ok (.iload 5, 2) := by decide +kernel
theorem d_M_below_8 : decode b_M_below 8 = .ok (.aload_n 0, 1) := by decide +kernel
theorem d_M_below_9 : decode b_M_below 9 = .ok (.getfield 79, 3) := by decide +kernel
theorem d_M_below_12 : decode b_M_below 12 = .ok (.if_icmp .ge 99, 3) := by decide +kernel
theorem d_M_below_15 : decode b_M_below 15 = .ok (.aload_n 0, 1) := by decide +kernel
theorem d_M_below_16 : decode b_M_below 16 = .ok (.getfield 13, 3) := by decide +kernel
theorem d_M_below_19 : decode b_M_below 19 = .ok (.iload 5, 2) := by decide +kernel
theorem d_M_below_21 : decode b_M_below 21 = .ok (.iaload, 1) := by decide +kernel
theorem d_M_below_22 : decode b_M_below 22 = .ok (.iload_n 1, 1) := by decide +kernel
theorem d_M_below_23 : decode b_M_below 23 = .ok (.if_icmp .ne 39, 3) := by decide +kernel
theorem d_M_below_26 : decode b_M_below 26 = .ok (.aload_n 0, 1) := by decide +kernel
theorem d_M_below_27 : decode b_M_below 27 = .ok (.getfield 16, 3) := by decide +kernel
theorem d_M_below_30 : decode b_M_below 30 = .ok (.iload 5, 2) := by decide +kernel
theorem d_M_below_32 : decode b_M_below 32 = .ok (.iaload, 1) := by decide +kernel
theorem d_M_below_33 : decode b_M_below 33 = .ok (.iload_n 2, 1) := by decide +kernel
theorem d_M_below_34 : decode b_M_below 34 = .ok (.if_icmp .ne 28, 3) := by decide +kernel
theorem d_M_below_37 : decode b_M_below 37 = .ok (.aload_n 0, 1) := by decide +kernel
theorem d_M_below_38 : decode b_M_below 38 = .ok (.getfield 7, 3) := by decide +kernel
theorem d_M_below_41 : decode b_M_below 41 = .ok (.iload 5, 2) := by decide +kernel
theorem d_M_below_43 : decode b_M_below 43 = .ok (.iaload, 1) := by decide +kernel
theorem d_M_below_44 : decode b_M_below 44 = .ok (.ifCond .ne 18, 3) := by decide +kernel
theorem d_M_below_47 : decode b_M_below 47 = .ok (.aload_n 0, 1) := by decide +kernel
theorem d_M_below_48 : decode b_M_below 48 = .ok (.getfield 19, 3) := by decide +kernel
theorem d_M_below_51 : decode b_M_below 51 = .ok (.iload 5, 2) := by decide +kernel
theorem d_M_below_53 : decode b_M_below 53 = .ok (.iaload, 1) := by decide +kernel
theorem d_M_below_54 : decode b_M_below 54 = .ok (.iload_n 3, 1) := by decide +kernel
theorem d_M_below_55 : decode b_M_below 55 = .ok (.if_icmp .ge 7, 3) := by decide +kernel
theorem d_M_below_58 : decode b_M_below 58 = .ok (.iconst 1, 1) := by decide +kernel
theorem d_M_below_59 : decode b_M_below 59 = .ok (.goto 4, 3) := by decide +kernel
theorem d_M_below_62 : decode b_M_below 62 = .ok (.iconst 0, 1) := by decide +kernel
theorem d_M_below_63 : decode b_M_below 63 = .ok (.istore 6, 2) := by decide +kernel
theorem d_M_below_65 : decode b_M_below 65 = .ok (.iload 6, 2) := by decide +kernel
theorem d_M_below_67 : decode b_M_below 67 = .ok (.ifCond .eq 38, 3) := by decide +kernel
theorem d_M_below_70 : decode b_M_below 70 = .ok (.iload 4, 2) := by decide +kernel
theorem d_M_below_72 : decode b_M_below 72 = .ok (.ifCond .lt 20, 3) := by decide +kernel
theorem d_M_below_75 : decode b_M_below 75 = .ok (.aload_n 0, 1) := by decide +kernel
theorem d_M_below_76 : decode b_M_below 76 = .ok (.getfield 19, 3) := by decide +kernel
theorem d_M_below_79 : decode b_M_below 79 = .ok (.iload 5, 2) := by decide +kernel
theorem d_M_below_81 : decode b_M_below 81 = .ok (.iaload, 1) := by decide +kernel
theorem d_M_below_82 : decode b_M_below 82 = .ok (.aload_n 0, 1) := by decide +kernel
theorem d_M_below_83 : decode b_M_below 83 = .ok (.getfield 19, 3) := by decide +kernel
theorem d_M_below_86 : decode b_M_below 86 = .ok (.iload 4, 2) := by decide +kernel
theorem d_M_below_88 : decode b_M_below 88 = .ok (.iaload, 1) := by decide +kernel
theorem d_M_below_89 : decode b_M_below 89 = .ok (.if_icmp .le 16, 3) := by decide +kernel
theorem d_M_below_92 : decode b_M_below 92 = .ok (.aload_n 0, 1) := by decide +kernel
theorem d_M_below_93 : decode b_M_below 93 = .ok (.iload 5, 2) := by decide +kernel
theorem d_M_below_95 : decode b_M_below 95 = .ok (.invokevirtual 86, 3) := by decide +kernel
theorem d_M_below_98 : decode b_M_below 98 = .ok (.ifCond .eq 7, 3) := by decide +kernel
theorem d_M_below_101 : decode b_M_below 101 = .ok (.iload 5, 2) := by decide +kernel
theorem d_M_below_103 : decode b_M_below 103 = .ok (.istore 4, 2) := by decide +kernel
theorem d_M_below_105 : decode b_M_below 105 = .ok (.iinc 5 1, 3) := by decide +kernel
theorem d_M_below_108 : decode b_M_below 108 = .ok (.goto (-102), 3) := by decide +kernel
theorem d_M_below_111 : decode b_M_below 111 = .ok (.iload 4, 2) := by decide +kernel
theorem d_M_below_113 : decode b_M_below 113 = .ok (.ireturn, 1) := by decide +kernel
theorem d_M_tabletWith_0 : decode b_M_tabletWith 0 = .ok (.iconst 0, 1) := by decide +kernel
theorem d_M_tabletWith_1 : decode b_M_tabletWith 1 = .ok (.istore_n 2, 1) := by decide +kernel
theorem d_M_tabletWith_2 : decode b_M_tabletWith 2 = .ok (.iconst 0, 1) := by decide +kernel
theorem d_M_tabletWith_3 : decode b_M_tabletWith 3 = .ok (.istore_n 3, 1) := by decide +kernel
theorem d_M_tabletWith_4 : decode b_M_tabletWith 4 = .ok (.iload_n 3, 1) := by decide +kernel
theorem d_M_tabletWith_5 : decode b_M_tabletWith 5 = .ok (.aload_n 0, 1) := by decide +kernel
theorem d_M_tabletWith_6 : decode b_M_tabletWith 6 = .ok (.getfield 34, 3) := by decide +kernel
theorem d_M_tabletWith_9 : decode b_M_tabletWith 9 = .ok (.if_icmp .ge 25, 3) := by decide +kernel
theorem d_M_tabletWith_12 : decode b_M_tabletWith 12 = .ok (.aload_n 0, 1) := by decide +kernel
theorem d_M_tabletWith_13 : decode b_M_tabletWith 13 = .ok (.getfield 38, 3) := by decide +kernel
theorem d_M_tabletWith_16 : decode b_M_tabletWith 16 = .ok (.iload_n 3, 1) := by decide +kernel
theorem d_M_tabletWith_17 : decode b_M_tabletWith 17 = .ok (.iaload, 1) := by decide +kernel
theorem d_M_tabletWith_18 : decode b_M_tabletWith 18 = .ok (.iload_n 1, 1) := by decide +kernel
theorem d_M_tabletWith_19 : decode b_M_tabletWith 19 = .ok (.if_icmp .gt 7, 3) := by decide +kernel
theorem d_M_tabletWith_22 : decode b_M_tabletWith 22 = .ok (.iload_n 3, 1) := by decide +kernel
theorem d_M_tabletWith_23 : decode b_M_tabletWith 23 = .ok (.goto 4, 3) := by decide +kernel
theorem d_M_tabletWith_26 : decode b_M_tabletWith 26 = .ok (.iload_n 2, 1) := by decide +kernel
theorem d_M_tabletWith_27 : decode b_M_tabletWith 27 = .ok (.istore_n 2, 1) := by decide +kernel
theorem d_M_tabletWith_28 : decode b_M_tabletWith 28 = .ok (.iinc 3 1, 3) := by decide +kernel
theorem d_M_tabletWith_31 : decode b_M_tabletWith 31 = .ok (.goto (-27), 3) := by decide +kernel
theorem d_M_tabletWith_34 : decode b_M_tabletWith 34 = .ok (.iload_n 2, 1) := by decide +kernel
theorem d_M_tabletWith_35 : decode b_M_tabletWith 35 = .ok (.ireturn, 1) := by decide +kernel
theorem d_M_make_0 : decode b_M_make 0 = .ok (.aload_n 0, 1) := by decide +kernel
theorem d_M_make_1 : decode b_M_make 1 = .ok (.getfield 7, 3) := by decide +kernel
theorem d_M_make_4 : decode b_M_make 4 = .ok (.aload_n 0, 1) := by decide +kernel
theorem d_M_make_5 : decode b_M_make 5 = .ok (.getfield 79, 3) := by decide +kernel
theorem d_M_make_8 : decode b_M_make 8 = .ok (.iload_n 1, 1) := by decide +kernel
theorem d_M_make_9 : decode b_M_make 9 = .ok (.iastore, 1) := by decide +kernel
theorem d_M_make_10 : decode b_M_make 10 = .ok (.aload_n 0, 1) := by decide +kernel
theorem d_M_make_11 : decode b_M_make 11 = .ok (.getfield 13, 3) := by decide +kernel
theorem d_M_make_14 : decode b_M_make 14 = .ok (.aload_n 0, 1) := by decide +kernel
theorem d_M_make_15 : decode b_M_make 15 = .ok (.getfield 79, 3) := by decide +kernel
theorem d_M_make_18 : decode b_M_make 18 = .ok (.iload_n 2, 1) := by decide +kernel
theorem d_M_make_19 : decode b_M_make 19 = .ok (.iastore, 1) := by decide +kernel
theorem d_M_make_20 : decode b_M_make 20 = .ok (.aload_n 0, 1) := by decide +kernel
theorem d_M_make_21 : decode b_M_make 21 = .ok (.getfield 16, 3) := by decide +kernel
theorem d_M_make_24 : decode b_M_make 24 = .ok (.aload_n 0, 1) := by decide +kernel
theorem d_M_make_25 : decode b_M_make 25 = .ok (.getfield 79, 3) := by decide +kernel
theorem d_M_make_28 : decode b_M_make 28 = .ok (.iload_n 3, 1) := by decide +kernel
theorem d_M_make_29 : decode b_M_make 29 = .ok (.iastore, 1) := by decide +kernel
theorem d_M_make_30 : decode b_M_make 30 = .ok (.aload_n 0, 1) := by decide +kernel
theorem d_M_make_31 : decode b_M_make 31 = .ok (.getfield 19, 3) := by decide +kernel
theorem d_M_make_34 : decode b_M_make 34 = .ok (.aload_n 0, 1) := by decide +kernel
theorem d_M_make_35 : decode b_M_make 35 = .ok (.getfield 79, 3) := by decide +kernel
theorem d_M_make_38 : decode b_M_make 38 = .ok (.iload 4, 2) := by decide +kernel
theorem d_M_make_40 : decode b_M_make 40 = .ok (.iastore, 1) := by decide +kernel
theorem d_M_make_41 : decode b_M_make 41 = .ok (.aload_n 0, 1) := by decide +kernel
theorem d_M_make_42 : decode b_M_make 42 = .ok (.getfield 22, 3) := by decide +kernel
theorem d_M_make_45 : decode b_M_make 45 = .ok (.aload_n 0, 1) := by decide +kernel
theorem d_M_make_46 : decode b_M_make 46 = .ok (.getfield 79, 3) := by decide +kernel
theorem d_M_make_49 : decode b_M_make 49 = .ok (.iload 5, 2) := by decide +kernel
theorem d_M_make_51 : decode b_M_make 51 = .ok (.iastore, 1) := by decide +kernel
theorem d_M_make_52 : decode b_M_make 52 = .ok (.aload_n 0, 1) := by decide +kernel
theorem d_M_make_53 : decode b_M_make 53 = .ok (.getfield 25, 3) := by decide +kernel
theorem d_M_make_56 : decode b_M_make 56 = .ok (.aload_n 0, 1) := by decide +kernel
theorem d_M_make_57 : decode b_M_make 57 = .ok (.getfield 79, 3) := by decide +kernel
theorem d_M_make_60 : decode b_M_make 60 = .ok (.aload_n 0, 1) := by decide +kernel
theorem d_M_make_61 : decode b_M_make 61 = .ok (.getfield 89, 3) := by decide +kernel
theorem d_M_make_64 : decode b_M_make 64 = .ok (.iastore, 1) := by decide +kernel
theorem d_M_make_65 : decode b_M_make 65 = .ok (.aload_n 0, 1) := by decide +kernel
theorem d_M_make_66 : decode b_M_make 66 = .ok (.getfield 28, 3) := by decide +kernel
theorem d_M_make_69 : decode b_M_make 69 = .ok (.aload_n 0, 1) := by decide +kernel
theorem d_M_make_70 : decode b_M_make 70 = .ok (.getfield 79, 3) := by decide +kernel
theorem d_M_make_73 : decode b_M_make 73 = .ok (.aload_n 0, 1) := by decide +kernel
theorem d_M_make_74 : decode b_M_make 74 = .ok (.iload_n 2, 1) := by decide +kernel
theorem d_M_make_75 : decode b_M_make 75 = .ok (.invokevirtual 92, 3) := by decide +kernel
theorem d_M_make_78 : decode b_M_make 78 = .ok (.iastore, 1) := by decide +kernel
theorem d_M_make_79 : decode b_M_make 79 = .ok (.aload_n 0, 1) := by decide +kernel
theorem d_M_make_80 : decode b_M_make 80 = .ok (.getfield 31, 3) := by decide +kernel
theorem d_M_make_83 : decode b_M_make 83 = .ok (.aload_n 0, 1) := by decide +kernel
theorem d_M_make_84 : decode b_M_make 84 = .ok (.getfield 79, 3) := by decide +kernel
theorem d_M_make_87 : decode b_M_make 87 = .ok (.iconst (-1), 1) := by decide +kernel
theorem d_M_make_88 : decode b_M_make 88 = .ok (.iastore, 1) := by decide +kernel
theorem d_M_make_89 : decode b_M_make 89 = .ok (.aload_n 0, 1) := by decide +kernel
theorem d_M_make_90 : decode b_M_make 90 = .ok (.dup, 1) := by decide +kernel
theorem d_M_make_91 : decode b_M_make 91 = .ok (.getfield 79, 3) := by decide +kernel
theorem d_M_make_94 : decode b_M_make 94 = .ok (.iconst 1, 1) := by decide +kernel
theorem d_M_make_95 : decode b_M_make 95 = .ok (.iadd, 1) := by decide +kernel
theorem d_M_make_96 : decode b_M_make 96 = .ok (.putfield 79, 3) := by decide +kernel
theorem d_M_make_99 : decode b_M_make 99 = .ok (.return_, 1) := by decide +kernel
theorem d_M_move_0 : decode b_M_move 0 = .ok (.aload_n 0, 1) := by decide +kernel
theorem d_M_move_1 : decode b_M_move 1 = .ok (.getfield 7, 3) := by decide +kernel
theorem d_M_move_4 : decode b_M_move 4 = .ok (.iload_n 2, 1) := by decide +kernel
theorem d_M_move_5 : decode b_M_move 5 = .ok (.aload_n 0, 1) := by decide +kernel
theorem d_M_move_6 : decode b_M_move 6 = .ok (.getfield 7, 3) := by decide +kernel
theorem d_M_move_9 : decode b_M_move 9 = .ok (.iload_n 1, 1) := by decide +kernel
theorem d_M_move_10 : decode b_M_move 10 = .ok (.iaload, 1) := by decide +kernel
theorem d_M_move_11 : decode b_M_move 11 = .ok (.iastore, 1) := by decide +kernel
theorem d_M_move_12 : decode b_M_move 12 = .ok (.aload_n 0, 1) := by decide +kernel
theorem d_M_move_13 : decode b_M_move 13 = .ok (.getfield 13, 3) := by decide +kernel
theorem d_M_move_16 : decode b_M_move 16 = .ok (.iload_n 2, 1) := by decide +kernel
theorem d_M_move_17 : decode b_M_move 17 = .ok (.aload_n 0, 1) := by decide +kernel
theorem d_M_move_18 : decode b_M_move 18 = .ok (.getfield 13, 3) := by decide +kernel
theorem d_M_move_21 : decode b_M_move 21 = .ok (.iload_n 1, 1) := by decide +kernel
theorem d_M_move_22 : decode b_M_move 22 = .ok (.iaload, 1) := by decide +kernel
theorem d_M_move_23 : decode b_M_move 23 = .ok (.iastore, 1) := by decide +kernel
theorem d_M_move_24 : decode b_M_move 24 = .ok (.aload_n 0, 1) := by decide +kernel
theorem d_M_move_25 : decode b_M_move 25 = .ok (.getfield 16, 3) := by decide +kernel
theorem d_M_move_28 : decode b_M_move 28 = .ok (.iload_n 2, 1) := by decide +kernel
theorem d_M_move_29 : decode b_M_move 29 = .ok (.aload_n 0, 1) := by decide +kernel
theorem d_M_move_30 : decode b_M_move 30 = .ok (.getfield 16, 3) := by decide +kernel
theorem d_M_move_33 : decode b_M_move 33 = .ok (.iload_n 1, 1) := by decide +kernel
theorem d_M_move_34 : decode b_M_move 34 = .ok (.iaload, 1) := by decide +kernel
theorem d_M_move_35 : decode b_M_move 35 = .ok (.iastore, 1) := by decide +kernel
theorem d_M_move_36 : decode b_M_move 36 = .ok (.aload_n 0, 1) := by decide +kernel
theorem d_M_move_37 : decode b_M_move 37 = .ok (.getfield 19, 3) := by decide +kernel
theorem d_M_move_40 : decode b_M_move 40 = .ok (.iload_n 2, 1) := by decide +kernel
theorem d_M_move_41 : decode b_M_move 41 = .ok (.aload_n 0, 1) := by decide +kernel
theorem d_M_move_42 : decode b_M_move 42 = .ok (.getfield 19, 3) := by decide +kernel
theorem d_M_move_45 : decode b_M_move 45 = .ok (.iload_n 1, 1) := by decide +kernel
theorem d_M_move_46 : decode b_M_move 46 = .ok (.iaload, 1) := by decide +kernel
theorem d_M_move_47 : decode b_M_move 47 = .ok (.iastore, 1) := by decide +kernel
theorem d_M_move_48 : decode b_M_move 48 = .ok (.aload_n 0, 1) := by decide +kernel
theorem d_M_move_49 : decode b_M_move 49 = .ok (.getfield 22, 3) := by decide +kernel
theorem d_M_move_52 : decode b_M_move 52 = .ok (.iload_n 2, 1) := by decide +kernel
theorem d_M_move_53 : decode b_M_move 53 = .ok (.aload_n 0, 1) := by decide +kernel
theorem d_M_move_54 : decode b_M_move 54 = .ok (.getfield 22, 3) := by decide +kernel
theorem d_M_move_57 : decode b_M_move 57 = .ok (.iload_n 1, 1) := by decide +kernel
theorem d_M_move_58 : decode b_M_move 58 = .ok (.iaload, 1) := by decide +kernel
theorem d_M_move_59 : decode b_M_move 59 = .ok (.iastore, 1) := by decide +kernel
theorem d_M_move_60 : decode b_M_move 60 = .ok (.aload_n 0, 1) := by decide +kernel
theorem d_M_move_61 : decode b_M_move 61 = .ok (.getfield 25, 3) := by decide +kernel
theorem d_M_move_64 : decode b_M_move 64 = .ok (.iload_n 2, 1) := by decide +kernel
theorem d_M_move_65 : decode b_M_move 65 = .ok (.aload_n 0, 1) := by decide +kernel
theorem d_M_move_66 : decode b_M_move 66 = .ok (.getfield 25, 3) := by decide +kernel
theorem d_M_move_69 : decode b_M_move 69 = .ok (.iload_n 1, 1) := by decide +kernel
theorem d_M_move_70 : decode b_M_move 70 = .ok (.iaload, 1) := by decide +kernel
theorem d_M_move_71 : decode b_M_move 71 = .ok (.iastore, 1) := by decide +kernel
theorem d_M_move_72 : decode b_M_move 72 = .ok (.aload_n 0, 1) := by decide +kernel
theorem d_M_move_73 : decode b_M_move 73 = .ok (.getfield 28, 3) := by decide +kernel
theorem d_M_move_76 : decode b_M_move 76 = .ok (.iload_n 2, 1) := by decide +kernel
theorem d_M_move_77 : decode b_M_move 77 = .ok (.aload_n 0, 1) := by decide +kernel
theorem d_M_move_78 : decode b_M_move 78 = .ok (.getfield 28, 3) := by decide +kernel
theorem d_M_move_81 : decode b_M_move 81 = .ok (.iload_n 1, 1) := by decide +kernel
theorem d_M_move_82 : decode b_M_move 82 = .ok (.iaload, 1) := by decide +kernel
theorem d_M_move_83 : decode b_M_move 83 = .ok (.iastore, 1) := by decide +kernel
theorem d_M_move_84 : decode b_M_move 84 = .ok (.aload_n 0, 1) := by decide +kernel
theorem d_M_move_85 : decode b_M_move 85 = .ok (.getfield 31, 3) := by decide +kernel
theorem d_M_move_88 : decode b_M_move 88 = .ok (.iload_n 2, 1) := by decide +kernel
theorem d_M_move_89 : decode b_M_move 89 = .ok (.aload_n 0, 1) := by decide +kernel
theorem d_M_move_90 : decode b_M_move 90 = .ok (.getfield 31, 3) := by decide +kernel
theorem d_M_move_93 : decode b_M_move 93 = .ok (.iload_n 1, 1) := by decide +kernel
theorem d_M_move_94 : decode b_M_move 94 = .ok (.iaload, 1) := by decide +kernel
theorem d_M_move_95 : decode b_M_move 95 = .ok (.iastore, 1) := by decide +kernel
theorem d_M_move_96 : decode b_M_move 96 = .ok (.return_, 1) := by decide +kernel
theorem d_M_takes_0 : decode b_M_takes 0 = .ok (.iload_n 1, 1) := by decide +kernel
theorem d_M_takes_1 : decode b_M_takes 1 = .ok (.invokestatic 96, 3) := by decide +kernel
theorem d_M_takes_4 : decode b_M_takes 4 = .ok (.ifCond .eq 30, 3) := by decide +kernel
theorem d_M_takes_7 : decode b_M_takes 7 = .ok (.aload_n 0, 1) := by decide +kernel
theorem d_M_takes_8 : decode b_M_takes 8 = .ok (.getfield 99, 3) := by decide +kernel
theorem d_M_takes_11 : decode b_M_takes 11 = .ok (.iconst 4, 1) := by decide +kernel
theorem d_M_takes_12 : decode b_M_takes 12 = .ok (.if_icmp .ge 22, 3) := by decide +kernel
theorem d_M_takes_15 : decode b_M_takes 15 = .ok (.aload_n 0, 1) := by decide +kernel
theorem d_M_takes_16 : decode b_M_takes 16 = .ok (.getfield 99, 3) := by decide +kernel
theorem d_M_takes_19 : decode b_M_takes 19 = .ok (.ifCond .eq 11, 3) := by decide +kernel
theorem d_M_takes_22 : decode b_M_takes 22 = .ok (.iload_n 1, 1) := by decide +kernel
theorem d_M_takes_23 : decode b_M_takes 23 = .ok (.aload_n 0, 1) := by decide +kernel
theorem d_M_takes_24 : decode b_M_takes 24 = .ok (.getfield 102, 3) := by decide +kernel
theorem d_M_takes_27 : decode b_M_takes 27 = .ok (.if_icmp .ne 7, 3) := by decide +kernel
theorem d_M_takes_30 : decode b_M_takes 30 = .ok (.iconst 1, 1) := by decide +kernel
theorem d_M_takes_31 : decode b_M_takes 31 = .ok (.goto 4, 3) := by decide +kernel
theorem d_M_takes_34 : decode b_M_takes 34 = .ok (.iconst 0, 1) := by decide +kernel
theorem d_M_takes_35 : decode b_M_takes 35 = .ok (.ireturn, 1) := by decide +kernel
theorem d_M_change_0 : decode b_M_change 0 = .ok (.aload_n 0, 1) := by decide +kernel
theorem d_M_change_1 : decode b_M_change 1 = .ok (.iload_n 2, 1) := by decide +kernel
theorem d_M_change_2 : decode b_M_change 2 = .ok (.putfield 102, 3) := by decide +kernel
theorem d_M_change_5 : decode b_M_change 5 = .ok (.aload_n 0, 1) := by decide +kernel
theorem d_M_change_6 : decode b_M_change 6 = .ok (.getfield 50, 3) := by decide +kernel
theorem d_M_change_9 : decode b_M_change 9 = .ok (.aload_n 0, 1) := by decide +kernel
theorem d_M_change_10 : decode b_M_change 10 = .ok (.getfield 99, 3) := by decide +kernel
theorem d_M_change_13 : decode b_M_change 13 = .ok (.iload_n 1, 1) := by decide +kernel
theorem d_M_change_14 : decode b_M_change 14 = .ok (.iastore, 1) := by decide +kernel
theorem d_M_change_15 : decode b_M_change 15 = .ok (.aload_n 0, 1) := by decide +kernel
theorem d_M_change_16 : decode b_M_change 16 = .ok (.getfield 53, 3) := by decide +kernel
theorem d_M_change_19 : decode b_M_change 19 = .ok (.aload_n 0, 1) := by decide +kernel
theorem d_M_change_20 : decode b_M_change 20 = .ok (.getfield 99, 3) := by decide +kernel
theorem d_M_change_23 : decode b_M_change 23 = .ok (.iload_n 3, 1) := by decide +kernel
theorem d_M_change_24 : decode b_M_change 24 = .ok (.iastore, 1) := by decide +kernel
theorem d_M_change_25 : decode b_M_change 25 = .ok (.aload_n 0, 1) := by decide +kernel
theorem d_M_change_26 : decode b_M_change 26 = .ok (.getfield 56, 3) := by decide +kernel
theorem d_M_change_29 : decode b_M_change 29 = .ok (.aload_n 0, 1) := by decide +kernel
theorem d_M_change_30 : decode b_M_change 30 = .ok (.getfield 99, 3) := by decide +kernel
theorem d_M_change_33 : decode b_M_change 33 = .ok (.iload 4, 2) := by decide +kernel
theorem d_M_change_35 : decode b_M_change 35 = .ok (.iastore, 1) := by decide +kernel
theorem d_M_change_36 : decode b_M_change 36 = .ok (.aload_n 0, 1) := by decide +kernel
theorem d_M_change_37 : decode b_M_change 37 = .ok (.getfield 59, 3) := by decide +kernel
theorem d_M_change_40 : decode b_M_change 40 = .ok (.aload_n 0, 1) := by decide +kernel
theorem d_M_change_41 : decode b_M_change 41 = .ok (.getfield 99, 3) := by decide +kernel
theorem d_M_change_44 : decode b_M_change 44 = .ok (.iload 5, 2) := by decide +kernel
theorem d_M_change_46 : decode b_M_change 46 = .ok (.iastore, 1) := by decide +kernel
theorem d_M_change_47 : decode b_M_change 47 = .ok (.aload_n 0, 1) := by decide +kernel
theorem d_M_change_48 : decode b_M_change 48 = .ok (.dup, 1) := by decide +kernel
theorem d_M_change_49 : decode b_M_change 49 = .ok (.getfield 99, 3) := by decide +kernel
theorem d_M_change_52 : decode b_M_change 52 = .ok (.iconst 1, 1) := by decide +kernel
theorem d_M_change_53 : decode b_M_change 53 = .ok (.iadd, 1) := by decide +kernel
theorem d_M_change_54 : decode b_M_change 54 = .ok (.putfield 99, 3) := by decide +kernel
theorem d_M_change_57 : decode b_M_change 57 = .ok (.return_, 1) := by decide +kernel
theorem d_M_put_0 : decode b_M_put 0 = .ok (.iload_n 2, 1) := by decide +kernel
theorem d_M_put_1 : decode b_M_put 1 = .ok (.invokestatic 105, 3) := by decide +kernel
theorem d_M_put_4 : decode b_M_put 4 = .ok (.ifCond .eq 18, 3) := by decide +kernel
theorem d_M_put_7 : decode b_M_put 7 = .ok (.iload_n 3, 1) := by decide +kernel
theorem d_M_put_8 : decode b_M_put 8 = .ok (.invokestatic 108, 3) := by decide +kernel
theorem d_M_put_11 : decode b_M_put 11 = .ok (.ifCond .eq 11, 3) := by decide +kernel
theorem d_M_put_14 : decode b_M_put 14 = .ok (.aload_n 0, 1) := by decide +kernel
theorem d_M_put_15 : decode b_M_put 15 = .ok (.iload_n 1, 1) := by decide +kernel
theorem d_M_put_16 : decode b_M_put 16 = .ok (.invokevirtual 111, 3) := by decide +kernel
theorem d_M_put_19 : decode b_M_put 19 = .ok (.ifCond .ne 5, 3) := by decide +kernel
theorem d_M_put_22 : decode b_M_put 22 = .ok (.iconst 0, 1) := by decide +kernel
theorem d_M_put_23 : decode b_M_put 23 = .ok (.ireturn, 1) := by decide +kernel
theorem d_M_put_24 : decode b_M_put 24 = .ok (.aload_n 0, 1) := by decide +kernel
theorem d_M_put_25 : decode b_M_put 25 = .ok (.iconst 0, 1) := by decide +kernel
theorem d_M_put_26 : decode b_M_put 26 = .ok (.iload_n 1, 1) := by decide +kernel
theorem d_M_put_27 : decode b_M_put 27 = .ok (.iload_n 2, 1) := by decide +kernel
theorem d_M_put_28 : decode b_M_put 28 = .ok (.iload_n 3, 1) := by decide +kernel
theorem d_M_put_29 : decode b_M_put 29 = .ok (.iload 4, 2) := by decide +kernel
theorem d_M_put_31 : decode b_M_put 31 = .ok (.invokevirtual 114, 3) := by decide +kernel
theorem d_M_put_34 : decode b_M_put 34 = .ok (.iconst 1, 1) := by decide +kernel
theorem d_M_put_35 : decode b_M_put 35 = .ok (.ireturn, 1) := by decide +kernel
theorem d_M_erase_0 : decode b_M_erase 0 = .ok (.iload_n 2, 1) := by decide +kernel
theorem d_M_erase_1 : decode b_M_erase 1 = .ok (.iconst (-1), 1) := by decide +kernel
theorem d_M_erase_2 : decode b_M_erase 2 = .ok (.if_icmp .ne 12, 3) := by decide +kernel
theorem d_M_erase_5 : decode b_M_erase 5 = .ok (.iload_n 3, 1) := by decide +kernel
theorem d_M_erase_6 : decode b_M_erase 6 = .ok (.iconst (-1), 1) := by decide +kernel
theorem d_M_erase_7 : decode b_M_erase 7 = .ok (.if_icmp .ne 7, 3) := by decide +kernel
theorem d_M_erase_10 : decode b_M_erase 10 = .ok (.iconst 1, 1) := by decide +kernel
theorem d_M_erase_11 : decode b_M_erase 11 = .ok (.goto 4, 3) := by decide +kernel
theorem d_M_erase_14 : decode b_M_erase 14 = .ok (.iconst 0, 1) := by decide +kernel
theorem d_M_erase_15 : decode b_M_erase 15 = .ok (.istore 4, 2) := by decide +kernel
theorem d_M_erase_17 : decode b_M_erase 17 = .ok (.iload 4, 2) := by decide +kernel
theorem d_M_erase_19 : decode b_M_erase 19 = .ok (.ifCond .ne 22, 3) := by decide +kernel
theorem d_M_erase_22 : decode b_M_erase 22 = .ok (.iload_n 2, 1) := by decide +kernel
theorem d_M_erase_23 : decode b_M_erase 23 = .ok (.invokestatic 105, 3) := by decide +kernel
theorem d_M_erase_26 : decode b_M_erase 26 = .ok (.ifCond .eq 19, 3) := by decide +kernel
theorem d_M_erase_29 : decode b_M_erase 29 = .ok (.iload_n 3, 1) := by decide +kernel
theorem d_M_erase_30 : decode b_M_erase 30 = .ok (.iconst (-1), 1) := by decide +kernel
theorem d_M_erase_31 : decode b_M_erase 31 = .ok (.if_icmp .eq 10, 3) := by decide +kernel
theorem d_M_erase_34 : decode b_M_erase 34 = .ok (.iload_n 3, 1) := by decide +kernel
theorem d_M_erase_35 : decode b_M_erase 35 = .ok (.invokestatic 108, 3) := by decide +kernel
theorem d_M_erase_38 : decode b_M_erase 38 = .ok (.ifCond .eq 7, 3) := by decide +kernel
theorem d_M_erase_41 : decode b_M_erase 41 = .ok (.iconst 1, 1) := by decide +kernel
theorem d_M_erase_42 : decode b_M_erase 42 = .ok (.goto 4, 3) := by decide +kernel
theorem d_M_erase_45 : decode b_M_erase 45 = .ok (.iconst 0, 1) := by decide +kernel
theorem d_M_erase_46 : decode b_M_erase 46 = .ok (.istore 5, 2) := by decide +kernel
theorem d_M_erase_48 : decode b_M_erase 48 = .ok (.iload 5, 2) := by decide +kernel
theorem d_M_erase_50 : decode b_M_erase 50 = .ok (.ifCond .eq 11, 3) := by decide +kernel
theorem d_M_erase_53 : decode b_M_erase 53 = .ok (.aload_n 0, 1) := by decide +kernel
theorem d_M_erase_54 : decode b_M_erase 54 = .ok (.iload_n 1, 1) := by decide +kernel
theorem d_M_erase_55 : decode b_M_erase 55 = .ok (.invokevirtual 111, 3) := by decide +kernel
theorem d_M_erase_58 : decode b_M_erase 58 = .ok (.ifCond .ne 5, 3) := by decide +kernel
theorem d_M_erase_61 : decode b_M_erase 61 = .ok (.iconst 0, 1) := by decide +kernel
theorem d_M_erase_62 : decode b_M_erase 62 = .ok (.ireturn, 1) := by decide +kernel
theorem d_M_erase_63 : decode b_M_erase 63 = .ok (.aload_n 0, 1) := by decide +kernel
theorem d_M_erase_64 : decode b_M_erase 64 = .ok (.iload 4, 2) := by decide +kernel
theorem d_M_erase_66 : decode b_M_erase 66 = .ok (.ifCond .eq 7, 3) := by decide +kernel
theorem d_M_erase_69 : decode b_M_erase 69 = .ok (.iconst 3, 1) := by decide +kernel
theorem d_M_erase_70 : decode b_M_erase 70 = .ok (.goto 13, 3) := by decide +kernel
theorem d_M_erase_73 : decode b_M_erase 73 = .ok (.iload_n 3, 1) := by decide +kernel
theorem d_M_erase_74 : decode b_M_erase 74 = .ok (.iconst (-1), 1) := by decide +kernel
theorem d_M_erase_75 : decode b_M_erase 75 = .ok (.if_icmp .ne 7, 3) := by decide +kernel
theorem d_M_erase_78 : decode b_M_erase 78 = .ok (.iconst 2, 1) := by decide +kernel
theorem d_M_erase_79 : decode b_M_erase 79 = .ok (.goto 4, 3) := by decide +kernel
theorem d_M_erase_82 : decode b_M_erase 82 = .ok (.iconst 1, 1) := by decide +kernel
theorem d_M_erase_83 : decode b_M_erase 83 = .ok (.iload_n 1, 1) := by decide +kernel
theorem d_M_erase_84 : decode b_M_erase 84 = .ok (.iload_n 2, 1) := by decide +kernel
theorem d_M_erase_85 : decode b_M_erase 85 = .ok (.iload_n 3, 1) := by decide +kernel
theorem d_M_erase_86 : decode b_M_erase 86 = .ok (.iconst 0, 1) := by decide +kernel
theorem d_M_erase_87 : decode b_M_erase 87 = .ok (.invokevirtual 114, 3) := by decide +kernel
theorem d_M_erase_90 : decode b_M_erase 90 = .ok (.iconst 1, 1) := by decide +kernel
theorem d_M_erase_91 : decode b_M_erase 91 = .ok (.ireturn, 1) := by decide +kernel
theorem d_M_expect_0 : decode b_M_expect 0 = .ok (.iload_n 1, 1) := by decide +kernel
theorem d_M_expect_1 : decode b_M_expect 1 = .ok (.invokestatic 96, 3) := by decide +kernel
theorem d_M_expect_4 : decode b_M_expect 4 = .ok (.ifCond .eq 10, 3) := by decide +kernel
theorem d_M_expect_7 : decode b_M_expect 7 = .ok (.iload_n 2, 1) := by decide +kernel
theorem d_M_expect_8 : decode b_M_expect 8 = .ok (.invokestatic 105, 3) := by decide +kernel
theorem d_M_expect_11 : decode b_M_expect 11 = .ok (.ifCond .ne 5, 3) := by decide +kernel
theorem d_M_expect_14 : decode b_M_expect 14 = .ok (.iconst 0, 1) := by decide +kernel
theorem d_M_expect_15 : decode b_M_expect 15 = .ok (.ireturn, 1) := by decide +kernel
theorem d_M_expect_16 : decode b_M_expect 16 = .ok (.aload_n 0, 1) := by decide +kernel
theorem d_M_expect_17 : decode b_M_expect 17 = .ok (.iconst 1, 1) := by decide +kernel
theorem d_M_expect_18 : decode b_M_expect 18 = .ok (.putfield 118, 3) := by decide +kernel
theorem d_M_expect_21 : decode b_M_expect 21 = .ok (.aload_n 0, 1) := by decide +kernel
theorem d_M_expect_22 : decode b_M_expect 22 = .ok (.iload_n 1, 1) := by decide +kernel
theorem d_M_expect_23 : decode b_M_expect 23 = .ok (.putfield 122, 3) := by decide +kernel
theorem d_M_expect_26 : decode b_M_expect 26 = .ok (.aload_n 0, 1) := by decide +kernel
theorem d_M_expect_27 : decode b_M_expect 27 = .ok (.iload_n 2, 1) := by decide +kernel
theorem d_M_expect_28 : decode b_M_expect 28 = .ok (.putfield 125, 3) := by decide +kernel
theorem d_M_expect_31 : decode b_M_expect 31 = .ok (.aload_n 0, 1) := by decide +kernel
theorem d_M_expect_32 : decode b_M_expect 32 = .ok (.iload_n 3, 1) := by decide +kernel
theorem d_M_expect_33 : decode b_M_expect 33 = .ok (.putfield 128, 3) := by decide +kernel
theorem d_M_expect_36 : decode b_M_expect 36 = .ok (.aload_n 0, 1) := by decide +kernel
theorem d_M_expect_37 : decode b_M_expect 37 = .ok (.iload 4, 2) := by decide +kernel
theorem d_M_expect_39 : decode b_M_expect 39 = .ok (.putfield 131, 3) := by decide +kernel
theorem d_M_expect_42 : decode b_M_expect 42 = .ok (.iconst 1, 1) := by decide +kernel
theorem d_M_expect_43 : decode b_M_expect 43 = .ok (.ireturn, 1) := by decide +kernel
theorem d_M_isMet_0 : decode b_M_isMet 0 = .ok (.aload_n 0, 1) := by decide +kernel
theorem d_M_isMet_1 : decode b_M_isMet 1 = .ok (.getfield 118, 3) := by decide +kernel
theorem d_M_isMet_4 : decode b_M_isMet 4 = .ok (.ifCond .ne 5, 3) := by decide +kernel
theorem d_M_isMet_7 : decode b_M_isMet 7 = .ok (.iconst 1, 1) := by decide +kernel
theorem d_M_isMet_8 : decode b_M_isMet 8 = .ok (.ireturn, 1) := by decide +kernel
theorem d_M_isMet_9 : decode b_M_isMet 9 = .ok (.aload_n 0, 1) := by decide +kernel
theorem d_M_isMet_10 : decode b_M_isMet 10 = .ok (.aload_n 0, 1) := by decide +kernel
theorem d_M_isMet_11 : decode b_M_isMet 11 = .ok (.getfield 122, 3) := by decide +kernel
theorem d_M_isMet_14 : decode b_M_isMet 14 = .ok (.aload_n 0, 1) := by decide +kernel
theorem d_M_isMet_15 : decode b_M_isMet 15 = .ok (.getfield 125, 3) := by decide +kernel
theorem d_M_isMet_18 : decode b_M_isMet 18 = .ok (.sipush 10000, 3) := by decide +kernel
theorem d_M_isMet_21 : decode b_M_isMet 21 = .ok (.invokevirtual 134, 3) := by decide +kernel
theorem d_M_isMet_24 : decode b_M_isMet 24 = .ok (.istore_n 1, 1) := by decide +kernel
theorem d_M_isMet_25 : decode b_M_isMet 25 = .ok (.aload_n 0, 1) := by decide +kernel
theorem d_M_isMet_26 : decode b_M_isMet 26 = .ok (.getfield 128, 3) := by decide +kernel
theorem d_M_isMet_29 : decode b_M_isMet 29 = .ok (.ifCond .eq 28, 3) := by decide +kernel
theorem d_M_isMet_32 : decode b_M_isMet 32 = .ok (.iload_n 1, 1) := by decide +kernel
theorem d_M_isMet_33 : decode b_M_isMet 33 = .ok (.ifCond .lt 20, 3) := by decide +kernel
theorem d_M_isMet_36 : decode b_M_isMet 36 = .ok (.aload_n 0, 1) := by decide +kernel
theorem d_M_isMet_37 : decode b_M_isMet 37 = .ok (.getfield 22, 3) := by decide +kernel
theorem d_M_isMet_40 : decode b_M_isMet 40 = .ok (.iload_n 1, 1) := by decide +kernel
theorem d_M_isMet_41 : decode b_M_isMet 41 = .ok (.iaload, 1) := by decide +kernel
theorem d_M_isMet_42 : decode b_M_isMet 42 = .ok (.aload_n 0, 1) := by decide +kernel
theorem d_M_isMet_43 : decode b_M_isMet 43 = .ok (.getfield 131, 3) := by decide +kernel
theorem d_M_isMet_46 : decode b_M_isMet 46 = .ok (.if_icmp .ne 7, 3) := by decide +kernel
theorem d_M_isMet_49 : decode b_M_isMet 49 = .ok (.iconst 1, 1) := by decide +kernel
theorem d_M_isMet_50 : decode b_M_isMet 50 = .ok (.goto 16, 3) := by decide +kernel
theorem d_M_isMet_53 : decode b_M_isMet 53 = .ok (.iconst 0, 1) := by decide +kernel
theorem d_M_isMet_54 : decode b_M_isMet 54 = .ok (.goto 12, 3) := by decide +kernel
theorem d_M_isMet_57 : decode b_M_isMet 57 = .ok (.iload_n 1, 1) := by decide +kernel
theorem d_M_isMet_58 : decode b_M_isMet 58 = .ok (.ifCond .ge 7, 3) := by decide +kernel
theorem d_M_isMet_61 : decode b_M_isMet 61 = .ok (.iconst 1, 1) := by decide +kernel
theorem d_M_isMet_62 : decode b_M_isMet 62 = .ok (.goto 4, 3) := by decide +kernel
theorem d_M_isMet_65 : decode b_M_isMet 65 = .ok (.iconst 0, 1) := by decide +kernel
theorem d_M_isMet_66 : decode b_M_isMet 66 = .ok (.ireturn, 1) := by decide +kernel
theorem d_M_drop_0 : decode b_M_drop 0 = .ok (.aload_n 0, 1) := by decide +kernel
theorem d_M_drop_1 : decode b_M_drop 1 = .ok (.iconst 0, 1) := by decide +kernel
theorem d_M_drop_2 : decode b_M_drop 2 = .ok (.putfield 99, 3) := by decide +kernel
theorem d_M_drop_5 : decode b_M_drop 5 = .ok (.aload_n 0, 1) := by decide +kernel
theorem d_M_drop_6 : decode b_M_drop 6 = .ok (.iconst 0, 1) := by decide +kernel
theorem d_M_drop_7 : decode b_M_drop 7 = .ok (.putfield 118, 3) := by decide +kernel
theorem d_M_drop_10 : decode b_M_drop 10 = .ok (.return_, 1) := by decide +kernel
theorem d_M_trim_0 : decode b_M_trim 0 = .ok (.aload_n 0, 1) := by decide +kernel
theorem d_M_trim_1 : decode b_M_trim 1 = .ok (.getfield 44, 3) := by decide +kernel
theorem d_M_trim_4 : decode b_M_trim 4 = .ok (.iload_n 2, 1) := by decide +kernel
theorem d_M_trim_5 : decode b_M_trim 5 = .ok (.iconst 4, 1) := by decide +kernel
theorem d_M_trim_6 : decode b_M_trim 6 = .ok (.idiv, 1) := by decide +kernel
theorem d_M_trim_7 : decode b_M_trim 7 = .ok (.iaload, 1) := by decide +kernel
theorem d_M_trim_8 : decode b_M_trim 8 = .ok (.istore_n 3, 1) := by decide +kernel
theorem d_M_trim_9 : decode b_M_trim 9 = .ok (.iconst 0, 1) := by decide +kernel
theorem d_M_trim_10 : decode b_M_trim 10 = .ok (.istore 4, 2) := by decide +kernel
theorem d_M_trim_12 : decode b_M_trim 12 = .ok (.iconst (-1), 1) := by decide +kernel
theorem d_M_trim_13 : decode b_M_trim 13 = .ok (.istore 5, 2) := by decide +kernel
theorem d_M_trim_15 : decode b_M_trim 15 = .ok (.aload_n 0, 1) := by decide +kernel
theorem d_M_trim_16 : decode b_M_trim 16 = .ok (.iload_n 1, 1) := by decide +kernel
theorem d_M_trim_17 : decode b_M_trim 17 = .ok (.iload_n 2, 1) := by decide +kernel
theorem d_M_trim_18 : decode b_M_trim 18 = .ok (.sipush 10000, 3) := by decide +kernel
theorem d_M_trim_21 : decode b_M_trim 21 = .ok (.invokevirtual 134, 3) := by decide +kernel
theorem d_M_trim_24 : decode b_M_trim 24 = .ok (.istore 6, 2) := by decide +kernel
theorem d_M_trim_26 : decode b_M_trim 26 = .ok (.iload 6, 2) := by decide +kernel
theorem d_M_trim_28 : decode b_M_trim 28 = .ok (.ifCond .lt 28, 3) := by decide +kernel
theorem d_M_trim_31 : decode b_M_trim 31 = .ok (.iinc 4 1, 3) := by decide +kernel
theorem d_M_trim_34 : decode b_M_trim 34 = .ok (.iload 6, 2) := by decide +kernel
theorem d_M_trim_36 : decode b_M_trim 36 = .ok (.istore 5, 2) := by decide +kernel
theorem d_M_trim_38 : decode b_M_trim 38 = .ok (.aload_n 0, 1) := by decide +kernel
theorem d_M_trim_39 : decode b_M_trim 39 = .ok (.iload_n 1, 1) := by decide +kernel
theorem d_M_trim_40 : decode b_M_trim 40 = .ok (.iload_n 2, 1) := by decide +kernel
theorem d_M_trim_41 : decode b_M_trim 41 = .ok (.aload_n 0, 1) := by decide +kernel
theorem d_M_trim_42 : decode b_M_trim 42 = .ok (.getfield 19, 3) := by decide +kernel
theorem d_M_trim_45 : decode b_M_trim 45 = .ok (.iload 6, 2) := by decide +kernel
theorem d_M_trim_47 : decode b_M_trim 47 = .ok (.iaload, 1) := by decide +kernel
theorem d_M_trim_48 : decode b_M_trim 48 = .ok (.invokevirtual 134, 3) := by decide +kernel
theorem d_M_trim_51 : decode b_M_trim 51 = .ok (.istore 6, 2) := by decide +kernel
theorem d_M_trim_53 : decode b_M_trim 53 = .ok (.goto (-27), 3) := by decide +kernel
theorem d_M_trim_56 : decode b_M_trim 56 = .ok (.iload_n 3, 1) := by decide +kernel
theorem d_M_trim_57 : decode b_M_trim 57 = .ok (.ifCond .eq 24, 3) := by decide +kernel
theorem d_M_trim_60 : decode b_M_trim 60 = .ok (.iload 4, 2) := by decide +kernel
theorem d_M_trim_62 : decode b_M_trim 62 = .ok (.iload_n 3, 1) := by decide +kernel
theorem d_M_trim_63 : decode b_M_trim 63 = .ok (.if_icmp .le 18, 3) := by decide +kernel
theorem d_M_trim_66 : decode b_M_trim 66 = .ok (.aload_n 0, 1) := by decide +kernel
theorem d_M_trim_67 : decode b_M_trim 67 = .ok (.iconst 1, 1) := by decide +kernel
theorem d_M_trim_68 : decode b_M_trim 68 = .ok (.iload_n 1, 1) := by decide +kernel
theorem d_M_trim_69 : decode b_M_trim 69 = .ok (.iload_n 2, 1) := by decide +kernel
theorem d_M_trim_70 : decode b_M_trim 70 = .ok (.aload_n 0, 1) := by decide +kernel
theorem d_M_trim_71 : decode b_M_trim 71 = .ok (.getfield 19, 3) := by decide +kernel
theorem d_M_trim_74 : decode b_M_trim 74 = .ok (.iload 5, 2) := by decide +kernel
theorem d_M_trim_76 : decode b_M_trim 76 = .ok (.iaload, 1) := by decide +kernel
theorem d_M_trim_77 : decode b_M_trim 77 = .ok (.iconst 0, 1) := by decide +kernel
theorem d_M_trim_78 : decode b_M_trim 78 = .ok (.invokevirtual 138, 3) := by decide +kernel
theorem d_M_trim_81 : decode b_M_trim 81 = .ok (.return_, 1) := by decide +kernel
theorem d_M_apply_0 : decode b_M_apply 0 = .ok (.aload_n 0, 1) := by decide +kernel
theorem d_M_apply_1 : decode b_M_apply 1 = .ok (.getfield 99, 3) := by decide +kernel
theorem d_M_apply_4 : decode b_M_apply 4 = .ok (.ifCond .ne 5, 3) := by decide +kernel
theorem d_M_apply_7 : decode b_M_apply 7 = .ok (.iconst (-1), 1) := by decide +kernel
theorem d_M_apply_8 : decode b_M_apply 8 = .ok (.ireturn, 1) := by decide +kernel
theorem d_M_apply_9 : decode b_M_apply 9 = .ok (.aload_n 0, 1) := by decide +kernel
theorem d_M_apply_10 : decode b_M_apply 10 = .ok (.getfield 79, 3) := by decide +kernel
theorem d_M_apply_13 : decode b_M_apply 13 = .ok (.sipush 240, 3) := by decide +kernel
theorem d_M_apply_16 : decode b_M_apply 16 = .ok (.if_icmp .lt 6, 3) := by decide +kernel
theorem d_M_apply_19 : decode b_M_apply 19 = .ok (.bipush (-2), 2) := by decide +kernel
theorem d_M_apply_21 : decode b_M_apply 21 = .ok (.ireturn, 1) := by decide +kernel
theorem d_M_apply_22 : decode b_M_apply 22 = .ok (.aload_n 0, 1) := by decide +kernel
theorem d_M_apply_23 : decode b_M_apply 23 = .ok (.invokevirtual 141, 3) := by decide +kernel
theorem d_M_apply_26 : decode b_M_apply 26 = .ok (.istore_n 1, 1) := by decide +kernel
theorem d_M_apply_27 : decode b_M_apply 27 = .ok (.aload_n 0, 1) := by decide +kernel
theorem d_M_apply_28 : decode b_M_apply 28 = .ok (.getfield 102, 3) := by decide +kernel
theorem d_M_apply_31 : decode b_M_apply 31 = .ok (.istore_n 2, 1) := by decide +kernel
theorem d_M_apply_32 : decode b_M_apply 32 = .ok (.aload_n 0, 1) := by decide +kernel
theorem d_M_apply_33 : decode b_M_apply 33 = .ok (.getfield 99, 3) := by decide +kernel
theorem d_M_apply_36 : decode b_M_apply 36 = .ok (.istore_n 3, 1) := by decide +kernel
theorem d_M_apply_37 : decode b_M_apply 37 = .ok (.aload_n 0, 1) := by decide +kernel
theorem d_M_apply_38 : decode b_M_apply 38 = .ok (.invokevirtual 145, 3) := by decide +kernel
theorem d_M_apply_41 : decode b_M_apply 41 = .ok (.aload_n 0, 1) := by decide +kernel
theorem d_M_apply_42 : decode b_M_apply 42 = .ok (.getfield 148, 3) := by decide +kernel
theorem d_M_apply_45 : decode b_M_apply 45 = .ok (.ifCond .eq 11, 3) := by decide +kernel
theorem d_M_apply_48 : decode b_M_apply 48 = .ok (.aload_n 0, 1) := by decide +kernel
theorem d_M_apply_49 : decode b_M_apply 49 = .ok (.iconst 0, 1) := by decide +kernel
theorem d_M_apply_50 : decode b_M_apply 50 = .ok (.putfield 148, 3) := by decide +kernel
theorem d_M_apply_53 : decode b_M_apply 53 = .ok (.bipush (-3), 2) := by decide +kernel
theorem d_M_apply_55 : decode b_M_apply 55 = .ok (.ireturn, 1) := by decide +kernel
theorem d_M_apply_56 : decode b_M_apply 56 = .ok (.iload_n 1, 1) := by decide +kernel
theorem d_M_apply_57 : decode b_M_apply 57 = .ok (.ifCond .ne 5, 3) := by decide +kernel
theorem d_M_apply_60 : decode b_M_apply 60 = .ok (.iconst 0, 1) := by decide +kernel
theorem d_M_apply_61 : decode b_M_apply 61 = .ok (.ireturn, 1) := by decide +kernel
theorem d_M_apply_62 : decode b_M_apply 62 = .ok (.aload_n 0, 1) := by decide +kernel
theorem d_M_apply_63 : decode b_M_apply 63 = .ok (.getfield 79, 3) := by decide +kernel
theorem d_M_apply_66 : decode b_M_apply 66 = .ok (.istore 4, 2) := by decide +kernel
theorem d_M_apply_68 : decode b_M_apply 68 = .ok (.aload_n 0, 1) := by decide +kernel
theorem d_M_apply_69 : decode b_M_apply 69 = .ok (.dup, 1) := by decide +kernel
theorem d_M_apply_70 : decode b_M_apply 70 = .ok (.getfield 89, 3) := by decide +kernel
theorem d_M_apply_73 : decode b_M_apply 73 = .ok (.iconst 1, 1) := by decide +kernel
theorem d_M_apply_74 : decode b_M_apply 74 = .ok (.iadd, 1) := by decide +kernel
theorem d_M_apply_75 : decode b_M_apply 75 = .ok (.putfield 89, 3) := by decide +kernel
theorem d_M_apply_78 : decode b_M_apply 78 = .ok (.iconst 0, 1) := by decide +kernel
theorem d_M_apply_79 : decode b_M_apply 79 = .ok (.istore 5, 2) := by decide +kernel
theorem d_M_apply_81 : decode b_M_apply 81 = .ok (.iload 5, 2) := by decide +kernel
theorem d_M_apply_83 : decode b_M_apply 83 = .ok (.iload_n 3, 1) := by decide +kernel
theorem d_M_apply_84 : decode b_M_apply 84 = .ok (.if_icmp .ge 64, 3) := by decide +kernel
theorem d_M_apply_87 : decode b_M_apply 87 = .ok (.aload_n 0, 1) := by decide +kernel
theorem d_M_apply_88 : decode b_M_apply 88 = .ok (.aload_n 0, 1) := by decide +kernel
theorem d_M_apply_89 : decode b_M_apply 89 = .ok (.getfield 50, 3) := by decide +kernel
theorem d_M_apply_92 : decode b_M_apply 92 = .ok (.iload 5, 2) := by decide +kernel
theorem d_M_apply_94 : decode b_M_apply 94 = .ok (.iaload, 1) := by decide +kernel
theorem d_M_apply_95 : decode b_M_apply 95 = .ok (.iload_n 2, 1) := by decide +kernel
theorem d_M_apply_96 : decode b_M_apply 96 = .ok (.aload_n 0, 1) := by decide +kernel
theorem d_M_apply_97 : decode b_M_apply 97 = .ok (.getfield 53, 3) := by decide +kernel
theorem d_M_apply_100 : decode b_M_apply 100 = .ok (.iload 5, 2) := by decide +kernel
theorem d_M_apply_102 : decode b_M_apply 102 = .ok (.iaload, 1) := by decide +kernel
theorem d_M_apply_103 : decode b_M_apply 103 = .ok (.aload_n 0, 1) := by decide +kernel
theorem d_M_apply_104 : decode b_M_apply 104 = .ok (.getfield 56, 3) := by decide +kernel
theorem d_M_apply_107 : decode b_M_apply 107 = .ok (.iload 5, 2) := by decide +kernel
theorem d_M_apply_109 : decode b_M_apply 109 = .ok (.iaload, 1) := by decide +kernel
theorem d_M_apply_110 : decode b_M_apply 110 = .ok (.aload_n 0, 1) := by decide +kernel
theorem d_M_apply_111 : decode b_M_apply 111 = .ok (.getfield 59, 3) := by decide +kernel
theorem d_M_apply_114 : decode b_M_apply 114 = .ok (.iload 5, 2) := by decide +kernel
theorem d_M_apply_116 : decode b_M_apply 116 = .ok (.iaload, 1) := by decide +kernel
theorem d_M_apply_117 : decode b_M_apply 117 = .ok (.invokevirtual 138, 3) := by decide +kernel
theorem d_M_apply_120 : decode b_M_apply 120 = .ok (.aload_n 0, 1) := by decide +kernel
theorem d_M_apply_121 : decode b_M_apply 121 = .ok (.getfield 50, 3) := by decide +kernel
theorem d_M_apply_124 : decode b_M_apply 124 = .ok (.iload 5, 2) := by decide +kernel
theorem d_M_apply_126 : decode b_M_apply 126 = .ok (.iaload, 1) := by decide +kernel
theorem d_M_apply_127 : decode b_M_apply 127 = .ok (.ifCond .ne 15, 3) := by decide +kernel
theorem d_M_apply_130 : decode b_M_apply 130 = .ok (.aload_n 0, 1) := by decide +kernel
theorem d_M_apply_131 : decode b_M_apply 131 = .ok (.iload_n 2, 1) := by decide +kernel
theorem d_M_apply_132 : decode b_M_apply 132 = .ok (.aload_n 0, 1) := by decide +kernel
theorem d_M_apply_133 : decode b_M_apply 133 = .ok (.getfield 53, 3) := by decide +kernel
theorem d_M_apply_136 : decode b_M_apply 136 = .ok (.iload 5, 2) := by decide +kernel
theorem d_M_apply_138 : decode b_M_apply 138 = .ok (.iaload, 1) := by decide +kernel
theorem d_M_apply_139 : decode b_M_apply 139 = .ok (.invokevirtual 151, 3) := by decide +kernel
theorem d_M_apply_142 : decode b_M_apply 142 = .ok (.iinc 5 1, 3) := by decide +kernel
theorem d_M_apply_145 : decode b_M_apply 145 = .ok (.goto (-64), 3) := by decide +kernel
theorem d_M_apply_148 : decode b_M_apply 148 = .ok (.aload_n 0, 1) := by decide +kernel
theorem d_M_apply_149 : decode b_M_apply 149 = .ok (.getfield 79, 3) := by decide +kernel
theorem d_M_apply_152 : decode b_M_apply 152 = .ok (.iload 4, 2) := by decide +kernel
theorem d_M_apply_154 : decode b_M_apply 154 = .ok (.isub, 1) := by decide +kernel
theorem d_M_apply_155 : decode b_M_apply 155 = .ok (.istore 5, 2) := by decide +kernel
theorem d_M_apply_157 : decode b_M_apply 157 = .ok (.aload_n 0, 1) := by decide +kernel
theorem d_M_apply_158 : decode b_M_apply 158 = .ok (.iload_n 2, 1) := by decide +kernel
theorem d_M_apply_159 : decode b_M_apply 159 = .ok (.invokevirtual 92, 3) := by decide +kernel
theorem d_M_apply_162 : decode b_M_apply 162 = .ok (.istore 6, 2) := by decide +kernel
theorem d_M_apply_164 : decode b_M_apply 164 = .ok (.aload_n 0, 1) := by decide +kernel
theorem d_M_apply_165 : decode b_M_apply 165 = .ok (.iload 6, 2) := by decide +kernel
theorem d_M_apply_167 : decode b_M_apply 167 = .ok (.iconst (-1), 1) := by decide +kernel
theorem d_M_apply_168 : decode b_M_apply 168 = .ok (.invokevirtual 155, 3) := by decide +kernel
theorem d_M_apply_171 : decode b_M_apply 171 = .ok (.bipush 16, 2) := by decide +kernel
theorem d_M_apply_173 : decode b_M_apply 173 = .ok (.if_icmp .lt 10, 3) := by decide +kernel
theorem d_M_apply_176 : decode b_M_apply 176 = .ok (.aload_n 0, 1) := by decide +kernel
theorem d_M_apply_177 : decode b_M_apply 177 = .ok (.iload 6, 2) := by decide +kernel
theorem d_M_apply_179 : decode b_M_apply 179 = .ok (.invokevirtual 158, 3) := by decide +kernel
theorem d_M_apply_182 : decode b_M_apply 182 = .ok (.pop, 1) := by decide +kernel
theorem d_M_apply_183 : decode b_M_apply 183 = .ok (.iload 5, 2) := by decide +kernel
theorem d_M_apply_185 : decode b_M_apply 185 = .ok (.ireturn, 1) := by decide +kernel
