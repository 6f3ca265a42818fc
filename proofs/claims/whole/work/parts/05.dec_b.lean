theorem d_T_flushTablet_0 : decode b_T_flushTablet 0 = .ok (.aload_n 0, 1) := by decide +kernel
theorem d_T_flushTablet_1 : decode b_T_flushTablet 1 = .ok (.iload_n 1, 1) := by decide +kernel
theorem d_T_flushTablet_2 : decode b_T_flushTablet 2 = .ok (.iconst (-1), 1) := by decide +kernel
theorem d_T_flushTablet_3 : decode b_T_flushTablet 3 = .ok (.invokevirtual 149, 3) := by decide +kernel
theorem d_T_flushTablet_6 : decode b_T_flushTablet 6 = .ok (.istore_n 2, 1) := by decide +kernel
theorem d_T_flushTablet_7 : decode b_T_flushTablet 7 = .ok (.aload_n 0, 1) := by decide +kernel
theorem d_T_flushTablet_8 : decode b_T_flushTablet 8 = .ok (.iload_n 1, 1) := by decide +kernel
theorem d_T_flushTablet_9 : decode b_T_flushTablet 9 = .ok (.invokevirtual 238, 3) := by decide +kernel
theorem d_T_flushTablet_12 : decode b_T_flushTablet 12 = .ok (.istore_n 3, 1) := by decide +kernel
theorem d_T_flushTablet_13 : decode b_T_flushTablet 13 = .ok (.aload_n 0, 1) := by decide +kernel
theorem d_T_flushTablet_14 : decode b_T_flushTablet 14 = .ok (.iload_n 1, 1) := by decide +kernel
theorem d_T_flushTablet_15 : decode b_T_flushTablet 15 = .ok (.invokevirtual 217, 3) := by decide +kernel
theorem d_T_flushTablet_18 : decode b_T_flushTablet 18 = .ok (.istore 4, 2) := by decide +kernel
theorem d_T_flushTablet_20 : decode b_T_flushTablet 20 = .ok (.aload_n 0, 1) := by decide +kernel
theorem d_T_flushTablet_21 : decode b_T_flushTablet 21 = .ok (.iload_n 1, 1) := by decide +kernel
theorem d_T_flushTablet_22 : decode b_T_flushTablet 22 = .ok (.invokevirtual 223, 3) := by decide +kernel
theorem d_T_flushTablet_25 : decode b_T_flushTablet 25 = .ok (.istore 5, 2) := by decide +kernel
theorem d_T_flushTablet_27 : decode b_T_flushTablet 27 = .ok (.iload 5, 2) := by decide +kernel
theorem d_T_flushTablet_29 : decode b_T_flushTablet 29 = .ok (.iload 4, 2) := by decide +kernel
theorem d_T_flushTablet_31 : decode b_T_flushTablet 31 = .ok (.if_icmp .ge 34, 3) := by decide +kernel
theorem d_T_flushTablet_34 : decode b_T_flushTablet 34 = .ok (.aload_n 0, 1) := by decide +kernel
theorem d_T_flushTablet_35 : decode b_T_flushTablet 35 = .ok (.getfield 22, 3) := by decide +kernel
theorem d_T_flushTablet_38 : decode b_T_flushTablet 38 = .ok (.iload 5, 2) := by decide +kernel
theorem d_T_flushTablet_40 : decode b_T_flushTablet 40 = .ok (.aaload, 1) := by decide +kernel
theorem d_T_flushTablet_41 : decode b_T_flushTablet 41 = .ok (.getfield 226, 3) := by decide +kernel
theorem d_T_flushTablet_44 : decode b_T_flushTablet 44 = .ok (.iconst (-1), 1) := by decide +kernel
theorem d_T_flushTablet_45 : decode b_T_flushTablet 45 = .ok (.if_icmp .ne 14, 3) := by decide +kernel
theorem d_T_flushTablet_48 : decode b_T_flushTablet 48 = .ok (.aload_n 0, 1) := by decide +kernel
theorem d_T_flushTablet_49 : decode b_T_flushTablet 49 = .ok (.getfield 22, 3) := by decide +kernel
theorem d_T_flushTablet_52 : decode b_T_flushTablet 52 = .ok (.iload 5, 2) := by decide +kernel
theorem d_T_flushTablet_54 : decode b_T_flushTablet 54 = .ok (.aaload, 1) := by decide +kernel
theorem d_T_flushTablet_55 : decode b_T_flushTablet 55 = .ok (.iload_n 3, 1) := by decide +kernel
theorem d_T_flushTablet_56 : decode b_T_flushTablet 56 = .ok (.putfield 226, 3) := by decide +kernel
theorem d_T_flushTablet_59 : decode b_T_flushTablet 59 = .ok (.iinc 5 1, 3) := by decide +kernel
theorem d_T_flushTablet_62 : decode b_T_flushTablet 62 = .ok (.goto (-35), 3) := by decide +kernel
theorem d_T_flushTablet_65 : decode b_T_flushTablet 65 = .ok (.iload_n 2, 1) := by decide +kernel
theorem d_T_flushTablet_66 : decode b_T_flushTablet 66 = .ok (.ireturn, 1) := by decide +kernel
theorem d_T_isCoveredInTables_0 : decode b_T_isCoveredInTables 0 = .ok (.aload_n 0, 1) := by decide +kernel
theorem d_T_isCoveredInTables_1 : decode b_T_isCoveredInTables 1 = .ok (.getfield 22, 3) := by decide +kernel
theorem d_T_isCoveredInTables_4 : decode b_T_isCoveredInTables 4 = .ok (.iload_n 1, 1) := by decide +kernel
theorem d_T_isCoveredInTables_5 : decode b_T_isCoveredInTables 5 = .ok (.aaload, 1) := by decide +kernel
theorem d_T_isCoveredInTables_6 : decode b_T_isCoveredInTables 6 = .ok (.astore_n 3, 1) := by decide +kernel
theorem d_T_isCoveredInTables_7 : decode b_T_isCoveredInTables 7 = .ok (.iload_n 1, 1) := by decide +kernel
theorem d_T_isCoveredInTables_8 : decode b_T_isCoveredInTables 8 = .ok (.iconst 1, 1) := by decide +kernel
theorem d_T_isCoveredInTables_9 : decode b_T_isCoveredInTables 9 = .ok (.isub, 1) := by decide +kernel
theorem d_T_isCoveredInTables_10 : decode b_T_isCoveredInTables 10 = .ok (.istore 4, 2) := by decide +kernel
theorem d_T_isCoveredInTables_12 : decode b_T_isCoveredInTables 12 = .ok (.iload 4, 2) := by decide +kernel
theorem d_T_isCoveredInTables_14 : decode b_T_isCoveredInTables 14 = .ok (.ifCond .lt 56, 3) := by decide +kernel
theorem d_T_isCoveredInTables_17 : decode b_T_isCoveredInTables 17 = .ok (.aload_n 0, 1) := by decide +kernel
theorem d_T_isCoveredInTables_18 : decode b_T_isCoveredInTables 18 = .ok (.getfield 22, 3) := by decide +kernel
theorem d_T_isCoveredInTables_21 : decode b_T_isCoveredInTables 21 = .ok (.iload 4, 2) := by decide +kernel
theorem d_T_isCoveredInTables_23 : decode b_T_isCoveredInTables 23 = .ok (.aaload, 1) := by decide +kernel
theorem d_T_isCoveredInTables_24 : decode b_T_isCoveredInTables 24 = .ok (.getfield 202, 3) := by decide +kernel
theorem d_T_isCoveredInTables_27 : decode b_T_isCoveredInTables 27 = .ok (.aload_n 3, 1) := by decide +kernel
theorem d_T_isCoveredInTables_28 : decode b_T_isCoveredInTables 28 = .ok (.getfield 202, 3) := by decide +kernel
theorem d_T_isCoveredInTables_31 : decode b_T_isCoveredInTables 31 = .ok (.if_icmp .ne 39, 3) := by decide +kernel
theorem d_T_isCoveredInTables_34 : decode b_T_isCoveredInTables 34 = .ok (.aload_n 0, 1) := by decide +kernel
theorem d_T_isCoveredInTables_35 : decode b_T_isCoveredInTables 35 = .ok (.getfield 22, 3) := by decide +kernel
theorem d_T_isCoveredInTables_38 : decode b_T_isCoveredInTables 38 = .ok (.iload 4, 2) := by decide +kernel
theorem d_T_isCoveredInTables_40 : decode b_T_isCoveredInTables 40 = .ok (.aaload, 1) := by decide +kernel
theorem d_T_isCoveredInTables_41 : decode b_T_isCoveredInTables 41 = .ok (.getfield 226, 3) := by decide +kernel
theorem d_T_isCoveredInTables_44 : decode b_T_isCoveredInTables 44 = .ok (.iload_n 2, 1) := by decide +kernel
theorem d_T_isCoveredInTables_45 : decode b_T_isCoveredInTables 45 = .ok (.if_icmp .lt 19, 3) := by decide +kernel
theorem d_T_isCoveredInTables_48 : decode b_T_isCoveredInTables 48 = .ok (.aload_n 0, 1) := by decide +kernel
theorem d_T_isCoveredInTables_49 : decode b_T_isCoveredInTables 49 = .ok (.getfield 22, 3) := by decide +kernel
theorem d_T_isCoveredInTables_52 : decode b_T_isCoveredInTables 52 = .ok (.iload 4, 2) := by decide +kernel
theorem d_T_isCoveredInTables_54 : decode b_T_isCoveredInTables 54 = .ok (.aaload, 1) := by decide +kernel
theorem d_T_isCoveredInTables_55 : decode b_T_isCoveredInTables 55 = .ok (.aload_n 3, 1) := by decide +kernel
theorem d_T_isCoveredInTables_56 : decode b_T_isCoveredInTables 56 = .ok (.invokevirtual 259, 3) := by decide +kernel
theorem d_T_isCoveredInTables_59 : decode b_T_isCoveredInTables 59 = .ok (.ifCond .eq 5, 3) := by decide +kernel
theorem d_T_isCoveredInTables_62 : decode b_T_isCoveredInTables 62 = .ok (.iconst 1, 1) := by decide +kernel
theorem d_T_isCoveredInTables_63 : decode b_T_isCoveredInTables 63 = .ok (.ireturn, 1) := by decide +kernel
theorem d_T_isCoveredInTables_64 : decode b_T_isCoveredInTables 64 = .ok (.iinc 4 (-1), 3) := by decide +kernel
theorem d_T_isCoveredInTables_67 : decode b_T_isCoveredInTables 67 = .ok (.goto (-55), 3) := by decide +kernel
theorem d_T_isCoveredInTables_70 : decode b_T_isCoveredInTables 70 = .ok (.iconst 0, 1) := by decide +kernel
theorem d_T_isCoveredInTables_71 : decode b_T_isCoveredInTables 71 = .ok (.ireturn, 1) := by decide +kernel
theorem d_T_mergeTables_0 : decode b_T_mergeTables 0 = .ok (.iconst 0, 1) := by decide +kernel
theorem d_T_mergeTables_1 : decode b_T_mergeTables 1 = .ok (.istore_n 3, 1) := by decide +kernel
theorem d_T_mergeTables_2 : decode b_T_mergeTables 2 = .ok (.aload_n 0, 1) := by decide +kernel
theorem d_T_mergeTables_3 : decode b_T_mergeTables 3 = .ok (.iload_n 1, 1) := by decide +kernel
theorem d_T_mergeTables_4 : decode b_T_mergeTables 4 = .ok (.invokevirtual 217, 3) := by decide +kernel
theorem d_T_mergeTables_7 : decode b_T_mergeTables 7 = .ok (.istore 4, 2) := by decide +kernel
theorem d_T_mergeTables_9 : decode b_T_mergeTables 9 = .ok (.aload_n 0, 1) := by decide +kernel
theorem d_T_mergeTables_10 : decode b_T_mergeTables 10 = .ok (.iload_n 1, 1) := by decide +kernel
theorem d_T_mergeTables_11 : decode b_T_mergeTables 11 = .ok (.invokevirtual 223, 3) := by decide +kernel
theorem d_T_mergeTables_14 : decode b_T_mergeTables 14 = .ok (.istore 5, 2) := by decide +kernel
theorem d_T_mergeTables_16 : decode b_T_mergeTables 16 = .ok (.iload 5, 2) := by decide +kernel
theorem d_T_mergeTables_18 : decode b_T_mergeTables 18 = .ok (.iload 4, 2) := by decide +kernel
theorem d_T_mergeTables_20 : decode b_T_mergeTables 20 = .ok (.if_icmp .ge 44, 3) := by decide +kernel
theorem d_T_mergeTables_23 : decode b_T_mergeTables 23 = .ok (.aload_n 0, 1) := by decide +kernel
theorem d_T_mergeTables_24 : decode b_T_mergeTables 24 = .ok (.getfield 22, 3) := by decide +kernel
theorem d_T_mergeTables_27 : decode b_T_mergeTables 27 = .ok (.iload 5, 2) := by decide +kernel
theorem d_T_mergeTables_29 : decode b_T_mergeTables 29 = .ok (.aaload, 1) := by decide +kernel
theorem d_T_mergeTables_30 : decode b_T_mergeTables 30 = .ok (.astore 6, 2) := by decide +kernel
theorem d_T_mergeTables_32 : decode b_T_mergeTables 32 = .ok (.aload 6, 2) := by decide +kernel
theorem d_T_mergeTables_34 : decode b_T_mergeTables 34 = .ok (.getfield 226, 3) := by decide +kernel
theorem d_T_mergeTables_37 : decode b_T_mergeTables 37 = .ok (.iload_n 2, 1) := by decide +kernel
theorem d_T_mergeTables_38 : decode b_T_mergeTables 38 = .ok (.if_icmp .lt 20, 3) := by decide +kernel
theorem d_T_mergeTables_41 : decode b_T_mergeTables 41 = .ok (.aload 6, 2) := by decide +kernel
theorem d_T_mergeTables_43 : decode b_T_mergeTables 43 = .ok (.getfield 247, 3) := by decide +kernel
theorem d_T_mergeTables_46 : decode b_T_mergeTables 46 = .ok (.ifCond .ne 12, 3) := by decide +kernel
theorem d_T_mergeTables_49 : decode b_T_mergeTables 49 = .ok (.aload 6, 2) := by decide +kernel
theorem d_T_mergeTables_51 : decode b_T_mergeTables 51 = .ok (.iload_n 2, 1) := by decide +kernel
theorem d_T_mergeTables_52 : decode b_T_mergeTables 52 = .ok (.putfield 226, 3) := by decide +kernel
theorem d_T_mergeTables_55 : decode b_T_mergeTables 55 = .ok (.iinc 3 1, 3) := by decide +kernel
theorem d_T_mergeTables_58 : decode b_T_mergeTables 58 = .ok (.iinc 5 1, 3) := by decide +kernel
theorem d_T_mergeTables_61 : decode b_T_mergeTables 61 = .ok (.goto (-45), 3) := by decide +kernel
theorem d_T_mergeTables_64 : decode b_T_mergeTables 64 = .ok (.aload_n 0, 1) := by decide +kernel
theorem d_T_mergeTables_65 : decode b_T_mergeTables 65 = .ok (.invokevirtual 262, 3) := by decide +kernel
theorem d_T_mergeTables_68 : decode b_T_mergeTables 68 = .ok (.iload_n 3, 1) := by decide +kernel
theorem d_T_mergeTables_69 : decode b_T_mergeTables 69 = .ok (.ireturn, 1) := by decide +kernel
theorem d_T_entriesIn_0 : decode b_T_entriesIn 0 = .ok (.iconst 0, 1) := by decide +kernel
theorem d_T_entriesIn_1 : decode b_T_entriesIn 1 = .ok (.istore_n 3, 1) := by decide +kernel
theorem d_T_entriesIn_2 : decode b_T_entriesIn 2 = .ok (.aload_n 0, 1) := by decide +kernel
theorem d_T_entriesIn_3 : decode b_T_entriesIn 3 = .ok (.iload_n 1, 1) := by decide +kernel
theorem d_T_entriesIn_4 : decode b_T_entriesIn 4 = .ok (.invokevirtual 217, 3) := by decide +kernel
theorem d_T_entriesIn_7 : decode b_T_entriesIn 7 = .ok (.istore 4, 2) := by decide +kernel
theorem d_T_entriesIn_9 : decode b_T_entriesIn 9 = .ok (.aload_n 0, 1) := by decide +kernel
theorem d_T_entriesIn_10 : decode b_T_entriesIn 10 = .ok (.iload_n 1, 1) := by decide +kernel
theorem d_T_entriesIn_11 : decode b_T_entriesIn 11 = .ok (.invokevirtual 223, 3) := by decide +kernel
theorem d_T_entriesIn_14 : decode b_T_entriesIn 14 = .ok (.istore 5, 2) := by decide +kernel
theorem d_T_entriesIn_16 : decode b_T_entriesIn 16 = .ok (.iload 5, 2) := by decide +kernel
theorem d_T_entriesIn_18 : decode b_T_entriesIn 18 = .ok (.iload 4, 2) := by decide +kernel
theorem d_T_entriesIn_20 : decode b_T_entriesIn 20 = .ok (.if_icmp .ge 26, 3) := by decide +kernel
theorem d_T_entriesIn_23 : decode b_T_entriesIn 23 = .ok (.aload_n 0, 1) := by decide +kernel
theorem d_T_entriesIn_24 : decode b_T_entriesIn 24 = .ok (.getfield 22, 3) := by decide +kernel
theorem d_T_entriesIn_27 : decode b_T_entriesIn 27 = .ok (.iload 5, 2) := by decide +kernel
theorem d_T_entriesIn_29 : decode b_T_entriesIn 29 = .ok (.aaload, 1) := by decide +kernel
theorem d_T_entriesIn_30 : decode b_T_entriesIn 30 = .ok (.getfield 226, 3) := by decide +kernel
theorem d_T_entriesIn_33 : decode b_T_entriesIn 33 = .ok (.iload_n 2, 1) := by decide +kernel
theorem d_T_entriesIn_34 : decode b_T_entriesIn 34 = .ok (.if_icmp .ne 6, 3) := by decide +kernel
theorem d_T_entriesIn_37 : decode b_T_entriesIn 37 = .ok (.iinc 3 1, 3) := by decide +kernel
theorem d_T_entriesIn_40 : decode b_T_entriesIn 40 = .ok (.iinc 5 1, 3) := by decide +kernel
theorem d_T_entriesIn_43 : decode b_T_entriesIn 43 = .ok (.goto (-27), 3) := by decide +kernel
theorem d_T_entriesIn_46 : decode b_T_entriesIn 46 = .ok (.iload_n 3, 1) := by decide +kernel
theorem d_T_entriesIn_47 : decode b_T_entriesIn 47 = .ok (.ireturn, 1) := by decide +kernel
theorem d_T_erasuresIn_0 : decode b_T_erasuresIn 0 = .ok (.iconst 0, 1) := by decide +kernel
theorem d_T_erasuresIn_1 : decode b_T_erasuresIn 1 = .ok (.istore_n 3, 1) := by decide +kernel
theorem d_T_erasuresIn_2 : decode b_T_erasuresIn 2 = .ok (.aload_n 0, 1) := by decide +kernel
theorem d_T_erasuresIn_3 : decode b_T_erasuresIn 3 = .ok (.iload_n 1, 1) := by decide +kernel
theorem d_T_erasuresIn_4 : decode b_T_erasuresIn 4 = .ok (.invokevirtual 217, 3) := by decide +kernel
theorem d_T_erasuresIn_7 : decode b_T_erasuresIn 7 = .ok (.istore 4, 2) := by decide +kernel
theorem d_T_erasuresIn_9 : decode b_T_erasuresIn 9 = .ok (.aload_n 0, 1) := by decide +kernel
theorem d_T_erasuresIn_10 : decode b_T_erasuresIn 10 = .ok (.iload_n 1, 1) := by decide +kernel
theorem d_T_erasuresIn_11 : decode b_T_erasuresIn 11 = .ok (.invokevirtual 223, 3) := by decide +kernel
theorem d_T_erasuresIn_14 : decode b_T_erasuresIn 14 = .ok (.istore 5, 2) := by decide +kernel
theorem d_T_erasuresIn_16 : decode b_T_erasuresIn 16 = .ok (.iload 5, 2) := by decide +kernel
theorem d_T_erasuresIn_18 : decode b_T_erasuresIn 18 = .ok (.iload 4, 2) := by decide +kernel
theorem d_T_erasuresIn_20 : decode b_T_erasuresIn 20 = .ok (.if_icmp .ge 39, 3) := by decide +kernel
theorem d_T_erasuresIn_23 : decode b_T_erasuresIn 23 = .ok (.aload_n 0, 1) := by decide +kernel
theorem d_T_erasuresIn_24 : decode b_T_erasuresIn 24 = .ok (.getfield 22, 3) := by decide +kernel
theorem d_T_erasuresIn_27 : decode b_T_erasuresIn 27 = .ok (.iload 5, 2) := by decide +kernel
theorem d_T_erasuresIn_29 : decode b_T_erasuresIn 29 = .ok (.aaload, 1) := by decide +kernel
theorem d_T_erasuresIn_30 : decode b_T_erasuresIn 30 = .ok (.getfield 226, 3) := by decide +kernel
theorem d_T_erasuresIn_33 : decode b_T_erasuresIn 33 = .ok (.iload_n 2, 1) := by decide +kernel
theorem d_T_erasuresIn_34 : decode b_T_erasuresIn 34 = .ok (.if_icmp .ne 19, 3) := by decide +kernel
theorem d_T_erasuresIn_37 : decode b_T_erasuresIn 37 = .ok (.aload_n 0, 1) := by decide +kernel
theorem d_T_erasuresIn_38 : decode b_T_erasuresIn 38 = .ok (.getfield 22, 3) := by decide +kernel
theorem d_T_erasuresIn_41 : decode b_T_erasuresIn 41 = .ok (.iload 5, 2) := by decide +kernel
theorem d_T_erasuresIn_43 : decode b_T_erasuresIn 43 = .ok (.aaload, 1) := by decide +kernel
theorem d_T_erasuresIn_44 : decode b_T_erasuresIn 44 = .ok (.getfield 265, 3) := by decide +kernel
theorem d_T_erasuresIn_47 : decode b_T_erasuresIn 47 = .ok (.ifCond .eq 6, 3) := by decide +kernel
theorem d_T_erasuresIn_50 : decode b_T_erasuresIn 50 = .ok (.iinc 3 1, 3) := by decide +kernel
theorem d_T_erasuresIn_53 : decode b_T_erasuresIn 53 = .ok (.iinc 5 1, 3) := by decide +kernel
theorem d_T_erasuresIn_56 : decode b_T_erasuresIn 56 = .ok (.goto (-40), 3) := by decide +kernel
theorem d_T_erasuresIn_59 : decode b_T_erasuresIn 59 = .ok (.iload_n 3, 1) := by decide +kernel
theorem d_T_erasuresIn_60 : decode b_T_erasuresIn 60 = .ok (.ireturn, 1) := by decide +kernel
theorem d_T_firstRowIn_0 : decode b_T_firstRowIn 0 = .ok (.aload_n 0, 1) := by decide +kernel
theorem d_T_firstRowIn_1 : decode b_T_firstRowIn 1 = .ok (.iload_n 1, 1) := by decide +kernel
theorem d_T_firstRowIn_2 : decode b_T_firstRowIn 2 = .ok (.invokevirtual 217, 3) := by decide +kernel
theorem d_T_firstRowIn_5 : decode b_T_firstRowIn 5 = .ok (.istore_n 3, 1) := by decide +kernel
theorem d_T_firstRowIn_6 : decode b_T_firstRowIn 6 = .ok (.aload_n 0, 1) := by decide +kernel
theorem d_T_firstRowIn_7 : decode b_T_firstRowIn 7 = .ok (.iload_n 1, 1) := by decide +kernel
theorem d_T_firstRowIn_8 : decode b_T_firstRowIn 8 = .ok (.invokevirtual 223, 3) := by decide +kernel
theorem d_T_firstRowIn_11 : decode b_T_firstRowIn 11 = .ok (.istore 4, 2) := by decide +kernel
theorem d_T_firstRowIn_13 : decode b_T_firstRowIn 13 = .ok (.iload 4, 2) := by decide +kernel
theorem d_T_firstRowIn_15 : decode b_T_firstRowIn 15 = .ok (.iload_n 3, 1) := by decide +kernel
theorem d_T_firstRowIn_16 : decode b_T_firstRowIn 16 = .ok (.if_icmp .ge 34, 3) := by decide +kernel
theorem d_T_firstRowIn_19 : decode b_T_firstRowIn 19 = .ok (.aload_n 0, 1) := by decide +kernel
theorem d_T_firstRowIn_20 : decode b_T_firstRowIn 20 = .ok (.getfield 22, 3) := by decide +kernel
theorem d_T_firstRowIn_23 : decode b_T_firstRowIn 23 = .ok (.iload 4, 2) := by decide +kernel
theorem d_T_firstRowIn_25 : decode b_T_firstRowIn 25 = .ok (.aaload, 1) := by decide +kernel
theorem d_T_firstRowIn_26 : decode b_T_firstRowIn 26 = .ok (.getfield 226, 3) := by decide +kernel
theorem d_T_firstRowIn_29 : decode b_T_firstRowIn 29 = .ok (.iload_n 2, 1) := by decide +kernel
theorem d_T_firstRowIn_30 : decode b_T_firstRowIn 30 = .ok (.if_icmp .ne 14, 3) := by decide +kernel
theorem d_T_firstRowIn_33 : decode b_T_firstRowIn 33 = .ok (.aload_n 0, 1) := by decide +kernel
theorem d_T_firstRowIn_34 : decode b_T_firstRowIn 34 = .ok (.getfield 22, 3) := by decide +kernel
theorem d_T_firstRowIn_37 : decode b_T_firstRowIn 37 = .ok (.iload 4, 2) := by decide +kernel
theorem d_T_firstRowIn_39 : decode b_T_firstRowIn 39 = .ok (.aaload, 1) := by decide +kernel
theorem d_T_firstRowIn_40 : decode b_T_firstRowIn 40 = .ok (.getfield 202, 3) := by decide +kernel
theorem d_T_firstRowIn_43 : decode b_T_firstRowIn 43 = .ok (.ireturn, 1) := by decide +kernel
theorem d_T_firstRowIn_44 : decode b_T_firstRowIn 44 = .ok (.iinc 4 1, 3) := by decide +kernel
theorem d_T_firstRowIn_47 : decode b_T_firstRowIn 47 = .ok (.goto (-34), 3) := by decide +kernel
theorem d_T_firstRowIn_50 : decode b_T_firstRowIn 50 = .ok (.iconst (-1), 1) := by decide +kernel
theorem d_T_firstRowIn_51 : decode b_T_firstRowIn 51 = .ok (.ireturn, 1) := by decide +kernel
theorem d_T_tableCount_0 : decode b_T_tableCount 0 = .ok (.iconst (-1), 1) := by decide +kernel
theorem d_T_tableCount_1 : decode b_T_tableCount 1 = .ok (.istore_n 2, 1) := by decide +kernel
theorem d_T_tableCount_2 : decode b_T_tableCount 2 = .ok (.aload_n 0, 1) := by decide +kernel
theorem d_T_tableCount_3 : decode b_T_tableCount 3 = .ok (.iload_n 1, 1) := by decide +kernel
theorem d_T_tableCount_4 : decode b_T_tableCount 4 = .ok (.invokevirtual 217, 3) := by decide +kernel
theorem d_T_tableCount_7 : decode b_T_tableCount 7 = .ok (.istore_n 3, 1) := by decide +kernel
theorem d_T_tableCount_8 : decode b_T_tableCount 8 = .ok (.aload_n 0, 1) := by decide +kernel
theorem d_T_tableCount_9 : decode b_T_tableCount 9 = .ok (.iload_n 1, 1) := by decide +kernel
theorem d_T_tableCount_10 : decode b_T_tableCount 10 = .ok (.invokevirtual 223, 3) := by decide +kernel
theorem d_T_tableCount_13 : decode b_T_tableCount 13 = .ok (.istore 4, 2) := by decide +kernel
theorem d_T_tableCount_15 : decode b_T_tableCount 15 = .ok (.iload 4, 2) := by decide +kernel
theorem d_T_tableCount_17 : decode b_T_tableCount 17 = .ok (.iload_n 3, 1) := by decide +kernel
theorem d_T_tableCount_18 : decode b_T_tableCount 18 = .ok (.if_icmp .ge 24, 3) := by decide +kernel
theorem d_T_tableCount_21 : decode b_T_tableCount 21 = .ok (.iload_n 2, 1) := by decide +kernel
theorem d_T_tableCount_22 : decode b_T_tableCount 22 = .ok (.aload_n 0, 1) := by decide +kernel
theorem d_T_tableCount_23 : decode b_T_tableCount 23 = .ok (.getfield 22, 3) := by decide +kernel
theorem d_T_tableCount_26 : decode b_T_tableCount 26 = .ok (.iload 4, 2) := by decide +kernel
theorem d_T_tableCount_28 : decode b_T_tableCount 28 = .ok (.aaload, 1) := by decide +kernel
theorem d_T_tableCount_29 : decode b_T_tableCount 29 = .ok (.getfield 226, 3) := by decide +kernel
theorem d_T_tableCount_32 : decode b_T_tableCount 32 = .ok (.invokestatic 194, 3) := by decide +kernel
theorem d_T_tableCount_35 : decode b_T_tableCount 35 = .ok (.istore_n 2, 1) := by decide +kernel
theorem d_T_tableCount_36 : decode b_T_tableCount 36 = .ok (.iinc 4 1, 3) := by decide +kernel
theorem d_T_tableCount_39 : decode b_T_tableCount 39 = .ok (.goto (-24), 3) := by decide +kernel
theorem d_T_tableCount_42 : decode b_T_tableCount 42 = .ok (.iload_n 2, 1) := by decide +kernel
theorem d_T_tableCount_43 : decode b_T_tableCount 43 = .ok (.iconst 1, 1) := by decide +kernel
theorem d_T_tableCount_44 : decode b_T_tableCount 44 = .ok (.iadd, 1) := by decide +kernel
theorem d_T_tableCount_45 : decode b_T_tableCount 45 = .ok (.ireturn, 1) := by decide +kernel
theorem d_T_split_0 : decode b_T_split 0 = .ok (.aload_n 0, 1) := by decide +kernel
theorem d_T_split_1 : decode b_T_split 1 = .ok (.iload_n 1, 1) := by decide +kernel
theorem d_T_split_2 : decode b_T_split 2 = .ok (.invokevirtual 235, 3) := by decide +kernel
theorem d_T_split_5 : decode b_T_split 5 = .ok (.ifCond .eq 12, 3) := by decide +kernel
theorem d_T_split_8 : decode b_T_split 8 = .ok (.aload_n 0, 1) := by decide +kernel
theorem d_T_split_9 : decode b_T_split 9 = .ok (.getfield 35, 3) := by decide +kernel
theorem d_T_split_12 : decode b_T_split 12 = .ok (.bipush 8, 2) := by decide +kernel
theorem d_T_split_14 : decode b_T_split 14 = .ok (.if_icmp .lt 5, 3) := by decide +kernel
theorem d_T_split_17 : decode b_T_split 17 = .ok (.iconst 0, 1) := by decide +kernel
theorem d_T_split_18 : decode b_T_split 18 = .ok (.ireturn, 1) := by decide +kernel
theorem d_T_split_19 : decode b_T_split 19 = .ok (.iload_n 2, 1) := by decide +kernel
theorem d_T_split_20 : decode b_T_split 20 = .ok (.aload_n 0, 1) := by decide +kernel
theorem d_T_split_21 : decode b_T_split 21 = .ok (.getfield 32, 3) := by decide +kernel
theorem d_T_split_24 : decode b_T_split 24 = .ok (.iload_n 1, 1) := by decide +kernel
theorem d_T_split_25 : decode b_T_split 25 = .ok (.iaload, 1) := by decide +kernel
theorem d_T_split_26 : decode b_T_split 26 = .ok (.if_icmp .le 15, 3) := by decide +kernel
theorem d_T_split_29 : decode b_T_split 29 = .ok (.iload_n 2, 1) := by decide +kernel
theorem d_T_split_30 : decode b_T_split 30 = .ok (.aload_n 0, 1) := by decide +kernel
theorem d_T_split_31 : decode b_T_split 31 = .ok (.getfield 32, 3) := by decide +kernel
theorem d_T_split_34 : decode b_T_split 34 = .ok (.iload_n 1, 1) := by decide +kernel
theorem d_T_split_35 : decode b_T_split 35 = .ok (.iconst 1, 1) := by decide +kernel
theorem d_T_split_36 : decode b_T_split 36 = .ok (.iadd, 1) := by decide +kernel
theorem d_T_split_37 : decode b_T_split 37 = .ok (.iaload, 1) := by decide +kernel
theorem d_T_split_38 : decode b_T_split 38 = .ok (.if_icmp .lt 5, 3) := by decide +kernel
theorem d_T_split_41 : decode b_T_split 41 = .ok (.iconst 0, 1) := by decide +kernel
theorem d_T_split_42 : decode b_T_split 42 = .ok (.ireturn, 1) := by decide +kernel
theorem d_T_split_43 : decode b_T_split 43 = .ok (.aload_n 0, 1) := by decide +kernel
theorem d_T_split_44 : decode b_T_split 44 = .ok (.getfield 35, 3) := by decide +kernel
theorem d_T_split_47 : decode b_T_split 47 = .ok (.istore_n 3, 1) := by decide +kernel
theorem d_T_split_48 : decode b_T_split 48 = .ok (.iload_n 3, 1) := by decide +kernel
theorem d_T_split_49 : decode b_T_split 49 = .ok (.iload_n 1, 1) := by decide +kernel
theorem d_T_split_50 : decode b_T_split 50 = .ok (.if_icmp .le 23, 3) := by decide +kernel
theorem d_T_split_53 : decode b_T_split 53 = .ok (.aload_n 0, 1) := by decide +kernel
theorem d_T_split_54 : decode b_T_split 54 = .ok (.getfield 32, 3) := by decide +kernel
theorem d_T_split_57 : decode b_T_split 57 = .ok (.iload_n 3, 1) := by decide +kernel
theorem d_T_split_58 : decode b_T_split 58 = .ok (.iconst 1, 1) := by decide +kernel
theorem d_T_split_59 : decode b_T_split 59 = .ok (.iadd, 1) := by decide +kernel
theorem d_T_split_60 : decode b_T_split 60 = .ok (.aload_n 0, 1) := by decide +kernel
theorem d_T_split_61 : decode b_T_split 61 = .ok (.getfield 32, 3) := by decide +kernel
theorem d_T_split_64 : decode b_T_split 64 = .ok (.iload_n 3, 1) := by decide +kernel
theorem d_T_split_65 : decode b_T_split 65 = .ok (.iaload, 1) := by decide +kernel
theorem d_T_split_66 : decode b_T_split 66 = .ok (.iastore, 1) := by decide +kernel
theorem d_T_split_67 : decode b_T_split 67 = .ok (.iinc 3 (-1), 3) := by decide +kernel
theorem d_T_split_70 : decode b_T_split 70 = .ok (.goto (-22), 3) := by decide +kernel
theorem d_T_split_73 : decode b_T_split 73 = .ok (.aload_n 0, 1) := by decide +kernel
theorem d_T_split_74 : decode b_T_split 74 = .ok (.getfield 32, 3) := by decide +kernel
theorem d_T_split_77 : decode b_T_split 77 = .ok (.iload_n 1, 1) := by decide +kernel
theorem d_T_split_78 : decode b_T_split 78 = .ok (.iconst 1, 1) := by decide +kernel
theorem d_T_split_79 : decode b_T_split 79 = .ok (.iadd, 1) := by decide +kernel
theorem d_T_split_80 : decode b_T_split 80 = .ok (.iload_n 2, 1) := by decide +kernel
theorem d_T_split_81 : decode b_T_split 81 = .ok (.iastore, 1) := by decide +kernel
theorem d_T_split_82 : decode b_T_split 82 = .ok (.aload_n 0, 1) := by decide +kernel
theorem d_T_split_83 : decode b_T_split 83 = .ok (.dup, 1) := by decide +kernel
theorem d_T_split_84 : decode b_T_split 84 = .ok (.getfield 35, 3) := by decide +kernel
theorem d_T_split_87 : decode b_T_split 87 = .ok (.iconst 1, 1) := by decide +kernel
theorem d_T_split_88 : decode b_T_split 88 = .ok (.iadd, 1) := by decide +kernel
theorem d_T_split_89 : decode b_T_split 89 = .ok (.putfield 35, 3) := by decide +kernel
theorem d_T_split_92 : decode b_T_split 92 = .ok (.aload_n 0, 1) := by decide +kernel
theorem d_T_split_93 : decode b_T_split 93 = .ok (.iload_n 1, 1) := by decide +kernel
theorem d_T_split_94 : decode b_T_split 94 = .ok (.invokevirtual 268, 3) := by decide +kernel
theorem d_T_split_97 : decode b_T_split 97 = .ok (.aload_n 0, 1) := by decide +kernel
theorem d_T_split_98 : decode b_T_split 98 = .ok (.iload_n 1, 1) := by decide +kernel
theorem d_T_split_99 : decode b_T_split 99 = .ok (.iconst 1, 1) := by decide +kernel
theorem d_T_split_100 : decode b_T_split 100 = .ok (.iadd, 1) := by decide +kernel
theorem d_T_split_101 : decode b_T_split 101 = .ok (.invokevirtual 268, 3) := by decide +kernel
theorem d_T_split_104 : decode b_T_split 104 = .ok (.iconst 1, 1) := by decide +kernel
theorem d_T_split_105 : decode b_T_split 105 = .ok (.ireturn, 1) := by decide +kernel
theorem d_T_join_0 : decode b_T_join 0 = .ok (.iload_n 1, 1) := by decide +kernel
theorem d_T_join_1 : decode b_T_join 1 = .ok (.ifCond .lt 13, 3) := by decide +kernel
theorem d_T_join_4 : decode b_T_join 4 = .ok (.iload_n 1, 1) := by decide +kernel
theorem d_T_join_5 : decode b_T_join 5 = .ok (.aload_n 0, 1) := by decide +kernel
theorem d_T_join_6 : decode b_T_join 6 = .ok (.getfield 35, 3) := by decide +kernel
theorem d_T_join_9 : decode b_T_join 9 = .ok (.iconst 1, 1) := by decide +kernel
theorem d_T_join_10 : decode b_T_join 10 = .ok (.isub, 1) := by decide +kernel
theorem d_T_join_11 : decode b_T_join 11 = .ok (.if_icmp .lt 5, 3) := by decide +kernel
theorem d_T_join_14 : decode b_T_join 14 = .ok (.iconst 0, 1) := by decide +kernel
theorem d_T_join_15 : decode b_T_join 15 = .ok (.ireturn, 1) := by decide +kernel
theorem d_T_join_16 : decode b_T_join 16 = .ok (.aload_n 0, 1) := by decide +kernel
theorem d_T_join_17 : decode b_T_join 17 = .ok (.iload_n 1, 1) := by decide +kernel
theorem d_T_join_18 : decode b_T_join 18 = .ok (.invokevirtual 238, 3) := by decide +kernel
theorem d_T_join_21 : decode b_T_join 21 = .ok (.istore_n 2, 1) := by decide +kernel
theorem d_T_join_22 : decode b_T_join 22 = .ok (.aload_n 0, 1) := by decide +kernel
theorem d_T_join_23 : decode b_T_join 23 = .ok (.iload_n 1, 1) := by decide +kernel
theorem d_T_join_24 : decode b_T_join 24 = .ok (.iconst 1, 1) := by decide +kernel
theorem d_T_join_25 : decode b_T_join 25 = .ok (.iadd, 1) := by decide +kernel
theorem d_T_join_26 : decode b_T_join 26 = .ok (.invokevirtual 217, 3) := by decide +kernel
theorem d_T_join_29 : decode b_T_join 29 = .ok (.istore_n 3, 1) := by decide +kernel
theorem d_T_join_30 : decode b_T_join 30 = .ok (.aload_n 0, 1) := by decide +kernel
theorem d_T_join_31 : decode b_T_join 31 = .ok (.iload_n 1, 1) := by decide +kernel
theorem d_T_join_32 : decode b_T_join 32 = .ok (.iconst 1, 1) := by decide +kernel
theorem d_T_join_33 : decode b_T_join 33 = .ok (.iadd, 1) := by decide +kernel
theorem d_T_join_34 : decode b_T_join 34 = .ok (.invokevirtual 223, 3) := by decide +kernel
theorem d_T_join_37 : decode b_T_join 37 = .ok (.istore 4, 2) := by decide +kernel
theorem d_T_join_39 : decode b_T_join 39 = .ok (.iload 4, 2) := by decide +kernel
theorem d_T_join_41 : decode b_T_join 41 = .ok (.iload_n 3, 1) := by decide +kernel
theorem d_T_join_42 : decode b_T_join 42 = .ok (.if_icmp .ge 39, 3) := by decide +kernel
theorem d_T_join_45 : decode b_T_join 45 = .ok (.aload_n 0, 1) := by decide +kernel
theorem d_T_join_46 : decode b_T_join 46 = .ok (.getfield 22, 3) := by decide +kernel
theorem d_T_join_49 : decode b_T_join 49 = .ok (.iload 4, 2) := by decide +kernel
theorem d_T_join_51 : decode b_T_join 51 = .ok (.aaload, 1) := by decide +kernel
theorem d_T_join_52 : decode b_T_join 52 = .ok (.getfield 226, 3) := by decide +kernel
theorem d_T_join_55 : decode b_T_join 55 = .ok (.iconst (-1), 1) := by decide +kernel
theorem d_T_join_56 : decode b_T_join 56 = .ok (.if_icmp .eq 19, 3) := by decide +kernel
theorem d_T_join_59 : decode b_T_join 59 = .ok (.aload_n 0, 1) := by decide +kernel
theorem d_T_join_60 : decode b_T_join 60 = .ok (.getfield 22, 3) := by decide +kernel
theorem d_T_join_63 : decode b_T_join 63 = .ok (.iload 4, 2) := by decide +kernel
theorem d_T_join_65 : decode b_T_join 65 = .ok (.aaload, 1) := by decide +kernel
theorem d_T_join_66 : decode b_T_join 66 = .ok (.dup, 1) := by decide +kernel
theorem d_T_join_67 : decode b_T_join 67 = .ok (.getfield 226, 3) := by decide +kernel
theorem d_T_join_70 : decode b_T_join 70 = .ok (.iload_n 2, 1) := by decide +kernel
theorem d_T_join_71 : decode b_T_join 71 = .ok (.iadd, 1) := by decide +kernel
theorem d_T_join_72 : decode b_T_join 72 = .ok (.putfield 226, 3) := by decide +kernel
theorem d_T_join_75 : decode b_T_join 75 = .ok (.iinc 4 1, 3) := by decide +kernel
theorem d_T_join_78 : decode b_T_join 78 = .ok (.goto (-39), 3) := by decide +kernel
theorem d_T_join_81 : decode b_T_join 81 = .ok (.aload_n 0, 1) := by decide +kernel
theorem d_T_join_82 : decode b_T_join 82 = .ok (.dup, 1) := by decide +kernel
theorem d_T_join_83 : decode b_T_join 83 = .ok (.getfield 35, 3) := by decide +kernel
theorem d_T_join_86 : decode b_T_join 86 = .ok (.iconst 1, 1) := by decide +kernel
theorem d_T_join_87 : decode b_T_join 87 = .ok (.isub, 1) := by decide +kernel
theorem d_T_join_88 : decode b_T_join 88 = .ok (.putfield 35, 3) := by decide +kernel
theorem d_T_join_91 : decode b_T_join 91 = .ok (.iload_n 1, 1) := by decide +kernel
theorem d_T_join_92 : decode b_T_join 92 = .ok (.iconst 1, 1) := by decide +kernel
theorem d_T_join_93 : decode b_T_join 93 = .ok (.iadd, 1) := by decide +kernel
theorem d_T_join_94 : decode b_T_join 94 = .ok (.istore 4, 2) := by decide +kernel
theorem d_T_join_96 : decode b_T_join 96 = .ok (.iload 4, 2) := by decide +kernel
theorem d_T_join_98 : decode b_T_join 98 = .ok (.aload_n 0, 1) := by decide +kernel
theorem d_T_join_99 : decode b_T_join 99 = .ok (.getfield 35, 3) := by decide +kernel
theorem d_T_join_102 : decode b_T_join 102 = .ok (.if_icmp .gt 25, 3) := by decide +kernel
theorem d_T_join_105 : decode b_T_join 105 = .ok (.aload_n 0, 1) := by decide +kernel
theorem d_T_join_106 : decode b_T_join 106 = .ok (.getfield 32, 3) := by decide +kernel
theorem d_T_join_109 : decode b_T_join 109 = .ok (.iload 4, 2) := by decide +kernel
theorem d_T_join_111 : decode b_T_join 111 = .ok (.aload_n 0, 1) := by decide +kernel
theorem d_T_join_112 : decode b_T_join 112 = .ok (.getfield 32, 3) := by decide +kernel
theorem d_T_join_115 : decode b_T_join 115 = .ok (.iload 4, 2) := by decide +kernel
theorem d_T_join_117 : decode b_T_join 117 = .ok (.iconst 1, 1) := by decide +kernel
theorem d_T_join_118 : decode b_T_join 118 = .ok (.iadd, 1) := by decide +kernel
theorem d_T_join_119 : decode b_T_join 119 = .ok (.iaload, 1) := by decide +kernel
theorem d_T_join_120 : decode b_T_join 120 = .ok (.iastore, 1) := by decide +kernel
theorem d_T_join_121 : decode b_T_join 121 = .ok (.iinc 4 1, 3) := by decide +kernel
theorem d_T_join_124 : decode b_T_join 124 = .ok (.goto (-28), 3) := by decide +kernel
theorem d_T_join_127 : decode b_T_join 127 = .ok (.iconst 1, 1) := by decide +kernel
theorem d_T_join_128 : decode b_T_join 128 = .ok (.ireturn, 1) := by decide +kernel
theorem d_T_tablet_0 : decode b_T_tablet 0 = .ok (.aload_n 0, 1) := by decide +kernel
theorem d_T_tablet_1 : decode b_T_tablet 1 = .ok (.iload_n 1, 1) := by decide +kernel
theorem d_T_tablet_2 : decode b_T_tablet 2 = .ok (.invokevirtual 235, 3) := by decide +kernel
theorem d_T_tablet_5 : decode b_T_tablet 5 = .ok (.ifCond .ne 5, 3) := by decide +kernel
theorem d_T_tablet_8 : decode b_T_tablet 8 = .ok (.iconst (-1), 1) := by decide +kernel
theorem d_T_tablet_9 : decode b_T_tablet 9 = .ok (.ireturn, 1) := by decide +kernel
theorem d_T_tablet_10 : decode b_T_tablet 10 = .ok (.iload_n 2, 1) := by decide +kernel
theorem d_T_tablet_11 : decode b_T_tablet 11 = .ok (.tableswitch 60 0 3 #[29, 36, 47, 53], 29) := by decide +kernel
theorem d_T_tablet_40 : decode b_T_tablet 40 = .ok (.aload_n 0, 1) := by decide +kernel
theorem d_T_tablet_41 : decode b_T_tablet 41 = .ok (.getfield 32, 3) := by decide +kernel
theorem d_T_tablet_44 : decode b_T_tablet 44 = .ok (.iload_n 1, 1) := by decide +kernel
theorem d_T_tablet_45 : decode b_T_tablet 45 = .ok (.iaload, 1) := by decide +kernel
theorem d_T_tablet_46 : decode b_T_tablet 46 = .ok (.ireturn, 1) := by decide +kernel
theorem d_T_tablet_47 : decode b_T_tablet 47 = .ok (.aload_n 0, 1) := by decide +kernel
theorem d_T_tablet_48 : decode b_T_tablet 48 = .ok (.getfield 32, 3) := by decide +kernel
theorem d_T_tablet_51 : decode b_T_tablet 51 = .ok (.iload_n 1, 1) := by decide +kernel
theorem d_T_tablet_52 : decode b_T_tablet 52 = .ok (.iconst 1, 1) := by decide +kernel
theorem d_T_tablet_53 : decode b_T_tablet 53 = .ok (.iadd, 1) := by decide +kernel
theorem d_T_tablet_54 : decode b_T_tablet 54 = .ok (.iaload, 1) := by decide +kernel
theorem d_T_tablet_55 : decode b_T_tablet 55 = .ok (.iconst 1, 1) := by decide +kernel
theorem d_T_tablet_56 : decode b_T_tablet 56 = .ok (.isub, 1) := by decide +kernel
theorem d_T_tablet_57 : decode b_T_tablet 57 = .ok (.ireturn, 1) := by decide +kernel
theorem d_T_tablet_58 : decode b_T_tablet 58 = .ok (.aload_n 0, 1) := by decide +kernel
theorem d_T_tablet_59 : decode b_T_tablet 59 = .ok (.iload_n 1, 1) := by decide +kernel
theorem d_T_tablet_60 : decode b_T_tablet 60 = .ok (.invokevirtual 238, 3) := by decide +kernel
theorem d_T_tablet_63 : decode b_T_tablet 63 = .ok (.ireturn, 1) := by decide +kernel
theorem d_T_tablet_64 : decode b_T_tablet 64 = .ok (.aload_n 0, 1) := by decide +kernel
theorem d_T_tablet_65 : decode b_T_tablet 65 = .ok (.iload_n 1, 1) := by decide +kernel
theorem d_T_tablet_66 : decode b_T_tablet 66 = .ok (.iconst (-1), 1) := by decide +kernel
theorem d_T_tablet_67 : decode b_T_tablet 67 = .ok (.invokevirtual 149, 3) := by decide +kernel
theorem d_T_tablet_70 : decode b_T_tablet 70 = .ok (.ireturn, 1) := by decide +kernel
theorem d_T_tablet_71 : decode b_T_tablet 71 = .ok (.iconst (-1), 1) := by decide +kernel
theorem d_T_tablet_72 : decode b_T_tablet 72 = .ok (.ireturn, 1) := by decide +kernel
theorem d_T_closeGaps_0 : decode b_T_closeGaps 0 = .ok (.aload_n 0, 1) := by decide +kernel
theorem d_T_closeGaps_1 : decode b_T_closeGaps 1 = .ok (.iload_n 1, 1) := by decide +kernel
theorem d_T_closeGaps_2 : decode b_T_closeGaps 2 = .ok (.invokevirtual 238, 3) := by decide +kernel
theorem d_T_closeGaps_5 : decode b_T_closeGaps 5 = .ok (.iconst 1, 1) := by decide +kernel
theorem d_T_closeGaps_6 : decode b_T_closeGaps 6 = .ok (.isub, 1) := by decide +kernel
theorem d_T_closeGaps_7 : decode b_T_closeGaps 7 = .ok (.istore_n 2, 1) := by decide +kernel
theorem d_T_closeGaps_8 : decode b_T_closeGaps 8 = .ok (.iload_n 2, 1) := by decide +kernel
theorem d_T_closeGaps_9 : decode b_T_closeGaps 9 = .ok (.ifCond .lt 24, 3) := by decide +kernel
theorem d_T_closeGaps_12 : decode b_T_closeGaps 12 = .ok (.aload_n 0, 1) := by decide +kernel
theorem d_T_closeGaps_13 : decode b_T_closeGaps 13 = .ok (.iload_n 1, 1) := by decide +kernel
theorem d_T_closeGaps_14 : decode b_T_closeGaps 14 = .ok (.iload_n 2, 1) := by decide +kernel
theorem d_T_closeGaps_15 : decode b_T_closeGaps 15 = .ok (.invokevirtual 149, 3) := by decide +kernel
theorem d_T_closeGaps_18 : decode b_T_closeGaps 18 = .ok (.ifCond .ne 9, 3) := by decide +kernel
theorem d_T_closeGaps_21 : decode b_T_closeGaps 21 = .ok (.aload_n 0, 1) := by decide +kernel
theorem d_T_closeGaps_22 : decode b_T_closeGaps 22 = .ok (.iload_n 1, 1) := by decide +kernel
theorem d_T_closeGaps_23 : decode b_T_closeGaps 23 = .ok (.iload_n 2, 1) := by decide +kernel
theorem d_T_closeGaps_24 : decode b_T_closeGaps 24 = .ok (.invokevirtual 271, 3) := by decide +kernel
theorem d_T_closeGaps_27 : decode b_T_closeGaps 27 = .ok (.iinc 2 (-1), 3) := by decide +kernel
theorem d_T_closeGaps_30 : decode b_T_closeGaps 30 = .ok (.goto (-22), 3) := by decide +kernel
theorem d_T_closeGaps_33 : decode b_T_closeGaps 33 = .ok (.return_, 1) := by decide +kernel
theorem d_T_moveUpBehind_0 : decode b_T_moveUpBehind 0 = .ok (.aload_n 0, 1) := by decide +kernel
theorem d_T_moveUpBehind_1 : decode b_T_moveUpBehind 1 = .ok (.iload_n 1, 1) := by decide +kernel
theorem d_T_moveUpBehind_2 : decode b_T_moveUpBehind 2 = .ok (.invokevirtual 217, 3) := by decide +kernel
theorem d_T_moveUpBehind_5 : decode b_T_moveUpBehind 5 = .ok (.istore_n 3, 1) := by decide +kernel
theorem d_T_moveUpBehind_6 : decode b_T_moveUpBehind 6 = .ok (.aload_n 0, 1) := by decide +kernel
theorem d_T_moveUpBehind_7 : decode b_T_moveUpBehind 7 = .ok (.iload_n 1, 1) := by decide +kernel
theorem d_T_moveUpBehind_8 : decode b_T_moveUpBehind 8 = .ok (.invokevirtual 223, 3) := by decide +kernel
theorem d_T_moveUpBehind_11 : decode b_T_moveUpBehind 11 = .ok (.istore 4, 2) := by decide +kernel
theorem d_T_moveUpBehind_13 : decode b_T_moveUpBehind 13 = .ok (.iload 4, 2) := by decide +kernel
theorem d_T_moveUpBehind_15 : decode b_T_moveUpBehind 15 = .ok (.iload_n 3, 1) := by decide +kernel
theorem d_T_moveUpBehind_16 : decode b_T_moveUpBehind 16 = .ok (.if_icmp .ge 39, 3) := by decide +kernel
theorem d_T_moveUpBehind_19 : decode b_T_moveUpBehind 19 = .ok (.aload_n 0, 1) := by decide +kernel
theorem d_T_moveUpBehind_20 : decode b_T_moveUpBehind 20 = .ok (.getfield 22, 3) := by decide +kernel
theorem d_T_moveUpBehind_23 : decode b_T_moveUpBehind 23 = .ok (.iload 4, 2) := by decide +kernel
theorem d_T_moveUpBehind_25 : decode b_T_moveUpBehind 25 = .ok (.aaload, 1) := by decide +kernel
theorem d_T_moveUpBehind_26 : decode b_T_moveUpBehind 26 = .ok (.getfield 226, 3) := by decide +kernel
theorem d_T_moveUpBehind_29 : decode b_T_moveUpBehind 29 = .ok (.iload_n 2, 1) := by decide +kernel
theorem d_T_moveUpBehind_30 : decode b_T_moveUpBehind 30 = .ok (.if_icmp .le 19, 3) := by decide +kernel
theorem d_T_moveUpBehind_33 : decode b_T_moveUpBehind 33 = .ok (.aload_n 0, 1) := by decide +kernel
theorem d_T_moveUpBehind_34 : decode b_T_moveUpBehind 34 = .ok (.getfield 22, 3) := by decide +kernel
theorem d_T_moveUpBehind_37 : decode b_T_moveUpBehind 37 = .ok (.iload 4, 2) := by decide +kernel
theorem d_T_moveUpBehind_39 : decode b_T_moveUpBehind 39 = .ok (.aaload, 1) := by decide +kernel
theorem d_T_moveUpBehind_40 : decode b_T_moveUpBehind 40 = .ok (.dup, 1) := by decide +kernel
theorem d_T_moveUpBehind_41 : decode b_T_moveUpBehind 41 = .ok (.getfield 226, 3) := by decide +kernel
theorem d_T_moveUpBehind_44 : decode b_T_moveUpBehind 44 = .ok (.iconst 1, 1) := by decide +kernel
theorem d_T_moveUpBehind_45 : decode b_T_moveUpBehind 45 = .ok (.isub, 1) := by decide +kernel
theorem d_T_moveUpBehind_46 : decode b_T_moveUpBehind 46 = .ok (.putfield 226, 3) := by decide +kernel
theorem d_T_moveUpBehind_49 : decode b_T_moveUpBehind 49 = .ok (.iinc 4 1, 3) := by decide +kernel
theorem d_T_moveUpBehind_52 : decode b_T_moveUpBehind 52 = .ok (.goto (-39), 3) := by decide +kernel
theorem d_T_moveUpBehind_55 : decode b_T_moveUpBehind 55 = .ok (.return_, 1) := by decide +kernel
theorem d_T_tabletOf_0 : decode b_T_tabletOf 0 = .ok (.iconst 0, 1) := by decide +kernel
theorem d_T_tabletOf_1 : decode b_T_tabletOf 1 = .ok (.istore_n 2, 1) := by decide +kernel
theorem d_T_tabletOf_2 : decode b_T_tabletOf 2 = .ok (.iload_n 2, 1) := by decide +kernel
theorem d_T_tabletOf_3 : decode b_T_tabletOf 3 = .ok (.iconst 1, 1) := by decide +kernel
theorem d_T_tabletOf_4 : decode b_T_tabletOf 4 = .ok (.iadd, 1) := by decide +kernel
theorem d_T_tabletOf_5 : decode b_T_tabletOf 5 = .ok (.aload_n 0, 1) := by decide +kernel
theorem d_T_tabletOf_6 : decode b_T_tabletOf 6 = .ok (.getfield 35, 3) := by decide +kernel
theorem d_T_tabletOf_9 : decode b_T_tabletOf 9 = .ok (.if_icmp .ge 21, 3) := by decide +kernel
theorem d_T_tabletOf_12 : decode b_T_tabletOf 12 = .ok (.aload_n 0, 1) := by decide +kernel
theorem d_T_tabletOf_13 : decode b_T_tabletOf 13 = .ok (.getfield 32, 3) := by decide +kernel
theorem d_T_tabletOf_16 : decode b_T_tabletOf 16 = .ok (.iload_n 2, 1) := by decide +kernel
theorem d_T_tabletOf_17 : decode b_T_tabletOf 17 = .ok (.iconst 1, 1) := by decide +kernel
theorem d_T_tabletOf_18 : decode b_T_tabletOf 18 = .ok (.iadd, 1) := by decide +kernel
theorem d_T_tabletOf_19 : decode b_T_tabletOf 19 = .ok (.iaload, 1) := by decide +kernel
theorem d_T_tabletOf_20 : decode b_T_tabletOf 20 = .ok (.iload_n 1, 1) := by decide +kernel
theorem d_T_tabletOf_21 : decode b_T_tabletOf 21 = .ok (.if_icmp .gt 9, 3) := by decide +kernel
theorem d_T_tabletOf_24 : decode b_T_tabletOf 24 = .ok (.iinc 2 1, 3) := by decide +kernel
theorem d_T_tabletOf_27 : decode b_T_tabletOf 27 = .ok (.goto (-25), 3) := by decide +kernel
theorem d_T_tabletOf_30 : decode b_T_tabletOf 30 = .ok (.iload_n 2, 1) := by decide +kernel
theorem d_T_tabletOf_31 : decode b_T_tabletOf 31 = .ok (.ireturn, 1) := by decide +kernel
theorem d_T_startOf_0 : decode b_T_startOf 0 = .ok (.aload_n 0, 1) := by decide +kernel
theorem d_T_startOf_1 : decode b_T_startOf 1 = .ok (.aload_n 0, 1) := by decide +kernel
theorem d_T_startOf_2 : decode b_T_startOf 2 = .ok (.getfield 32, 3) := by decide +kernel
theorem d_T_startOf_5 : decode b_T_startOf 5 = .ok (.iload_n 1, 1) := by decide +kernel
theorem d_T_startOf_6 : decode b_T_startOf 6 = .ok (.iaload, 1) := by decide +kernel
theorem d_T_startOf_7 : decode b_T_startOf 7 = .ok (.invokevirtual 214, 3) := by decide +kernel
theorem d_T_startOf_10 : decode b_T_startOf 10 = .ok (.ireturn, 1) := by decide +kernel
theorem d_T_endOf_0 : decode b_T_endOf 0 = .ok (.aload_n 0, 1) := by decide +kernel
theorem d_T_endOf_1 : decode b_T_endOf 1 = .ok (.aload_n 0, 1) := by decide +kernel
theorem d_T_endOf_2 : decode b_T_endOf 2 = .ok (.getfield 32, 3) := by decide +kernel
theorem d_T_endOf_5 : decode b_T_endOf 5 = .ok (.iload_n 1, 1) := by decide +kernel
theorem d_T_endOf_6 : decode b_T_endOf 6 = .ok (.iconst 1, 1) := by decide +kernel
theorem d_T_endOf_7 : decode b_T_endOf 7 = .ok (.iadd, 1) := by decide +kernel
theorem d_T_endOf_8 : decode b_T_endOf 8 = .ok (.iaload, 1) := by decide +kernel
theorem d_T_endOf_9 : decode b_T_endOf 9 = .ok (.invokevirtual 214, 3) := by decide +kernel
theorem d_T_endOf_12 : decode b_T_endOf 12 = .ok (.ireturn, 1) := by decide +kernel
theorem d_T_indexOfRow_0 : decode b_T_indexOfRow 0 = .ok (.iconst 0, 1) := by decide +kernel
theorem d_T_indexOfRow_1 : decode b_T_indexOfRow 1 = .ok (.istore_n 2, 1) := by decide +kernel
theorem d_T_indexOfRow_2 : decode b_T_indexOfRow 2 = .ok (.iload_n 2, 1) := by decide +kernel
theorem d_T_indexOfRow_3 : decode b_T_indexOfRow 3 = .ok (.aload_n 0, 1) := by decide +kernel
theorem d_T_indexOfRow_4 : decode b_T_indexOfRow 4 = .ok (.getfield 26, 3) := by decide +kernel
theorem d_T_indexOfRow_7 : decode b_T_indexOfRow 7 = .ok (.if_icmp .ge 22, 3) := by decide +kernel
theorem d_T_indexOfRow_10 : decode b_T_indexOfRow 10 = .ok (.aload_n 0, 1) := by decide +kernel
theorem d_T_indexOfRow_11 : decode b_T_indexOfRow 11 = .ok (.getfield 22, 3) := by decide +kernel
theorem d_T_indexOfRow_14 : decode b_T_indexOfRow 14 = .ok (.iload_n 2, 1) := by decide +kernel
theorem d_T_indexOfRow_15 : decode b_T_indexOfRow 15 = .ok (.aaload, 1) := by decide +kernel
theorem d_T_indexOfRow_16 : decode b_T_indexOfRow 16 = .ok (.getfield 202, 3) := by decide +kernel
theorem d_T_indexOfRow_19 : decode b_T_indexOfRow 19 = .ok (.iload_n 1, 1) := by decide +kernel
theorem d_T_indexOfRow_20 : decode b_T_indexOfRow 20 = .ok (.if_icmp .ge 9, 3) := by decide +kernel
theorem d_T_indexOfRow_23 : decode b_T_indexOfRow 23 = .ok (.iinc 2 1, 3) := by decide +kernel
theorem d_T_indexOfRow_26 : decode b_T_indexOfRow 26 = .ok (.goto (-24), 3) := by decide +kernel
theorem d_T_indexOfRow_29 : decode b_T_indexOfRow 29 = .ok (.iload_n 2, 1) := by decide +kernel
theorem d_T_indexOfRow_30 : decode b_T_indexOfRow 30 = .ok (.ireturn, 1) := by decide +kernel
theorem d_T_makeEntry_0 : decode b_T_makeEntry 0 = .ok (.aload_n 0, 1) := by decide +kernel
theorem d_T_makeEntry_1 : decode b_T_makeEntry 1 = .ok (.getfield 26, 3) := by decide +kernel
theorem d_T_makeEntry_4 : decode b_T_makeEntry 4 = .ok (.aload_n 0, 1) := by decide +kernel
theorem d_T_makeEntry_5 : decode b_T_makeEntry 5 = .ok (.getfield 22, 3) := by decide +kernel
theorem d_T_makeEntry_8 : decode b_T_makeEntry 8 = .ok (.arraylength, 1) := by decide +kernel
theorem d_T_makeEntry_9 : decode b_T_makeEntry 9 = .ok (.if_icmp .lt 5, 3) := by decide +kernel
theorem d_T_makeEntry_12 : decode b_T_makeEntry 12 = .ok (.aconst_null, 1) := by decide +kernel
theorem d_T_makeEntry_13 : decode b_T_makeEntry 13 = .ok (.areturn, 1) := by decide +kernel
theorem d_T_makeEntry_14 : decode b_T_makeEntry 14 = .ok (.aload_n 0, 1) := by decide +kernel
theorem d_T_makeEntry_15 : decode b_T_makeEntry 15 = .ok (.invokevirtual 274, 3) := by decide +kernel
theorem d_T_makeEntry_18 : decode b_T_makeEntry 18 = .ok (.astore 5, 2) := by decide +kernel
theorem d_T_makeEntry_20 : decode b_T_makeEntry 20 = .ok (.aload_n 0, 1) := by decide +kernel
theorem d_T_makeEntry_21 : decode b_T_makeEntry 21 = .ok (.dup, 1) := by decide +kernel
theorem d_T_makeEntry_22 : decode b_T_makeEntry 22 = .ok (.getfield 29, 3) := by decide +kernel
theorem d_T_makeEntry_25 : decode b_T_makeEntry 25 = .ok (.iconst 1, 1) := by decide +kernel
theorem d_T_makeEntry_26 : decode b_T_makeEntry 26 = .ok (.iadd, 1) := by decide +kernel
theorem d_T_makeEntry_27 : decode b_T_makeEntry 27 = .ok (.putfield 29, 3) := by decide +kernel
theorem d_T_makeEntry_30 : decode b_T_makeEntry 30 = .ok (.aload 5, 2) := by decide +kernel
theorem d_T_makeEntry_32 : decode b_T_makeEntry 32 = .ok (.iload_n 1, 1) := by decide +kernel
theorem d_T_makeEntry_33 : decode b_T_makeEntry 33 = .ok (.iload_n 2, 1) := by decide +kernel
theorem d_T_makeEntry_34 : decode b_T_makeEntry 34 = .ok (.iload_n 3, 1) := by decide +kernel
theorem d_T_makeEntry_35 : decode b_T_makeEntry 35 = .ok (.iload 4, 2) := by decide +kernel
theorem d_T_makeEntry_37 : decode b_T_makeEntry 37 = .ok (.aload_n 0, 1) := by decide +kernel
theorem d_T_makeEntry_38 : decode b_T_makeEntry 38 = .ok (.getfield 29, 3) := by decide +kernel
theorem d_T_makeEntry_41 : decode b_T_makeEntry 41 = .ok (.invokevirtual 278, 3) := by decide +kernel
theorem d_T_makeEntry_44 : decode b_T_makeEntry 44 = .ok (.iconst 0, 1) := by decide +kernel
theorem d_T_makeEntry_45 : decode b_T_makeEntry 45 = .ok (.istore 6, 2) := by decide +kernel
theorem d_T_makeEntry_47 : decode b_T_makeEntry 47 = .ok (.iload 6, 2) := by decide +kernel
theorem d_T_makeEntry_49 : decode b_T_makeEntry 49 = .ok (.aload_n 0, 1) := by decide +kernel
theorem d_T_makeEntry_50 : decode b_T_makeEntry 50 = .ok (.getfield 26, 3) := by decide +kernel
theorem d_T_makeEntry_53 : decode b_T_makeEntry 53 = .ok (.if_icmp .ge 35, 3) := by decide +kernel
theorem d_T_makeEntry_56 : decode b_T_makeEntry 56 = .ok (.aload 5, 2) := by decide +kernel
theorem d_T_makeEntry_58 : decode b_T_makeEntry 58 = .ok (.aload_n 0, 1) := by decide +kernel
theorem d_T_makeEntry_59 : decode b_T_makeEntry 59 = .ok (.getfield 22, 3) := by decide +kernel
theorem d_T_makeEntry_62 : decode b_T_makeEntry 62 = .ok (.iload 6, 2) := by decide +kernel
theorem d_T_makeEntry_64 : decode b_T_makeEntry 64 = .ok (.aaload, 1) := by decide +kernel
theorem d_T_makeEntry_65 : decode b_T_makeEntry 65 = .ok (.invokevirtual 259, 3) := by decide +kernel
theorem d_T_makeEntry_68 : decode b_T_makeEntry 68 = .ok (.ifCond .eq 14, 3) := by decide +kernel
theorem d_T_makeEntry_71 : decode b_T_makeEntry 71 = .ok (.aload_n 0, 1) := by decide +kernel
theorem d_T_makeEntry_72 : decode b_T_makeEntry 72 = .ok (.getfield 22, 3) := by decide +kernel
theorem d_T_makeEntry_75 : decode b_T_makeEntry 75 = .ok (.iload 6, 2) := by decide +kernel
theorem d_T_makeEntry_77 : decode b_T_makeEntry 77 = .ok (.aaload, 1) := by decide +kernel
theorem d_T_makeEntry_78 : decode b_T_makeEntry 78 = .ok (.iconst 1, 1) := by decide +kernel
theorem d_T_makeEntry_79 : decode b_T_makeEntry 79 = .ok (.putfield 281, 3) := by decide +kernel
theorem d_T_makeEntry_82 : decode b_T_makeEntry 82 = .ok (.iinc 6 1, 3) := by decide +kernel
theorem d_T_makeEntry_85 : decode b_T_makeEntry 85 = .ok (.goto (-38), 3) := by decide +kernel
theorem d_T_makeEntry_88 : decode b_T_makeEntry 88 = .ok (.aload_n 0, 1) := by decide +kernel
theorem d_T_makeEntry_89 : decode b_T_makeEntry 89 = .ok (.aload 5, 2) := by decide +kernel
theorem d_T_makeEntry_91 : decode b_T_makeEntry 91 = .ok (.invokevirtual 284, 3) := by decide +kernel
theorem d_T_makeEntry_94 : decode b_T_makeEntry 94 = .ok (.aload 5, 2) := by decide +kernel
theorem d_T_makeEntry_96 : decode b_T_makeEntry 96 = .ok (.areturn, 1) := by decide +kernel
theorem d_T_unusedEntry_0 : decode b_T_unusedEntry 0 = .ok (.aload_n 0, 1) := by decide +kernel
theorem d_T_unusedEntry_1 : decode b_T_unusedEntry 1 = .ok (.getfield 22, 3) := by decide +kernel
theorem d_T_unusedEntry_4 : decode b_T_unusedEntry 4 = .ok (.aload_n 0, 1) := by decide +kernel
theorem d_T_unusedEntry_5 : decode b_T_unusedEntry 5 = .ok (.getfield 26, 3) := by decide +kernel
theorem d_T_unusedEntry_8 : decode b_T_unusedEntry 8 = .ok (.aaload, 1) := by decide +kernel
theorem d_T_unusedEntry_9 : decode b_T_unusedEntry 9 = .ok (.ifnonnull 19, 3) := by decide +kernel
theorem d_T_unusedEntry_12 : decode b_T_unusedEntry 12 = .ok (.aload_n 0, 1) := by decide +kernel
theorem d_T_unusedEntry_13 : decode b_T_unusedEntry 13 = .ok (.getfield 22, 3) := by decide +kernel
theorem d_T_unusedEntry_16 : decode b_T_unusedEntry 16 = .ok (.aload_n 0, 1) := by decide +kernel
theorem d_T_unusedEntry_17 : decode b_T_unusedEntry 17 = .ok (.getfield 26, 3) := by decide +kernel
theorem d_T_unusedEntry_20 : decode b_T_unusedEntry 20 = .ok (.new 20, 3) := by decide +kernel
theorem d_T_unusedEntry_23 : decode b_T_unusedEntry 23 = .ok (.dup, 1) := by decide +kernel
theorem d_T_unusedEntry_24 : decode b_T_unusedEntry 24 = .ok (.invokespecial 287, 3) := by decide +kernel
theorem d_T_unusedEntry_27 : decode b_T_unusedEntry 27 = .ok (.aastore, 1) := by decide +kernel
theorem d_T_unusedEntry_28 : decode b_T_unusedEntry 28 = .ok (.aload_n 0, 1) := by decide +kernel
theorem d_T_unusedEntry_29 : decode b_T_unusedEntry 29 = .ok (.getfield 22, 3) := by decide +kernel
theorem d_T_unusedEntry_32 : decode b_T_unusedEntry 32 = .ok (.aload_n 0, 1) := by decide +kernel
theorem d_T_unusedEntry_33 : decode b_T_unusedEntry 33 = .ok (.getfield 26, 3) := by decide +kernel
theorem d_T_unusedEntry_36 : decode b_T_unusedEntry 36 = .ok (.aaload, 1) := by decide +kernel
theorem d_T_unusedEntry_37 : decode b_T_unusedEntry 37 = .ok (.areturn, 1) := by decide +kernel
theorem d_T_insert_0 : decode b_T_insert 0 = .ok (.aload_n 0, 1) := by decide +kernel
theorem d_T_insert_1 : decode b_T_insert 1 = .ok (.getfield 26, 3) := by decide +kernel
theorem d_T_insert_4 : decode b_T_insert 4 = .ok (.istore_n 2, 1) := by decide +kernel
theorem d_T_insert_5 : decode b_T_insert 5 = .ok (.iload_n 2, 1) := by decide +kernel
theorem d_T_insert_6 : decode b_T_insert 6 = .ok (.ifCond .le 41, 3) := by decide +kernel
theorem d_T_insert_9 : decode b_T_insert 9 = .ok (.aload_n 0, 1) := by decide +kernel
theorem d_T_insert_10 : decode b_T_insert 10 = .ok (.getfield 22, 3) := by decide +kernel
theorem d_T_insert_13 : decode b_T_insert 13 = .ok (.iload_n 2, 1) := by decide +kernel
theorem d_T_insert_14 : decode b_T_insert 14 = .ok (.iconst 1, 1) := by decide +kernel
theorem d_T_insert_15 : decode b_T_insert 15 = .ok (.isub, 1) := by decide +kernel
theorem d_T_insert_16 : decode b_T_insert 16 = .ok (.aaload, 1) := by decide +kernel
theorem d_T_insert_17 : decode b_T_insert 17 = .ok (.getfield 288, 3) := by decide +kernel
theorem d_T_insert_20 : decode b_T_insert 20 = .ok (.aload_n 1, 1) := by decide +kernel
theorem d_T_insert_21 : decode b_T_insert 21 = .ok (.getfield 288, 3) := by decide +kernel
theorem d_T_insert_24 : decode b_T_insert 24 = .ok (.if_icmp .lt 23, 3) := by decide +kernel
theorem d_T_insert_27 : decode b_T_insert 27 = .ok (.aload_n 0, 1) := by decide +kernel
theorem d_T_insert_28 : decode b_T_insert 28 = .ok (.getfield 22, 3) := by decide +kernel
theorem d_T_insert_31 : decode b_T_insert 31 = .ok (.iload_n 2, 1) := by decide +kernel
theorem d_T_insert_32 : decode b_T_insert 32 = .ok (.aload_n 0, 1) := by decide +kernel
theorem d_T_insert_33 : decode b_T_insert 33 = .ok (.getfield 22, 3) := by decide +kernel
theorem d_T_insert_36 : decode b_T_insert 36 = .ok (.iload_n 2, 1) := by decide +kernel
theorem d_T_insert_37 : decode b_T_insert 37 = .ok (.iconst 1, 1) := by decide +kernel
theorem d_T_insert_38 : decode b_T_insert 38 = .ok (.isub, 1) := by decide +kernel
theorem d_T_insert_39 : decode b_T_insert 39 = .ok (.aaload, 1) := by decide +kernel
theorem d_T_insert_40 : decode b_T_insert 40 = .ok (.aastore, 1) := by decide +kernel
theorem d_T_insert_41 : decode b_T_insert 41 = .ok (.iinc 2 (-1), 3) := by decide +kernel
theorem d_T_insert_44 : decode b_T_insert 44 = .ok (.goto (-39), 3) := by decide +kernel
theorem d_T_insert_47 : decode b_T_insert 47 = .ok (.aload_n 0, 1) := by decide +kernel
theorem d_T_insert_48 : decode b_T_insert 48 = .ok (.getfield 22, 3) := by decide +kernel
theorem d_T_insert_51 : decode b_T_insert 51 = .ok (.iload_n 2, 1) := by decide +kernel
theorem d_T_insert_52 : decode b_T_insert 52 = .ok (.aload_n 1, 1) := by decide +kernel
theorem d_T_insert_53 : decode b_T_insert 53 = .ok (.aastore, 1) := by decide +kernel
theorem d_T_insert_54 : decode b_T_insert 54 = .ok (.aload_n 0, 1) := by decide +kernel
theorem d_T_insert_55 : decode b_T_insert 55 = .ok (.dup, 1) := by decide +kernel
theorem d_T_insert_56 : decode b_T_insert 56 = .ok (.getfield 26, 3) := by decide +kernel
theorem d_T_insert_59 : decode b_T_insert 59 = .ok (.iconst 1, 1) := by decide +kernel
theorem d_T_insert_60 : decode b_T_insert 60 = .ok (.iadd, 1) := by decide +kernel
theorem d_T_insert_61 : decode b_T_insert 61 = .ok (.putfield 26, 3) := by decide +kernel
theorem d_T_insert_64 : decode b_T_insert 64 = .ok (.return_, 1) := by decide +kernel
theorem d_T_removeLeaving_0 : decode b_T_removeLeaving 0 = .ok (.iconst 0, 1) := by decide +kernel
theorem d_T_removeLeaving_1 : decode b_T_removeLeaving 1 = .ok (.istore_n 1, 1) := by decide +kernel
theorem d_T_removeLeaving_2 : decode b_T_removeLeaving 2 = .ok (.iconst 0, 1) := by decide +kernel
theorem d_T_removeLeaving_3 : decode b_T_removeLeaving 3 = .ok (.istore_n 2, 1) := by decide +kernel
theorem d_T_removeLeaving_4 : decode b_T_removeLeaving 4 = .ok (.iload_n 2, 1) := by decide +kernel
theorem d_T_removeLeaving_5 : decode b_T_removeLeaving 5 = .ok (.aload_n 0, 1) := by decide +kernel
theorem d_T_removeLeaving_6 : decode b_T_removeLeaving 6 = .ok (.getfield 26, 3) := by decide +kernel
theorem d_T_removeLeaving_9 : decode b_T_removeLeaving 9 = .ok (.if_icmp .ge 45, 3) := by decide +kernel
theorem d_T_removeLeaving_12 : decode b_T_removeLeaving 12 = .ok (.aload_n 0, 1) := by decide +kernel
theorem d_T_removeLeaving_13 : decode b_T_removeLeaving 13 = .ok (.getfield 22, 3) := by decide +kernel
theorem d_T_removeLeaving_16 : decode b_T_removeLeaving 16 = .ok (.iload_n 2, 1) := by decide +kernel
theorem d_T_removeLeaving_17 : decode b_T_removeLeaving 17 = .ok (.aaload, 1) := by decide +kernel
theorem d_T_removeLeaving_18 : decode b_T_removeLeaving 18 = .ok (.astore_n 3, 1) := by decide +kernel
theorem d_T_removeLeaving_19 : decode b_T_removeLeaving 19 = .ok (.aload_n 3, 1) := by decide +kernel
theorem d_T_removeLeaving_20 : decode b_T_removeLeaving 20 = .ok (.getfield 247, 3) := by decide +kernel
theorem d_T_removeLeaving_23 : decode b_T_removeLeaving 23 = .ok (.ifCond .ne 25, 3) := by decide +kernel
theorem d_T_removeLeaving_26 : decode b_T_removeLeaving 26 = .ok (.aload_n 0, 1) := by decide +kernel
theorem d_T_removeLeaving_27 : decode b_T_removeLeaving 27 = .ok (.getfield 22, 3) := by decide +kernel
theorem d_T_removeLeaving_30 : decode b_T_removeLeaving 30 = .ok (.iload_n 2, 1) := by decide +kernel
theorem d_T_removeLeaving_31 : decode b_T_removeLeaving 31 = .ok (.aload_n 0, 1) := by decide +kernel
theorem d_T_removeLeaving_32 : decode b_T_removeLeaving 32 = .ok (.getfield 22, 3) := by decide +kernel
theorem d_T_removeLeaving_35 : decode b_T_removeLeaving 35 = .ok (.iload_n 1, 1) := by decide +kernel
theorem d_T_removeLeaving_36 : decode b_T_removeLeaving 36 = .ok (.aaload, 1) := by decide +kernel
theorem d_T_removeLeaving_37 : decode b_T_removeLeaving 37 = .ok (.aastore, 1) := by decide +kernel
theorem d_T_removeLeaving_38 : decode b_T_removeLeaving 38 = .ok (.aload_n 0, 1) := by decide +kernel
theorem d_T_removeLeaving_39 : decode b_T_removeLeaving 39 = .ok (.getfield 22, 3) := by decide +kernel
theorem d_T_removeLeaving_42 : decode b_T_removeLeaving 42 = .ok (.iload_n 1, 1) := by decide +kernel
theorem d_T_removeLeaving_43 : decode b_T_removeLeaving 43 = .ok (.aload_n 3, 1) := by decide +kernel
theorem d_T_removeLeaving_44 : decode b_T_removeLeaving 44 = .ok (.aastore, 1) := by decide +kernel
theorem d_T_removeLeaving_45 : decode b_T_removeLeaving 45 = .ok (.iinc 1 1, 3) := by decide +kernel
theorem d_T_removeLeaving_48 : decode b_T_removeLeaving 48 = .ok (.iinc 2 1, 3) := by decide +kernel
theorem d_T_removeLeaving_51 : decode b_T_removeLeaving 51 = .ok (.goto (-47), 3) := by decide +kernel
theorem d_T_removeLeaving_54 : decode b_T_removeLeaving 54 = .ok (.aload_n 0, 1) := by decide +kernel
theorem d_T_removeLeaving_55 : decode b_T_removeLeaving 55 = .ok (.iload_n 1, 1) := by decide +kernel
theorem d_T_removeLeaving_56 : decode b_T_removeLeaving 56 = .ok (.putfield 26, 3) := by decide +kernel
theorem d_T_removeLeaving_59 : decode b_T_removeLeaving 59 = .ok (.return_, 1) := by decide +kernel
theorem d_T_isLive_0 : decode b_T_isLive 0 = .ok (.aload_n 1, 1) := by decide +kernel
theorem d_T_isLive_1 : decode b_T_isLive 1 = .ok (.getfield 265, 3) := by decide +kernel
theorem d_T_isLive_4 : decode b_T_isLive 4 = .ok (.ifCond .ne 22, 3) := by decide +kernel
theorem d_T_isLive_7 : decode b_T_isLive 7 = .ok (.aload_n 1, 1) := by decide +kernel
theorem d_T_isLive_8 : decode b_T_isLive 8 = .ok (.getfield 281, 3) := by decide +kernel
theorem d_T_isLive_11 : decode b_T_isLive 11 = .ok (.ifCond .ne 15, 3) := by decide +kernel
theorem d_T_isLive_14 : decode b_T_isLive 14 = .ok (.aload_n 0, 1) := by decide +kernel
theorem d_T_isLive_15 : decode b_T_isLive 15 = .ok (.aload_n 1, 1) := by decide +kernel
theorem d_T_isLive_16 : decode b_T_isLive 16 = .ok (.invokevirtual 241, 3) := by decide +kernel
theorem d_T_isLive_19 : decode b_T_isLive 19 = .ok (.ifCond .ne 7, 3) := by decide +kernel
theorem d_T_isLive_22 : decode b_T_isLive 22 = .ok (.iconst 1, 1) := by decide +kernel
theorem d_T_isLive_23 : decode b_T_isLive 23 = .ok (.goto 4, 3) := by decide +kernel
theorem d_T_isLive_26 : decode b_T_isLive 26 = .ok (.iconst 0, 1) := by decide +kernel
theorem d_T_isLive_27 : decode b_T_isLive 27 = .ok (.ireturn, 1) := by decide +kernel
theorem d_T_isOldCell_0 : decode b_T_isOldCell 0 = .ok (.aload_n 1, 1) := by decide +kernel
theorem d_T_isOldCell_1 : decode b_T_isOldCell 1 = .ok (.getfield 265, 3) := by decide +kernel
theorem d_T_isOldCell_4 : decode b_T_isOldCell 4 = .ok (.ifCond .eq 5, 3) := by decide +kernel
theorem d_T_isOldCell_7 : decode b_T_isOldCell 7 = .ok (.iconst 0, 1) := by decide +kernel
theorem d_T_isOldCell_8 : decode b_T_isOldCell 8 = .ok (.ireturn, 1) := by decide +kernel
theorem d_T_isOldCell_9 : decode b_T_isOldCell 9 = .ok (.aload_n 0, 1) := by decide +kernel
theorem d_T_isOldCell_10 : decode b_T_isOldCell 10 = .ok (.getfield 13, 3) := by decide +kernel
theorem d_T_isOldCell_13 : decode b_T_isOldCell 13 = .ok (.aload_n 1, 1) := by decide +kernel
theorem d_T_isOldCell_14 : decode b_T_isOldCell 14 = .ok (.getfield 291, 3) := by decide +kernel
theorem d_T_isOldCell_17 : decode b_T_isOldCell 17 = .ok (.iaload, 1) := by decide +kernel
theorem d_T_isOldCell_18 : decode b_T_isOldCell 18 = .ok (.istore_n 2, 1) := by decide +kernel
theorem d_T_isOldCell_19 : decode b_T_isOldCell 19 = .ok (.iload_n 2, 1) := by decide +kernel
theorem d_T_isOldCell_20 : decode b_T_isOldCell 20 = .ok (.ifCond .eq 20, 3) := by decide +kernel
theorem d_T_isOldCell_23 : decode b_T_isOldCell 23 = .ok (.aload_n 1, 1) := by decide +kernel
theorem d_T_isOldCell_24 : decode b_T_isOldCell 24 = .ok (.getfield 182, 3) := by decide +kernel
theorem d_T_isOldCell_27 : decode b_T_isOldCell 27 = .ok (.iload_n 2, 1) := by decide +kernel
theorem d_T_isOldCell_28 : decode b_T_isOldCell 28 = .ok (.iadd, 1) := by decide +kernel
theorem d_T_isOldCell_29 : decode b_T_isOldCell 29 = .ok (.aload_n 0, 1) := by decide +kernel
theorem d_T_isOldCell_30 : decode b_T_isOldCell 30 = .ok (.getfield 16, 3) := by decide +kernel
theorem d_T_isOldCell_33 : decode b_T_isOldCell 33 = .ok (.if_icmp .gt 7, 3) := by decide +kernel
theorem d_T_isOldCell_36 : decode b_T_isOldCell 36 = .ok (.iconst 1, 1) := by decide +kernel
theorem d_T_isOldCell_37 : decode b_T_isOldCell 37 = .ok (.goto 4, 3) := by decide +kernel
theorem d_T_isOldCell_40 : decode b_T_isOldCell 40 = .ok (.iconst 0, 1) := by decide +kernel
theorem d_T_isOldCell_41 : decode b_T_isOldCell 41 = .ok (.ireturn, 1) := by decide +kernel
theorem d_T_isTablet_0 : decode b_T_isTablet 0 = .ok (.iload_n 1, 1) := by decide +kernel
theorem d_T_isTablet_1 : decode b_T_isTablet 1 = .ok (.ifCond .lt 15, 3) := by decide +kernel
theorem d_T_isTablet_4 : decode b_T_isTablet 4 = .ok (.iload_n 1, 1) := by decide +kernel
theorem d_T_isTablet_5 : decode b_T_isTablet 5 = .ok (.aload_n 0, 1) := by decide +kernel
theorem d_T_isTablet_6 : decode b_T_isTablet 6 = .ok (.getfield 35, 3) := by decide +kernel
theorem d_T_isTablet_9 : decode b_T_isTablet 9 = .ok (.if_icmp .ge 7, 3) := by decide +kernel
theorem d_T_isTablet_12 : decode b_T_isTablet 12 = .ok (.iconst 1, 1) := by decide +kernel
theorem d_T_isTablet_13 : decode b_T_isTablet 13 = .ok (.goto 4, 3) := by decide +kernel
theorem d_T_isTablet_16 : decode b_T_isTablet 16 = .ok (.iconst 0, 1) := by decide +kernel
theorem d_T_isTablet_17 : decode b_T_isTablet 17 = .ok (.ireturn, 1) := by decide +kernel
theorem d_T_isRow_0 : decode b_T_isRow 0 = .ok (.iload_n 0, 1) := by decide +kernel
theorem d_T_isRow_1 : decode b_T_isRow 1 = .ok (.ifCond .lt 13, 3) := by decide +kernel
theorem d_T_isRow_4 : decode b_T_isRow 4 = .ok (.iload_n 0, 1) := by decide +kernel
theorem d_T_isRow_5 : decode b_T_isRow 5 = .ok (.bipush 64, 2) := by decide +kernel
theorem d_T_isRow_7 : decode b_T_isRow 7 = .ok (.if_icmp .ge 7, 3) := by decide +kernel
theorem d_T_isRow_10 : decode b_T_isRow 10 = .ok (.iconst 1, 1) := by decide +kernel
theorem d_T_isRow_11 : decode b_T_isRow 11 = .ok (.goto 4, 3) := by decide +kernel
theorem d_T_isRow_14 : decode b_T_isRow 14 = .ok (.iconst 0, 1) := by decide +kernel
theorem d_T_isRow_15 : decode b_T_isRow 15 = .ok (.ireturn, 1) := by decide +kernel
theorem d_T_isColumn_0 : decode b_T_isColumn 0 = .ok (.iload_n 0, 1) := by decide +kernel
theorem d_T_isColumn_1 : decode b_T_isColumn 1 = .ok (.ifCond .lt 13, 3) := by decide +kernel
theorem d_T_isColumn_4 : decode b_T_isColumn 4 = .ok (.iload_n 0, 1) := by decide +kernel
theorem d_T_isColumn_5 : decode b_T_isColumn 5 = .ok (.bipush 8, 2) := by decide +kernel
theorem d_T_isColumn_7 : decode b_T_isColumn 7 = .ok (.if_icmp .ge 7, 3) := by decide +kernel
theorem d_T_isColumn_10 : decode b_T_isColumn 10 = .ok (.iconst 1, 1) := by decide +kernel
theorem d_T_isColumn_11 : decode b_T_isColumn 11 = .ok (.goto 4, 3) := by decide +kernel
theorem d_T_isColumn_14 : decode b_T_isColumn 14 = .ok (.iconst 0, 1) := by decide +kernel
theorem d_T_isColumn_15 : decode b_T_isColumn 15 = .ok (.ireturn, 1) := by decide +kernel
theorem d_T_isTime_0 : decode b_T_isTime 0 = .ok (.iload_n 0, 1) := by decide +kernel
theorem d_T_isTime_1 : decode b_T_isTime 1 = .ok (.ifCond .lt 14, 3) := by decide +kernel
theorem d_T_isTime_4 : decode b_T_isTime 4 = .ok (.iload_n 0, 1) := by decide +kernel
theorem d_T_isTime_5 : decode b_T_isTime 5 = .ok (.sipush 10000, 3) := by decide +kernel
theorem d_T_isTime_8 : decode b_T_isTime 8 = .ok (.if_icmp .ge 7, 3) := by decide +kernel
theorem d_T_isTime_11 : decode b_T_isTime 11 = .ok (.iconst 1, 1) := by decide +kernel
theorem d_T_isTime_12 : decode b_T_isTime 12 = .ok (.goto 4, 3) := by decide +kernel
theorem d_T_isTime_15 : decode b_T_isTime 15 = .ok (.iconst 0, 1) := by decide +kernel
theorem d_T_isTime_16 : decode b_T_isTime 16 = .ok (.ireturn, 1) := by decide +kernel
theorem d_T_isErasable_0 : decode b_T_isErasable 0 = .ok (.iload_n 0, 1) := by decide +kernel
theorem d_T_isErasable_1 : decode b_T_isErasable 1 = .ok (.iconst (-1), 1) := by decide +kernel
theorem d_T_isErasable_2 : decode b_T_isErasable 2 = .ok (.if_icmp .ne 14, 3) := by decide +kernel
theorem d_T_isErasable_5 : decode b_T_isErasable 5 = .ok (.iload_n 1, 1) := by decide +kernel
theorem d_T_isErasable_6 : decode b_T_isErasable 6 = .ok (.iconst (-1), 1) := by decide +kernel
theorem d_T_isErasable_7 : decode b_T_isErasable 7 = .ok (.if_icmp .ne 7, 3) := by decide +kernel
theorem d_T_isErasable_10 : decode b_T_isErasable 10 = .ok (.iconst 1, 1) := by decide +kernel
theorem d_T_isErasable_11 : decode b_T_isErasable 11 = .ok (.goto 4, 3) := by decide +kernel
theorem d_T_isErasable_14 : decode b_T_isErasable 14 = .ok (.iconst 0, 1) := by decide +kernel
theorem d_T_isErasable_15 : decode b_T_isErasable 15 = .ok (.ireturn, 1) := by decide +kernel
theorem d_T_isErasable_16 : decode b_T_isErasable 16 = .ok (.iload_n 0, 1) := by decide +kernel
theorem d_T_isErasable_17 : decode b_T_isErasable 17 = .ok (.invokestatic 74, 3) := by decide +kernel
theorem d_T_isErasable_20 : decode b_T_isErasable 20 = .ok (.ifCond .eq 19, 3) := by decide +kernel
theorem d_T_isErasable_23 : decode b_T_isErasable 23 = .ok (.iload_n 1, 1) := by decide +kernel
theorem d_T_isErasable_24 : decode b_T_isErasable 24 = .ok (.iconst (-1), 1) := by decide +kernel
theorem d_T_isErasable_25 : decode b_T_isErasable 25 = .ok (.if_icmp .eq 10, 3) := by decide +kernel
theorem d_T_isErasable_28 : decode b_T_isErasable 28 = .ok (.iload_n 1, 1) := by decide +kernel
theorem d_T_isErasable_29 : decode b_T_isErasable 29 = .ok (.invokestatic 77, 3) := by decide +kernel
theorem d_T_isErasable_32 : decode b_T_isErasable 32 = .ok (.ifCond .eq 7, 3) := by decide +kernel
theorem d_T_isErasable_35 : decode b_T_isErasable 35 = .ok (.iconst 1, 1) := by decide +kernel
theorem d_T_isErasable_36 : decode b_T_isErasable 36 = .ok (.goto 4, 3) := by decide +kernel
theorem d_T_isErasable_39 : decode b_T_isErasable 39 = .ok (.iconst 0, 1) := by decide +kernel
theorem d_T_isErasable_40 : decode b_T_isErasable 40 = .ok (.ireturn, 1) := by decide +kernel
theorem d_T_familyOf_0 : decode b_T_familyOf 0 = .ok (.iload_n 0, 1) := by decide +kernel
theorem d_T_familyOf_1 : decode b_T_familyOf 1 = .ok (.iconst 4, 1) := by decide +kernel
theorem d_T_familyOf_2 : decode b_T_familyOf 2 = .ok (.if_icmp .ge 7, 3) := by decide +kernel
theorem d_T_familyOf_5 : decode b_T_familyOf 5 = .ok (.iconst 0, 1) := by decide +kernel
theorem d_T_familyOf_6 : decode b_T_familyOf 6 = .ok (.goto 4, 3) := by decide +kernel
theorem d_T_familyOf_9 : decode b_T_familyOf 9 = .ok (.iconst 1, 1) := by decide +kernel
theorem d_T_familyOf_10 : decode b_T_familyOf 10 = .ok (.ireturn, 1) := by decide +kernel
theorem d_T_nearest_0 : decode b_T_nearest 0 = .ok (.iconst 0, 1) := by decide +kernel
theorem d_T_nearest_1 : decode b_T_nearest 1 = .ok (.iload_n 0, 1) := by decide +kernel
theorem d_T_nearest_2 : decode b_T_nearest 2 = .ok (.iload_n 1, 1) := by decide +kernel
theorem d_T_nearest_3 : decode b_T_nearest 3 = .ok (.invokestatic 199, 3) := by decide +kernel
theorem d_T_nearest_6 : decode b_T_nearest 6 = .ok (.invokestatic 194, 3) := by decide +kernel
theorem d_T_nearest_9 : decode b_T_nearest 9 = .ok (.ireturn, 1) := by decide +kernel
theorem d_T_packed_0 : decode b_T_packed 0 = .ok (.ldc2_w 294, 3) := by decide +kernel
theorem d_T_packed_3 : decode b_T_packed 3 = .ok (.iload_n 0, 1) := by decide +kernel
theorem d_T_packed_4 : decode b_T_packed 4 = .ok (.i2l, 1) := by decide +kernel
theorem d_T_packed_5 : decode b_T_packed 5 = .ok (.lmul, 1) := by decide +kernel
theorem d_T_packed_6 : decode b_T_packed 6 = .ok (.iload_n 1, 1) := by decide +kernel
theorem d_T_packed_7 : decode b_T_packed 7 = .ok (.i2l, 1) := by decide +kernel
theorem d_T_packed_8 : decode b_T_packed 8 = .ok (.ldc2_w 296, 3) := by decide +kernel
theorem d_T_packed_11 : decode b_T_packed 11 = .ok (.land, 1) := by decide +kernel
theorem d_T_packed_12 : decode b_T_packed 12 = .ok (.ladd, 1) := by decide +kernel
theorem d_T_packed_13 : decode b_T_packed 13 = .ok (.lreturn, 1) := by decide +kernel
theorem d_M_init_0 : decode b_M_init 0 = .ok (.aload_n 0, 1) := by decide +kernel
theorem d_M_init_1 : decode b_M_init 1 = .ok (.invokespecial 1, 3) := by decide +kernel
theorem d_M_init_4 : decode b_M_init 4 = .ok (.aload_n 0, 1) := by decide +kernel
theorem d_M_init_5 : decode b_M_init 5 = .ok (.sipush 256, 3) := by decide +kernel
theorem d_M_init_8 : decode b_M_init 8 = .ok (.newarray .int, 2) := by decide +kernel
theorem d_M_init_10 : decode b_M_init 10 = .ok (.putfield 7, 3) := by decide +kernel
theorem d_M_init_13 : decode b_M_init 13 = .ok (.aload_n 0, 1) := by decide +kernel
theorem d_M_init_14 : decode b_M_init 14 = .ok (.sipush 256, 3) := by decide +kernel
theorem d_M_init_17 : decode b_M_init 17 = .ok (.newarray .int, 2) := by decide +kernel
theorem d_M_init_19 : decode b_M_init 19 = .ok (.putfield 13, 3) := by decide +kernel
theorem d_M_init_22 : decode b_M_init 22 = .ok (.aload_n 0, 1) := by decide +kernel
theorem d_M_init_23 : decode b_M_init 23 = .ok (.sipush 256, 3) := by decide +kernel
theorem d_M_init_26 : decode b_M_init 26 = .ok (.newarray .int, 2) := by decide +kernel
theorem d_M_init_28 : decode b_M_init 28 = .ok (.putfield 16, 3) := by decide +kernel
theorem d_M_init_31 : decode b_M_init 31 = .ok (.aload_n 0, 1) := by decide +kernel
theorem d_M_init_32 : decode b_M_init 32 = .ok (.sipush 256, 3) := by decide +kernel
theorem d_M_init_35 : decode b_M_init 35 = .ok (.newarray .int, 2) := by decide +kernel
theorem d_M_init_37 : decode b_M_init 37 = .ok (.putfield 19, 3) := by decide +kernel
theorem d_M_init_40 : decode b_M_init 40 = .ok (.aload_n 0, 1) := by decide +kernel
theorem d_M_init_41 : decode b_M_init 41 = .ok (.sipush 256, 3) := by decide +kernel
theorem d_M_init_44 : decode b_M_init 44 = .ok (.newarray .int, 2) := by decide +kernel
theorem d_M_init_46 : decode b_M_init 46 = .ok (.putfield 22, 3) := by decide +kernel
theorem d_M_init_49 : decode b_M_init 49 = .ok (.aload_n 0, 1) := by decide +kernel
theorem d_M_init_50 : decode b_M_init 50 = .ok (.sipush 256, 3) := by decide +kernel
theorem d_M_init_53 : decode b_M_init 53 = .ok (.newarray .int, 2) := by decide +kernel
theorem d_M_init_55 : decode b_M_init 55 = .ok (.putfield 25, 3) := by decide +kernel
theorem d_M_init_58 : decode b_M_init 58 = .ok (.aload_n 0, 1) := by decide +kernel
theorem d_M_init_59 : decode b_M_init 59 = .ok (.sipush 256, 3) := by decide +kernel
theorem d_M_init_62 : decode b_M_init 62 = .ok (.newarray .int, 2) := by decide +kernel
theorem d_M_init_64 : decode b_M_init 64 = .ok (.putfield 28, 3) := by decide +kernel
theorem d_M_init_67 : decode b_M_init 67 = .ok (.aload_n 0, 1) := by decide +kernel
theorem d_M_init_68 : decode b_M_init 68 = .ok (.sipush 256, 3) := by decide +kernel
theorem d_M_init_71 : decode b_M_init 71 = .ok (.newarray .int, 2) := by decide +kernel
theorem d_M_init_73 : decode b_M_init 73 = .ok (.putfield 31, 3) := by decide +kernel
theorem d_M_init_76 : decode b_M_init 76 = .ok (.aload_n 0, 1) := by decide +kernel
theorem d_M_init_77 : decode b_M_init 77 = .ok (.iconst 1, 1) := by decide +kernel
theorem d_M_init_78 : decode b_M_init 78 = .ok (.putfield 34, 3) := by decide +kernel
theorem d_M_init_81 : decode b_M_init 81 = .ok (.aload_n 0, 1) := by decide +kernel
theorem d_M_init_82 : decode b_M_init 82 = .ok (.bipush 9, 2) := by decide +kernel
theorem d_M_init_84 : decode b_M_init 84 = .ok (.newarray .int, 2) := by decide +kernel
theorem d_M_init_86 : decode b_M_init 86 = .ok (.putfield 38, 3) := by decide +kernel
theorem d_M_init_89 : decode b_M_init 89 = .ok (.aload_n 0, 1) := by decide +kernel
theorem d_M_init_90 : decode b_M_init 90 = .ok (.bipush 9, 2) := by decide +kernel
theorem d_M_init_92 : decode b_M_init 92 = .ok (.newarray .int, 2) := by decide +kernel
theorem d_M_init_94 : decode b_M_init 94 = .ok (.putfield 41, 3) := by decide +kernel
theorem d_M_init_97 : decode b_M_init 97 = .ok (.aload_n 0, 1) := by decide +kernel
theorem d_M_init_98 : decode b_M_init 98 = .ok (.iconst 2, 1) := by decide +kernel
theorem d_M_init_99 : decode b_M_init 99 = .ok (.newarray .int, 2) := by decide +kernel
theorem d_M_init_101 : decode b_M_init 101 = .ok (.putfield 44, 3) := by decide +kernel
theorem d_M_init_104 : decode b_M_init 104 = .ok (.aload_n 0, 1) := by decide +kernel
theorem d_M_init_105 : decode b_M_init 105 = .ok (.iconst 2, 1) := by decide +kernel
theorem d_M_init_106 : decode b_M_init 106 = .ok (.newarray .int, 2) := by decide +kernel
theorem d_M_init_108 : decode b_M_init 108 = .ok (.putfield 47, 3) := by decide +kernel
theorem d_M_init_111 : decode b_M_init 111 = .ok (.aload_n 0, 1) := by decide +kernel
theorem d_M_init_112 : decode b_M_init 112 = .ok (.iconst 4, 1) := by decide +kernel
theorem d_M_init_113 : decode b_M_init 113 = .ok (.newarray .int, 2) := by decide +kernel
theorem d_M_init_115 : decode b_M_init 115 = .ok (.putfield 50, 3) := by decide +kernel
theorem d_M_init_118 : decode b_M_init 118 = .ok (.aload_n 0, 1) := by decide +kernel
theorem d_M_init_119 : decode b_M_init 119 = .ok (.iconst 4, 1) := by decide +kernel
theorem d_M_init_120 : decode b_M_init 120 = .ok (.newarray .int, 2) := by decide +kernel
theorem d_M_init_122 : decode b_M_init 122 = .ok (.putfield 53, 3) := by decide +kernel
theorem d_M_init_125 : decode b_M_init 125 = .ok (.aload_n 0, 1) := by decide +kernel
theorem d_M_init_126 : decode b_M_init 126 = .ok (.iconst 4, 1) := by decide +kernel
theorem d_M_init_127 : decode b_M_init 127 = .ok (.newarray .int, 2) := by decide +kernel
theorem d_M_init_129 : decode b_M_init 129 = .ok (.putfield 56, 3) := by decide +kernel
theorem d_M_init_132 : decode b_M_init 132 = .ok (.aload_n 0, 1) := by decide +kernel
theorem d_M_init_133 : decode b_M_init 133 = .ok (.iconst 4, 1) := by decide +kernel
theorem d_M_init_134 : decode b_M_init 134 = .ok (.newarray .int, 2) := by decide +kernel
theorem d_M_init_136 : decode b_M_init 136 = .ok (.putfield 59, 3) := by decide +kernel
theorem d_M_init_139 : decode b_M_init 139 = .ok (.aload_n 0, 1) := by decide +kernel
theorem d_M_init_140 : decode b_M_init 140 = .ok (.sipush 256, 3) := by decide +kernel
theorem d_M_init_143 : decode b_M_init 143 = .ok (.newarray .int, 2) := by decide +kernel
theorem d_M_init_145 : decode b_M_init 145 = .ok (.putfield 62, 3) := by decide +kernel
theorem d_M_init_148 : decode b_M_init 148 = .ok (.aload_n 0, 1) := by decide +kernel
theorem d_M_init_149 : decode b_M_init 149 = .ok (.sipush 256, 3) := by decide +kernel
theorem d_M_init_152 : decode b_M_init 152 = .ok (.newarray .int, 2) := by decide +kernel
theorem d_M_init_154 : decode b_M_init 154 = .ok (.putfield 65, 3) := by decide +kernel
theorem d_M_init_157 : decode b_M_init 157 = .ok (.aload_n 0, 1) := by decide +kernel
theorem d_M_init_158 : decode b_M_init 158 = .ok (.getfield 44, 3) := by decide +kernel
theorem d_M_init_161 : decode b_M_init 161 = .ok (.iconst 0, 1) := by decide +kernel
theorem d_M_init_162 : decode b_M_init 162 = .ok (.iload_n 1, 1) := by decide +kernel
theorem d_M_init_163 : decode b_M_init 163 = .ok (.iconst 5, 1) := by decide +kernel
theorem d_M_init_164 : decode b_M_init 164 = .ok (.invokestatic 68, 3) := by decide +kernel
theorem d_M_init_167 : decode b_M_init 167 = .ok (.iastore, 1) := by decide +kernel
theorem d_M_init_168 : decode b_M_init 168 = .ok (.aload_n 0, 1) := by decide +kernel
theorem d_M_init_169 : decode b_M_init 169 = .ok (.getfield 44, 3) := by decide +kernel
theorem d_M_init_172 : decode b_M_init 172 = .ok (.iconst 1, 1) := by decide +kernel
theorem d_M_init_173 : decode b_M_init 173 = .ok (.iload_n 3, 1) := by decide +kernel
theorem d_M_init_174 : decode b_M_init 174 = .ok (.iconst 5, 1) := by decide +kernel
theorem d_M_init_175 : decode b_M_init 175 = .ok (.invokestatic 68, 3) := by decide +kernel
theorem d_M_init_178 : decode b_M_init 178 = .ok (.iastore, 1) := by decide +kernel
theorem d_M_init_179 : decode b_M_init 179 = .ok (.aload_n 0, 1) := by decide +kernel
theorem d_M_init_180 : decode b_M_init 180 = .ok (.getfield 47, 3) := by decide +kernel
theorem d_M_init_183 : decode b_M_init 183 = .ok (.iconst 0, 1) := by decide +kernel
theorem d_M_init_184 : decode b_M_init 184 = .ok (.iload_n 2, 1) := by decide +kernel
theorem d_M_init_185 : decode b_M_init 185 = .ok (.sipush 9999, 3) := by decide +kernel
theorem d_M_init_188 : decode b_M_init 188 = .ok (.invokestatic 68, 3) := by decide +kernel
theorem d_M_init_191 : decode b_M_init 191 = .ok (.iastore, 1) := by decide +kernel
theorem d_M_init_192 : decode b_M_init 192 = .ok (.aload_n 0, 1) := by decide +kernel
theorem d_M_init_193 : decode b_M_init 193 = .ok (.getfield 47, 3) := by decide +kernel
theorem d_M_init_196 : decode b_M_init 196 = .ok (.iconst 1, 1) := by decide +kernel
theorem d_M_init_197 : decode b_M_init 197 = .ok (.iload 4, 2) := by decide +kernel
theorem d_M_init_199 : decode b_M_init 199 = .ok (.sipush 9999, 3) := by decide +kernel
theorem d_M_init_202 : decode b_M_init 202 = .ok (.invokestatic 68, 3) := by decide +kernel
theorem d_M_init_205 : decode b_M_init 205 = .ok (.iastore, 1) := by decide +kernel
theorem d_M_init_206 : decode b_M_init 206 = .ok (.return_, 1) := by decide +kernel
