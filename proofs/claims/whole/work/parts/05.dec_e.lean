theorem d_M_join_0 : decode b_M_join 0 = .ok (.aload_n 0, 1) := by decide +kernel
theorem d_M_join_1 : decode b_M_join 1 = .ok (.iload_n 1, 1) := by decide +kernel
theorem d_M_join_2 : decode b_M_join 2 = .ok (.invokevirtual 189, 3) := by decide +kernel
theorem d_M_join_5 : decode b_M_join 5 = .ok (.ifCond .eq 13, 3) := by decide +kernel
theorem d_M_join_8 : decode b_M_join 8 = .ok (.aload_n 0, 1) := by decide +kernel
theorem d_M_join_9 : decode b_M_join 9 = .ok (.iload_n 1, 1) := by decide +kernel
theorem d_M_join_10 : decode b_M_join 10 = .ok (.iconst 1, 1) := by decide +kernel
theorem d_M_join_11 : decode b_M_join 11 = .ok (.iadd, 1) := by decide +kernel
theorem d_M_join_12 : decode b_M_join 12 = .ok (.invokevirtual 189, 3) := by decide +kernel
theorem d_M_join_15 : decode b_M_join 15 = .ok (.ifCond .ne 5, 3) := by decide +kernel
theorem d_M_join_18 : decode b_M_join 18 = .ok (.iconst 0, 1) := by decide +kernel
theorem d_M_join_19 : decode b_M_join 19 = .ok (.ireturn, 1) := by decide +kernel
theorem d_M_join_20 : decode b_M_join 20 = .ok (.iconst 0, 1) := by decide +kernel
theorem d_M_join_21 : decode b_M_join 21 = .ok (.istore_n 2, 1) := by decide +kernel
theorem d_M_join_22 : decode b_M_join 22 = .ok (.iload_n 2, 1) := by decide +kernel
theorem d_M_join_23 : decode b_M_join 23 = .ok (.aload_n 0, 1) := by decide +kernel
theorem d_M_join_24 : decode b_M_join 24 = .ok (.getfield 79, 3) := by decide +kernel
theorem d_M_join_27 : decode b_M_join 27 = .ok (.if_icmp .ge 65, 3) := by decide +kernel
theorem d_M_join_30 : decode b_M_join 30 = .ok (.aload_n 0, 1) := by decide +kernel
theorem d_M_join_31 : decode b_M_join 31 = .ok (.getfield 28, 3) := by decide +kernel
theorem d_M_join_34 : decode b_M_join 34 = .ok (.iload_n 2, 1) := by decide +kernel
theorem d_M_join_35 : decode b_M_join 35 = .ok (.iaload, 1) := by decide +kernel
theorem d_M_join_36 : decode b_M_join 36 = .ok (.iload_n 1, 1) := by decide +kernel
theorem d_M_join_37 : decode b_M_join 37 = .ok (.iconst 1, 1) := by decide +kernel
theorem d_M_join_38 : decode b_M_join 38 = .ok (.iadd, 1) := by decide +kernel
theorem d_M_join_39 : decode b_M_join 39 = .ok (.if_icmp .ne 27, 3) := by decide +kernel
theorem d_M_join_42 : decode b_M_join 42 = .ok (.aload_n 0, 1) := by decide +kernel
theorem d_M_join_43 : decode b_M_join 43 = .ok (.getfield 31, 3) := by decide +kernel
theorem d_M_join_46 : decode b_M_join 46 = .ok (.iload_n 2, 1) := by decide +kernel
theorem d_M_join_47 : decode b_M_join 47 = .ok (.iaload, 1) := by decide +kernel
theorem d_M_join_48 : decode b_M_join 48 = .ok (.ifCond .lt 18, 3) := by decide +kernel
theorem d_M_join_51 : decode b_M_join 51 = .ok (.aload_n 0, 1) := by decide +kernel
theorem d_M_join_52 : decode b_M_join 52 = .ok (.getfield 31, 3) := by decide +kernel
theorem d_M_join_55 : decode b_M_join 55 = .ok (.iload_n 2, 1) := by decide +kernel
theorem d_M_join_56 : decode b_M_join 56 = .ok (.dup2, 1) := by decide +kernel
theorem d_M_join_57 : decode b_M_join 57 = .ok (.iaload, 1) := by decide +kernel
theorem d_M_join_58 : decode b_M_join 58 = .ok (.aload_n 0, 1) := by decide +kernel
theorem d_M_join_59 : decode b_M_join 59 = .ok (.getfield 41, 3) := by decide +kernel
theorem d_M_join_62 : decode b_M_join 62 = .ok (.iload_n 1, 1) := by decide +kernel
theorem d_M_join_63 : decode b_M_join 63 = .ok (.iaload, 1) := by decide +kernel
theorem d_M_join_64 : decode b_M_join 64 = .ok (.iadd, 1) := by decide +kernel
theorem d_M_join_65 : decode b_M_join 65 = .ok (.iastore, 1) := by decide +kernel
theorem d_M_join_66 : decode b_M_join 66 = .ok (.aload_n 0, 1) := by decide +kernel
theorem d_M_join_67 : decode b_M_join 67 = .ok (.getfield 28, 3) := by decide +kernel
theorem d_M_join_70 : decode b_M_join 70 = .ok (.iload_n 2, 1) := by decide +kernel
theorem d_M_join_71 : decode b_M_join 71 = .ok (.iaload, 1) := by decide +kernel
theorem d_M_join_72 : decode b_M_join 72 = .ok (.iload_n 1, 1) := by decide +kernel
theorem d_M_join_73 : decode b_M_join 73 = .ok (.if_icmp .le 13, 3) := by decide +kernel
theorem d_M_join_76 : decode b_M_join 76 = .ok (.aload_n 0, 1) := by decide +kernel
theorem d_M_join_77 : decode b_M_join 77 = .ok (.getfield 28, 3) := by decide +kernel
theorem d_M_join_80 : decode b_M_join 80 = .ok (.iload_n 2, 1) := by decide +kernel
theorem d_M_join_81 : decode b_M_join 81 = .ok (.dup2, 1) := by decide +kernel
theorem d_M_join_82 : decode b_M_join 82 = .ok (.iaload, 1) := by decide +kernel
theorem d_M_join_83 : decode b_M_join 83 = .ok (.iconst 1, 1) := by decide +kernel
theorem d_M_join_84 : decode b_M_join 84 = .ok (.isub, 1) := by decide +kernel
theorem d_M_join_85 : decode b_M_join 85 = .ok (.iastore, 1) := by decide +kernel
theorem d_M_join_86 : decode b_M_join 86 = .ok (.iinc 2 1, 3) := by decide +kernel
theorem d_M_join_89 : decode b_M_join 89 = .ok (.goto (-67), 3) := by decide +kernel
theorem d_M_join_92 : decode b_M_join 92 = .ok (.aload_n 0, 1) := by decide +kernel
theorem d_M_join_93 : decode b_M_join 93 = .ok (.getfield 41, 3) := by decide +kernel
theorem d_M_join_96 : decode b_M_join 96 = .ok (.iload_n 1, 1) := by decide +kernel
theorem d_M_join_97 : decode b_M_join 97 = .ok (.dup2, 1) := by decide +kernel
theorem d_M_join_98 : decode b_M_join 98 = .ok (.iaload, 1) := by decide +kernel
theorem d_M_join_99 : decode b_M_join 99 = .ok (.aload_n 0, 1) := by decide +kernel
theorem d_M_join_100 : decode b_M_join 100 = .ok (.getfield 41, 3) := by decide +kernel
theorem d_M_join_103 : decode b_M_join 103 = .ok (.iload_n 1, 1) := by decide +kernel
theorem d_M_join_104 : decode b_M_join 104 = .ok (.iconst 1, 1) := by decide +kernel
theorem d_M_join_105 : decode b_M_join 105 = .ok (.iadd, 1) := by decide +kernel
theorem d_M_join_106 : decode b_M_join 106 = .ok (.iaload, 1) := by decide +kernel
theorem d_M_join_107 : decode b_M_join 107 = .ok (.iadd, 1) := by decide +kernel
theorem d_M_join_108 : decode b_M_join 108 = .ok (.iastore, 1) := by decide +kernel
theorem d_M_join_109 : decode b_M_join 109 = .ok (.aload_n 0, 1) := by decide +kernel
theorem d_M_join_110 : decode b_M_join 110 = .ok (.dup, 1) := by decide +kernel
theorem d_M_join_111 : decode b_M_join 111 = .ok (.getfield 34, 3) := by decide +kernel
theorem d_M_join_114 : decode b_M_join 114 = .ok (.iconst 1, 1) := by decide +kernel
theorem d_M_join_115 : decode b_M_join 115 = .ok (.isub, 1) := by decide +kernel
theorem d_M_join_116 : decode b_M_join 116 = .ok (.putfield 34, 3) := by decide +kernel
theorem d_M_join_119 : decode b_M_join 119 = .ok (.iload_n 1, 1) := by decide +kernel
theorem d_M_join_120 : decode b_M_join 120 = .ok (.iconst 1, 1) := by decide +kernel
theorem d_M_join_121 : decode b_M_join 121 = .ok (.iadd, 1) := by decide +kernel
theorem d_M_join_122 : decode b_M_join 122 = .ok (.istore_n 2, 1) := by decide +kernel
theorem d_M_join_123 : decode b_M_join 123 = .ok (.iload_n 2, 1) := by decide +kernel
theorem d_M_join_124 : decode b_M_join 124 = .ok (.aload_n 0, 1) := by decide +kernel
theorem d_M_join_125 : decode b_M_join 125 = .ok (.getfield 34, 3) := by decide +kernel
theorem d_M_join_128 : decode b_M_join 128 = .ok (.if_icmp .ge 37, 3) := by decide +kernel
theorem d_M_join_131 : decode b_M_join 131 = .ok (.aload_n 0, 1) := by decide +kernel
theorem d_M_join_132 : decode b_M_join 132 = .ok (.getfield 38, 3) := by decide +kernel
theorem d_M_join_135 : decode b_M_join 135 = .ok (.iload_n 2, 1) := by decide +kernel
theorem d_M_join_136 : decode b_M_join 136 = .ok (.aload_n 0, 1) := by decide +kernel
theorem d_M_join_137 : decode b_M_join 137 = .ok (.getfield 38, 3) := by decide +kernel
theorem d_M_join_140 : decode b_M_join 140 = .ok (.iload_n 2, 1) := by decide +kernel
theorem d_M_join_141 : decode b_M_join 141 = .ok (.iconst 1, 1) := by decide +kernel
theorem d_M_join_142 : decode b_M_join 142 = .ok (.iadd, 1) := by decide +kernel
theorem d_M_join_143 : decode b_M_join 143 = .ok (.iaload, 1) := by decide +kernel
theorem d_M_join_144 : decode b_M_join 144 = .ok (.iastore, 1) := by decide +kernel
theorem d_M_join_145 : decode b_M_join 145 = .ok (.aload_n 0, 1) := by decide +kernel
theorem d_M_join_146 : decode b_M_join 146 = .ok (.getfield 41, 3) := by decide +kernel
theorem d_M_join_149 : decode b_M_join 149 = .ok (.iload_n 2, 1) := by decide +kernel
theorem d_M_join_150 : decode b_M_join 150 = .ok (.aload_n 0, 1) := by decide +kernel
theorem d_M_join_151 : decode b_M_join 151 = .ok (.getfield 41, 3) := by decide +kernel
theorem d_M_join_154 : decode b_M_join 154 = .ok (.iload_n 2, 1) := by decide +kernel
theorem d_M_join_155 : decode b_M_join 155 = .ok (.iconst 1, 1) := by decide +kernel
theorem d_M_join_156 : decode b_M_join 156 = .ok (.iadd, 1) := by decide +kernel
theorem d_M_join_157 : decode b_M_join 157 = .ok (.iaload, 1) := by decide +kernel
theorem d_M_join_158 : decode b_M_join 158 = .ok (.iastore, 1) := by decide +kernel
theorem d_M_join_159 : decode b_M_join 159 = .ok (.iinc 2 1, 3) := by decide +kernel
theorem d_M_join_162 : decode b_M_join 162 = .ok (.goto (-39), 3) := by decide +kernel
theorem d_M_join_165 : decode b_M_join 165 = .ok (.iconst 1, 1) := by decide +kernel
theorem d_M_join_166 : decode b_M_join 166 = .ok (.ireturn, 1) := by decide +kernel
theorem d_M_tablet_0 : decode b_M_tablet 0 = .ok (.aload_n 0, 1) := by decide +kernel
theorem d_M_tablet_1 : decode b_M_tablet 1 = .ok (.iload_n 1, 1) := by decide +kernel
theorem d_M_tablet_2 : decode b_M_tablet 2 = .ok (.invokevirtual 189, 3) := by decide +kernel
theorem d_M_tablet_5 : decode b_M_tablet 5 = .ok (.ifCond .eq 12, 3) := by decide +kernel
theorem d_M_tablet_8 : decode b_M_tablet 8 = .ok (.iload_n 2, 1) := by decide +kernel
theorem d_M_tablet_9 : decode b_M_tablet 9 = .ok (.ifCond .lt 8, 3) := by decide +kernel
theorem d_M_tablet_12 : decode b_M_tablet 12 = .ok (.iload_n 2, 1) := by decide +kernel
theorem d_M_tablet_13 : decode b_M_tablet 13 = .ok (.iconst 3, 1) := by decide +kernel
theorem d_M_tablet_14 : decode b_M_tablet 14 = .ok (.if_icmp .le 5, 3) := by decide +kernel
theorem d_M_tablet_17 : decode b_M_tablet 17 = .ok (.iconst (-1), 1) := by decide +kernel
theorem d_M_tablet_18 : decode b_M_tablet 18 = .ok (.ireturn, 1) := by decide +kernel
theorem d_M_tablet_19 : decode b_M_tablet 19 = .ok (.iload_n 2, 1) := by decide +kernel
theorem d_M_tablet_20 : decode b_M_tablet 20 = .ok (.ifCond .ne 12, 3) := by decide +kernel
theorem d_M_tablet_23 : decode b_M_tablet 23 = .ok (.aload_n 0, 1) := by decide +kernel
theorem d_M_tablet_24 : decode b_M_tablet 24 = .ok (.getfield 38, 3) := by decide +kernel
theorem d_M_tablet_27 : decode b_M_tablet 27 = .ok (.iload_n 1, 1) := by decide +kernel
theorem d_M_tablet_28 : decode b_M_tablet 28 = .ok (.iaload, 1) := by decide +kernel
theorem d_M_tablet_29 : decode b_M_tablet 29 = .ok (.goto 36, 3) := by decide +kernel
theorem d_M_tablet_32 : decode b_M_tablet 32 = .ok (.iload_n 2, 1) := by decide +kernel
theorem d_M_tablet_33 : decode b_M_tablet 33 = .ok (.iconst 1, 1) := by decide +kernel
theorem d_M_tablet_34 : decode b_M_tablet 34 = .ok (.if_icmp .ne 11, 3) := by decide +kernel
theorem d_M_tablet_37 : decode b_M_tablet 37 = .ok (.aload_n 0, 1) := by decide +kernel
theorem d_M_tablet_38 : decode b_M_tablet 38 = .ok (.iload_n 1, 1) := by decide +kernel
theorem d_M_tablet_39 : decode b_M_tablet 39 = .ok (.invokevirtual 203, 3) := by decide +kernel
theorem d_M_tablet_42 : decode b_M_tablet 42 = .ok (.goto 23, 3) := by decide +kernel
theorem d_M_tablet_45 : decode b_M_tablet 45 = .ok (.iload_n 2, 1) := by decide +kernel
theorem d_M_tablet_46 : decode b_M_tablet 46 = .ok (.iconst 2, 1) := by decide +kernel
theorem d_M_tablet_47 : decode b_M_tablet 47 = .ok (.if_icmp .ne 12, 3) := by decide +kernel
theorem d_M_tablet_50 : decode b_M_tablet 50 = .ok (.aload_n 0, 1) := by decide +kernel
theorem d_M_tablet_51 : decode b_M_tablet 51 = .ok (.getfield 41, 3) := by decide +kernel
theorem d_M_tablet_54 : decode b_M_tablet 54 = .ok (.iload_n 1, 1) := by decide +kernel
theorem d_M_tablet_55 : decode b_M_tablet 55 = .ok (.iaload, 1) := by decide +kernel
theorem d_M_tablet_56 : decode b_M_tablet 56 = .ok (.goto 9, 3) := by decide +kernel
theorem d_M_tablet_59 : decode b_M_tablet 59 = .ok (.aload_n 0, 1) := by decide +kernel
theorem d_M_tablet_60 : decode b_M_tablet 60 = .ok (.iload_n 1, 1) := by decide +kernel
theorem d_M_tablet_61 : decode b_M_tablet 61 = .ok (.iconst (-1), 1) := by decide +kernel
theorem d_M_tablet_62 : decode b_M_tablet 62 = .ok (.invokevirtual 155, 3) := by decide +kernel
theorem d_M_tablet_65 : decode b_M_tablet 65 = .ok (.ireturn, 1) := by decide +kernel
theorem d_M_table_0 : decode b_M_table 0 = .ok (.aload_n 0, 1) := by decide +kernel
theorem d_M_table_1 : decode b_M_table 1 = .ok (.iload_n 1, 1) := by decide +kernel
theorem d_M_table_2 : decode b_M_table 2 = .ok (.invokevirtual 189, 3) := by decide +kernel
theorem d_M_table_5 : decode b_M_table 5 = .ok (.ifCond .eq 26, 3) := by decide +kernel
theorem d_M_table_8 : decode b_M_table 8 = .ok (.iload_n 2, 1) := by decide +kernel
theorem d_M_table_9 : decode b_M_table 9 = .ok (.ifCond .lt 22, 3) := by decide +kernel
theorem d_M_table_12 : decode b_M_table 12 = .ok (.iload_n 2, 1) := by decide +kernel
theorem d_M_table_13 : decode b_M_table 13 = .ok (.aload_n 0, 1) := by decide +kernel
theorem d_M_table_14 : decode b_M_table 14 = .ok (.getfield 41, 3) := by decide +kernel
theorem d_M_table_17 : decode b_M_table 17 = .ok (.iload_n 1, 1) := by decide +kernel
theorem d_M_table_18 : decode b_M_table 18 = .ok (.iaload, 1) := by decide +kernel
theorem d_M_table_19 : decode b_M_table 19 = .ok (.if_icmp .ge 12, 3) := by decide +kernel
theorem d_M_table_22 : decode b_M_table 22 = .ok (.iload_n 3, 1) := by decide +kernel
theorem d_M_table_23 : decode b_M_table 23 = .ok (.ifCond .lt 8, 3) := by decide +kernel
theorem d_M_table_26 : decode b_M_table 26 = .ok (.iload_n 3, 1) := by decide +kernel
theorem d_M_table_27 : decode b_M_table 27 = .ok (.iconst 3, 1) := by decide +kernel
theorem d_M_table_28 : decode b_M_table 28 = .ok (.if_icmp .le 5, 3) := by decide +kernel
theorem d_M_table_31 : decode b_M_table 31 = .ok (.iconst (-1), 1) := by decide +kernel
theorem d_M_table_32 : decode b_M_table 32 = .ok (.ireturn, 1) := by decide +kernel
theorem d_M_table_33 : decode b_M_table 33 = .ok (.iconst 0, 1) := by decide +kernel
theorem d_M_table_34 : decode b_M_table 34 = .ok (.istore 4, 2) := by decide +kernel
theorem d_M_table_36 : decode b_M_table 36 = .ok (.bipush 64, 2) := by decide +kernel
theorem d_M_table_38 : decode b_M_table 38 = .ok (.istore 5, 2) := by decide +kernel
theorem d_M_table_40 : decode b_M_table 40 = .ok (.iconst 0, 1) := by decide +kernel
theorem d_M_table_41 : decode b_M_table 41 = .ok (.istore 6, 2) := by decide +kernel
theorem d_M_table_43 : decode b_M_table 43 = .ok (.iload 6, 2) := by decide +kernel
theorem d_M_table_45 : decode b_M_table 45 = .ok (.aload_n 0, 1) := by decide +kernel
theorem d_M_table_46 : decode b_M_table 46 = .ok (.getfield 79, 3) := by decide +kernel
theorem d_M_table_49 : decode b_M_table 49 = .ok (.if_icmp .ge 77, 3) := by decide +kernel
theorem d_M_table_52 : decode b_M_table 52 = .ok (.aload_n 0, 1) := by decide +kernel
theorem d_M_table_53 : decode b_M_table 53 = .ok (.getfield 28, 3) := by decide +kernel
theorem d_M_table_56 : decode b_M_table 56 = .ok (.iload 6, 2) := by decide +kernel
theorem d_M_table_58 : decode b_M_table 58 = .ok (.iaload, 1) := by decide +kernel
theorem d_M_table_59 : decode b_M_table 59 = .ok (.iload_n 1, 1) := by decide +kernel
theorem d_M_table_60 : decode b_M_table 60 = .ok (.if_icmp .ne 60, 3) := by decide +kernel
theorem d_M_table_63 : decode b_M_table 63 = .ok (.aload_n 0, 1) := by decide +kernel
theorem d_M_table_64 : decode b_M_table 64 = .ok (.getfield 31, 3) := by decide +kernel
theorem d_M_table_67 : decode b_M_table 67 = .ok (.iload 6, 2) := by decide +kernel
theorem d_M_table_69 : decode b_M_table 69 = .ok (.iaload, 1) := by decide +kernel
theorem d_M_table_70 : decode b_M_table 70 = .ok (.iload_n 2, 1) := by decide +kernel
theorem d_M_table_71 : decode b_M_table 71 = .ok (.if_icmp .ne 49, 3) := by decide +kernel
theorem d_M_table_74 : decode b_M_table 74 = .ok (.iload 4, 2) := by decide +kernel
theorem d_M_table_76 : decode b_M_table 76 = .ok (.aload_n 0, 1) := by decide +kernel
theorem d_M_table_77 : decode b_M_table 77 = .ok (.getfield 7, 3) := by decide +kernel
theorem d_M_table_80 : decode b_M_table 80 = .ok (.iload 6, 2) := by decide +kernel
theorem d_M_table_82 : decode b_M_table 82 = .ok (.iaload, 1) := by decide +kernel
theorem d_M_table_83 : decode b_M_table 83 = .ok (.ifCond .ne 7, 3) := by decide +kernel
theorem d_M_table_86 : decode b_M_table 86 = .ok (.iconst 0, 1) := by decide +kernel
theorem d_M_table_87 : decode b_M_table 87 = .ok (.goto 4, 3) := by decide +kernel
theorem d_M_table_90 : decode b_M_table 90 = .ok (.iconst 1, 1) := by decide +kernel
theorem d_M_table_91 : decode b_M_table 91 = .ok (.iadd, 1) := by decide +kernel
theorem d_M_table_92 : decode b_M_table 92 = .ok (.istore 4, 2) := by decide +kernel
theorem d_M_table_94 : decode b_M_table 94 = .ok (.aload_n 0, 1) := by decide +kernel
theorem d_M_table_95 : decode b_M_table 95 = .ok (.getfield 13, 3) := by decide +kernel
theorem d_M_table_98 : decode b_M_table 98 = .ok (.iload 6, 2) := by decide +kernel
theorem d_M_table_100 : decode b_M_table 100 = .ok (.iaload, 1) := by decide +kernel
theorem d_M_table_101 : decode b_M_table 101 = .ok (.iload 5, 2) := by decide +kernel
theorem d_M_table_103 : decode b_M_table 103 = .ok (.if_icmp .ge 13, 3) := by decide +kernel
theorem d_M_table_106 : decode b_M_table 106 = .ok (.aload_n 0, 1) := by decide +kernel
theorem d_M_table_107 : decode b_M_table 107 = .ok (.getfield 13, 3) := by decide +kernel
theorem d_M_table_110 : decode b_M_table 110 = .ok (.iload 6, 2) := by decide +kernel
theorem d_M_table_112 : decode b_M_table 112 = .ok (.iaload, 1) := by decide +kernel
theorem d_M_table_113 : decode b_M_table 113 = .ok (.goto 5, 3) := by decide +kernel
theorem d_M_table_116 : decode b_M_table 116 = .ok (.iload 5, 2) := by decide +kernel
theorem d_M_table_118 : decode b_M_table 118 = .ok (.istore 5, 2) := by decide +kernel
theorem d_M_table_120 : decode b_M_table 120 = .ok (.iinc 6 1, 3) := by decide +kernel
theorem d_M_table_123 : decode b_M_table 123 = .ok (.goto (-80), 3) := by decide +kernel
theorem d_M_table_126 : decode b_M_table 126 = .ok (.aload_n 0, 1) := by decide +kernel
theorem d_M_table_127 : decode b_M_table 127 = .ok (.iload_n 1, 1) := by decide +kernel
theorem d_M_table_128 : decode b_M_table 128 = .ok (.iload_n 2, 1) := by decide +kernel
theorem d_M_table_129 : decode b_M_table 129 = .ok (.invokevirtual 155, 3) := by decide +kernel
theorem d_M_table_132 : decode b_M_table 132 = .ok (.istore 6, 2) := by decide +kernel
theorem d_M_table_134 : decode b_M_table 134 = .ok (.iload_n 3, 1) := by decide +kernel
theorem d_M_table_135 : decode b_M_table 135 = .ok (.ifCond .ne 8, 3) := by decide +kernel
theorem d_M_table_138 : decode b_M_table 138 = .ok (.iload 6, 2) := by decide +kernel
theorem d_M_table_140 : decode b_M_table 140 = .ok (.goto 29, 3) := by decide +kernel
theorem d_M_table_143 : decode b_M_table 143 = .ok (.iload_n 3, 1) := by decide +kernel
theorem d_M_table_144 : decode b_M_table 144 = .ok (.iconst 1, 1) := by decide +kernel
theorem d_M_table_145 : decode b_M_table 145 = .ok (.if_icmp .ne 8, 3) := by decide +kernel
theorem d_M_table_148 : decode b_M_table 148 = .ok (.iload 4, 2) := by decide +kernel
theorem d_M_table_150 : decode b_M_table 150 = .ok (.goto 19, 3) := by decide +kernel
theorem d_M_table_153 : decode b_M_table 153 = .ok (.iload_n 3, 1) := by decide +kernel
theorem d_M_table_154 : decode b_M_table 154 = .ok (.iconst 2, 1) := by decide +kernel
theorem d_M_table_155 : decode b_M_table 155 = .ok (.if_icmp .ne 12, 3) := by decide +kernel
theorem d_M_table_158 : decode b_M_table 158 = .ok (.iload 6, 2) := by decide +kernel
theorem d_M_table_160 : decode b_M_table 160 = .ok (.iconst 3, 1) := by decide +kernel
theorem d_M_table_161 : decode b_M_table 161 = .ok (.iadd, 1) := by decide +kernel
theorem d_M_table_162 : decode b_M_table 162 = .ok (.iconst 4, 1) := by decide +kernel
theorem d_M_table_163 : decode b_M_table 163 = .ok (.idiv, 1) := by decide +kernel
theorem d_M_table_164 : decode b_M_table 164 = .ok (.goto 5, 3) := by decide +kernel
theorem d_M_table_167 : decode b_M_table 167 = .ok (.iload 5, 2) := by decide +kernel
theorem d_M_table_169 : decode b_M_table 169 = .ok (.ireturn, 1) := by decide +kernel
theorem d_M_log_0 : decode b_M_log 0 = .ok (.iconst 0, 1) := by decide +kernel
theorem d_M_log_1 : decode b_M_log 1 = .ok (.istore_n 1, 1) := by decide +kernel
theorem d_M_log_2 : decode b_M_log 2 = .ok (.iconst 0, 1) := by decide +kernel
theorem d_M_log_3 : decode b_M_log 3 = .ok (.istore_n 2, 1) := by decide +kernel
theorem d_M_log_4 : decode b_M_log 4 = .ok (.iload_n 2, 1) := by decide +kernel
theorem d_M_log_5 : decode b_M_log 5 = .ok (.aload_n 0, 1) := by decide +kernel
theorem d_M_log_6 : decode b_M_log 6 = .ok (.getfield 79, 3) := by decide +kernel
theorem d_M_log_9 : decode b_M_log 9 = .ok (.if_icmp .ge 89, 3) := by decide +kernel
theorem d_M_log_12 : decode b_M_log 12 = .ok (.aload_n 0, 1) := by decide +kernel
theorem d_M_log_13 : decode b_M_log 13 = .ok (.getfield 31, 3) := by decide +kernel
theorem d_M_log_16 : decode b_M_log 16 = .ok (.iload_n 2, 1) := by decide +kernel
theorem d_M_log_17 : decode b_M_log 17 = .ok (.iaload, 1) := by decide +kernel
theorem d_M_log_18 : decode b_M_log 18 = .ok (.iconst (-1), 1) := by decide +kernel
theorem d_M_log_19 : decode b_M_log 19 = .ok (.if_icmp .ne 7, 3) := by decide +kernel
theorem d_M_log_22 : decode b_M_log 22 = .ok (.iconst 1, 1) := by decide +kernel
theorem d_M_log_23 : decode b_M_log 23 = .ok (.goto 4, 3) := by decide +kernel
theorem d_M_log_26 : decode b_M_log 26 = .ok (.iconst 0, 1) := by decide +kernel
theorem d_M_log_27 : decode b_M_log 27 = .ok (.istore_n 3, 1) := by decide +kernel
theorem d_M_log_28 : decode b_M_log 28 = .ok (.iconst 0, 1) := by decide +kernel
theorem d_M_log_29 : decode b_M_log 29 = .ok (.istore 4, 2) := by decide +kernel
theorem d_M_log_31 : decode b_M_log 31 = .ok (.iload 4, 2) := by decide +kernel
theorem d_M_log_33 : decode b_M_log 33 = .ok (.iload_n 2, 1) := by decide +kernel
theorem d_M_log_34 : decode b_M_log 34 = .ok (.if_icmp .ge 46, 3) := by decide +kernel
theorem d_M_log_37 : decode b_M_log 37 = .ok (.iload_n 3, 1) := by decide +kernel
theorem d_M_log_38 : decode b_M_log 38 = .ok (.ifCond .eq 34, 3) := by decide +kernel
theorem d_M_log_41 : decode b_M_log 41 = .ok (.aload_n 0, 1) := by decide +kernel
theorem d_M_log_42 : decode b_M_log 42 = .ok (.getfield 31, 3) := by decide +kernel
theorem d_M_log_45 : decode b_M_log 45 = .ok (.iload 4, 2) := by decide +kernel
theorem d_M_log_47 : decode b_M_log 47 = .ok (.iaload, 1) := by decide +kernel
theorem d_M_log_48 : decode b_M_log 48 = .ok (.iconst (-1), 1) := by decide +kernel
theorem d_M_log_49 : decode b_M_log 49 = .ok (.if_icmp .ne 19, 3) := by decide +kernel
theorem d_M_log_52 : decode b_M_log 52 = .ok (.aload_n 0, 1) := by decide +kernel
theorem d_M_log_53 : decode b_M_log 53 = .ok (.getfield 25, 3) := by decide +kernel
theorem d_M_log_56 : decode b_M_log 56 = .ok (.iload 4, 2) := by decide +kernel
theorem d_M_log_58 : decode b_M_log 58 = .ok (.iaload, 1) := by decide +kernel
theorem d_M_log_59 : decode b_M_log 59 = .ok (.aload_n 0, 1) := by decide +kernel
theorem d_M_log_60 : decode b_M_log 60 = .ok (.getfield 25, 3) := by decide +kernel
theorem d_M_log_63 : decode b_M_log 63 = .ok (.iload_n 2, 1) := by decide +kernel
theorem d_M_log_64 : decode b_M_log 64 = .ok (.iaload, 1) := by decide +kernel
theorem d_M_log_65 : decode b_M_log 65 = .ok (.if_icmp .eq 7, 3) := by decide +kernel
theorem d_M_log_68 : decode b_M_log 68 = .ok (.iconst 1, 1) := by decide +kernel
theorem d_M_log_69 : decode b_M_log 69 = .ok (.goto 4, 3) := by decide +kernel
theorem d_M_log_72 : decode b_M_log 72 = .ok (.iconst 0, 1) := by decide +kernel
theorem d_M_log_73 : decode b_M_log 73 = .ok (.istore_n 3, 1) := by decide +kernel
theorem d_M_log_74 : decode b_M_log 74 = .ok (.iinc 4 1, 3) := by decide +kernel
theorem d_M_log_77 : decode b_M_log 77 = .ok (.goto (-46), 3) := by decide +kernel
theorem d_M_log_80 : decode b_M_log 80 = .ok (.iload_n 1, 1) := by decide +kernel
theorem d_M_log_81 : decode b_M_log 81 = .ok (.iload_n 3, 1) := by decide +kernel
theorem d_M_log_82 : decode b_M_log 82 = .ok (.ifCond .eq 7, 3) := by decide +kernel
theorem d_M_log_85 : decode b_M_log 85 = .ok (.iconst 1, 1) := by decide +kernel
theorem d_M_log_86 : decode b_M_log 86 = .ok (.goto 4, 3) := by decide +kernel
theorem d_M_log_89 : decode b_M_log 89 = .ok (.iconst 0, 1) := by decide +kernel
theorem d_M_log_90 : decode b_M_log 90 = .ok (.iadd, 1) := by decide +kernel
theorem d_M_log_91 : decode b_M_log 91 = .ok (.istore_n 1, 1) := by decide +kernel
theorem d_M_log_92 : decode b_M_log 92 = .ok (.iinc 2 1, 3) := by decide +kernel
theorem d_M_log_95 : decode b_M_log 95 = .ok (.goto (-91), 3) := by decide +kernel
theorem d_M_log_98 : decode b_M_log 98 = .ok (.iload_n 1, 1) := by decide +kernel
theorem d_M_log_99 : decode b_M_log 99 = .ok (.ireturn, 1) := by decide +kernel
theorem d_M_looked_0 : decode b_M_looked 0 = .ok (.aload_n 0, 1) := by decide +kernel
theorem d_M_looked_1 : decode b_M_looked 1 = .ok (.getfield 165, 3) := by decide +kernel
theorem d_M_looked_4 : decode b_M_looked 4 = .ok (.ireturn, 1) := by decide +kernel
theorem d_B_init_0 : decode b_B_init 0 = .ok (.aload_n 0, 1) := by decide +kernel
theorem d_B_init_1 : decode b_B_init 1 = .ok (.invokespecial 3, 3) := by decide +kernel
theorem d_B_init_4 : decode b_B_init 4 = .ok (.aload_n 0, 1) := by decide +kernel
theorem d_B_init_5 : decode b_B_init 5 = .ok (.iconst 0, 1) := by decide +kernel
theorem d_B_init_6 : decode b_B_init 6 = .ok (.putfield 9, 3) := by decide +kernel
theorem d_B_init_9 : decode b_B_init 9 = .ok (.aload_n 0, 1) := by decide +kernel
theorem d_B_init_10 : decode b_B_init 10 = .ok (.iconst 0, 1) := by decide +kernel
theorem d_B_init_11 : decode b_B_init 11 = .ok (.putfield 15, 3) := by decide +kernel
theorem d_B_init_14 : decode b_B_init 14 = .ok (.aload_n 0, 1) := by decide +kernel
theorem d_B_init_15 : decode b_B_init 15 = .ok (.iconst 4, 1) := by decide +kernel
theorem d_B_init_16 : decode b_B_init 16 = .ok (.newarray .int, 2) := by decide +kernel
theorem d_B_init_18 : decode b_B_init 18 = .ok (.putfield 18, 3) := by decide +kernel
theorem d_B_init_21 : decode b_B_init 21 = .ok (.aload_n 0, 1) := by decide +kernel
theorem d_B_init_22 : decode b_B_init 22 = .ok (.iconst 4, 1) := by decide +kernel
theorem d_B_init_23 : decode b_B_init 23 = .ok (.newarray .int, 2) := by decide +kernel
theorem d_B_init_25 : decode b_B_init 25 = .ok (.putfield 22, 3) := by decide +kernel
theorem d_B_init_28 : decode b_B_init 28 = .ok (.aload_n 0, 1) := by decide +kernel
theorem d_B_init_29 : decode b_B_init 29 = .ok (.iconst 4, 1) := by decide +kernel
theorem d_B_init_30 : decode b_B_init 30 = .ok (.newarray .int, 2) := by decide +kernel
theorem d_B_init_32 : decode b_B_init 32 = .ok (.putfield 25, 3) := by decide +kernel
theorem d_B_init_35 : decode b_B_init 35 = .ok (.aload_n 0, 1) := by decide +kernel
theorem d_B_init_36 : decode b_B_init 36 = .ok (.iconst 4, 1) := by decide +kernel
theorem d_B_init_37 : decode b_B_init 37 = .ok (.newarray .boolean, 2) := by decide +kernel
theorem d_B_init_39 : decode b_B_init 39 = .ok (.putfield 28, 3) := by decide +kernel
theorem d_B_init_42 : decode b_B_init 42 = .ok (.aload_n 0, 1) := by decide +kernel
theorem d_B_init_43 : decode b_B_init 43 = .ok (.iconst 0, 1) := by decide +kernel
theorem d_B_init_44 : decode b_B_init 44 = .ok (.putfield 32, 3) := by decide +kernel
theorem d_B_init_47 : decode b_B_init 47 = .ok (.aload_n 0, 1) := by decide +kernel
theorem d_B_init_48 : decode b_B_init 48 = .ok (.iconst 0, 1) := by decide +kernel
theorem d_B_init_49 : decode b_B_init 49 = .ok (.putfield 36, 3) := by decide +kernel
theorem d_B_init_52 : decode b_B_init 52 = .ok (.aload_n 0, 1) := by decide +kernel
theorem d_B_init_53 : decode b_B_init 53 = .ok (.iconst 0, 1) := by decide +kernel
theorem d_B_init_54 : decode b_B_init 54 = .ok (.putfield 39, 3) := by decide +kernel
theorem d_B_init_57 : decode b_B_init 57 = .ok (.aload_n 0, 1) := by decide +kernel
theorem d_B_init_58 : decode b_B_init 58 = .ok (.iconst 0, 1) := by decide +kernel
theorem d_B_init_59 : decode b_B_init 59 = .ok (.putfield 42, 3) := by decide +kernel
theorem d_B_init_62 : decode b_B_init 62 = .ok (.aload_n 0, 1) := by decide +kernel
theorem d_B_init_63 : decode b_B_init 63 = .ok (.iconst 0, 1) := by decide +kernel
theorem d_B_init_64 : decode b_B_init 64 = .ok (.putfield 45, 3) := by decide +kernel
theorem d_B_init_67 : decode b_B_init 67 = .ok (.return_, 1) := by decide +kernel
theorem d_B_takes_0 : decode b_B_takes 0 = .ok (.aload_n 0, 1) := by decide +kernel
theorem d_B_takes_1 : decode b_B_takes 1 = .ok (.getfield 15, 3) := by decide +kernel
theorem d_B_takes_4 : decode b_B_takes 4 = .ok (.ifCond .eq 19, 3) := by decide +kernel
theorem d_B_takes_7 : decode b_B_takes 7 = .ok (.aload_n 0, 1) := by decide +kernel
theorem d_B_takes_8 : decode b_B_takes 8 = .ok (.getfield 15, 3) := by decide +kernel
theorem d_B_takes_11 : decode b_B_takes 11 = .ok (.iconst 4, 1) := by decide +kernel
theorem d_B_takes_12 : decode b_B_takes 12 = .ok (.if_icmp .ge 15, 3) := by decide +kernel
theorem d_B_takes_15 : decode b_B_takes 15 = .ok (.aload_n 0, 1) := by decide +kernel
theorem d_B_takes_16 : decode b_B_takes 16 = .ok (.getfield 9, 3) := by decide +kernel
theorem d_B_takes_19 : decode b_B_takes 19 = .ok (.iload_n 1, 1) := by decide +kernel
theorem d_B_takes_20 : decode b_B_takes 20 = .ok (.if_icmp .ne 7, 3) := by decide +kernel
theorem d_B_takes_23 : decode b_B_takes 23 = .ok (.iconst 1, 1) := by decide +kernel
theorem d_B_takes_24 : decode b_B_takes 24 = .ok (.goto 4, 3) := by decide +kernel
theorem d_B_takes_27 : decode b_B_takes 27 = .ok (.iconst 0, 1) := by decide +kernel
theorem d_B_takes_28 : decode b_B_takes 28 = .ok (.ireturn, 1) := by decide +kernel
theorem d_B_addCell_0 : decode b_B_addCell 0 = .ok (.aload_n 0, 1) := by decide +kernel
theorem d_B_addCell_1 : decode b_B_addCell 1 = .ok (.iload_n 1, 1) := by decide +kernel
theorem d_B_addCell_2 : decode b_B_addCell 2 = .ok (.iload_n 2, 1) := by decide +kernel
theorem d_B_addCell_3 : decode b_B_addCell 3 = .ok (.iload_n 3, 1) := by decide +kernel
theorem d_B_addCell_4 : decode b_B_addCell 4 = .ok (.invokevirtual 48, 3) := by decide +kernel
theorem d_B_addCell_7 : decode b_B_addCell 7 = .ok (.aload_n 0, 1) := by decide +kernel
theorem d_B_addCell_8 : decode b_B_addCell 8 = .ok (.getfield 25, 3) := by decide +kernel
theorem d_B_addCell_11 : decode b_B_addCell 11 = .ok (.aload_n 0, 1) := by decide +kernel
theorem d_B_addCell_12 : decode b_B_addCell 12 = .ok (.getfield 15, 3) := by decide +kernel
theorem d_B_addCell_15 : decode b_B_addCell 15 = .ok (.iload 4, 2) := by decide +kernel
theorem d_B_addCell_17 : decode b_B_addCell 17 = .ok (.iastore, 1) := by decide +kernel
theorem d_B_addCell_18 : decode b_B_addCell 18 = .ok (.aload_n 0, 1) := by decide +kernel
theorem d_B_addCell_19 : decode b_B_addCell 19 = .ok (.getfield 28, 3) := by decide +kernel
theorem d_B_addCell_22 : decode b_B_addCell 22 = .ok (.aload_n 0, 1) := by decide +kernel
theorem d_B_addCell_23 : decode b_B_addCell 23 = .ok (.getfield 15, 3) := by decide +kernel
theorem d_B_addCell_26 : decode b_B_addCell 26 = .ok (.iconst 0, 1) := by decide +kernel
theorem d_B_addCell_27 : decode b_B_addCell 27 = .ok (.bastore, 1) := by decide +kernel
theorem d_B_addCell_28 : decode b_B_addCell 28 = .ok (.aload_n 0, 1) := by decide +kernel
theorem d_B_addCell_29 : decode b_B_addCell 29 = .ok (.dup, 1) := by decide +kernel
theorem d_B_addCell_30 : decode b_B_addCell 30 = .ok (.getfield 15, 3) := by decide +kernel
theorem d_B_addCell_33 : decode b_B_addCell 33 = .ok (.iconst 1, 1) := by decide +kernel
theorem d_B_addCell_34 : decode b_B_addCell 34 = .ok (.iadd, 1) := by decide +kernel
theorem d_B_addCell_35 : decode b_B_addCell 35 = .ok (.putfield 15, 3) := by decide +kernel
theorem d_B_addCell_38 : decode b_B_addCell 38 = .ok (.return_, 1) := by decide +kernel
theorem d_B_addErasure_0 : decode b_B_addErasure 0 = .ok (.aload_n 0, 1) := by decide +kernel
theorem d_B_addErasure_1 : decode b_B_addErasure 1 = .ok (.iload_n 1, 1) := by decide +kernel
theorem d_B_addErasure_2 : decode b_B_addErasure 2 = .ok (.iload_n 2, 1) := by decide +kernel
theorem d_B_addErasure_3 : decode b_B_addErasure 3 = .ok (.iload_n 3, 1) := by decide +kernel
theorem d_B_addErasure_4 : decode b_B_addErasure 4 = .ok (.invokevirtual 48, 3) := by decide +kernel
theorem d_B_addErasure_7 : decode b_B_addErasure 7 = .ok (.aload_n 0, 1) := by decide +kernel
theorem d_B_addErasure_8 : decode b_B_addErasure 8 = .ok (.getfield 25, 3) := by decide +kernel
theorem d_B_addErasure_11 : decode b_B_addErasure 11 = .ok (.aload_n 0, 1) := by decide +kernel
theorem d_B_addErasure_12 : decode b_B_addErasure 12 = .ok (.getfield 15, 3) := by decide +kernel
theorem d_B_addErasure_15 : decode b_B_addErasure 15 = .ok (.iconst 0, 1) := by decide +kernel
theorem d_B_addErasure_16 : decode b_B_addErasure 16 = .ok (.iastore, 1) := by decide +kernel
theorem d_B_addErasure_17 : decode b_B_addErasure 17 = .ok (.aload_n 0, 1) := by decide +kernel
theorem d_B_addErasure_18 : decode b_B_addErasure 18 = .ok (.getfield 28, 3) := by decide +kernel
theorem d_B_addErasure_21 : decode b_B_addErasure 21 = .ok (.aload_n 0, 1) := by decide +kernel
theorem d_B_addErasure_22 : decode b_B_addErasure 22 = .ok (.getfield 15, 3) := by decide +kernel
theorem d_B_addErasure_25 : decode b_B_addErasure 25 = .ok (.iconst 1, 1) := by decide +kernel
theorem d_B_addErasure_26 : decode b_B_addErasure 26 = .ok (.bastore, 1) := by decide +kernel
theorem d_B_addErasure_27 : decode b_B_addErasure 27 = .ok (.aload_n 0, 1) := by decide +kernel
theorem d_B_addErasure_28 : decode b_B_addErasure 28 = .ok (.dup, 1) := by decide +kernel
theorem d_B_addErasure_29 : decode b_B_addErasure 29 = .ok (.getfield 15, 3) := by decide +kernel
theorem d_B_addErasure_32 : decode b_B_addErasure 32 = .ok (.iconst 1, 1) := by decide +kernel
theorem d_B_addErasure_33 : decode b_B_addErasure 33 = .ok (.iadd, 1) := by decide +kernel
theorem d_B_addErasure_34 : decode b_B_addErasure 34 = .ok (.putfield 15, 3) := by decide +kernel
theorem d_B_addErasure_37 : decode b_B_addErasure 37 = .ok (.return_, 1) := by decide +kernel
theorem d_B_addChange_0 : decode b_B_addChange 0 = .ok (.aload_n 0, 1) := by decide +kernel
theorem d_B_addChange_1 : decode b_B_addChange 1 = .ok (.iload_n 1, 1) := by decide +kernel
theorem d_B_addChange_2 : decode b_B_addChange 2 = .ok (.putfield 9, 3) := by decide +kernel
theorem d_B_addChange_5 : decode b_B_addChange 5 = .ok (.aload_n 0, 1) := by decide +kernel
theorem d_B_addChange_6 : decode b_B_addChange 6 = .ok (.getfield 18, 3) := by decide +kernel
theorem d_B_addChange_9 : decode b_B_addChange 9 = .ok (.aload_n 0, 1) := by decide +kernel
theorem d_B_addChange_10 : decode b_B_addChange 10 = .ok (.getfield 15, 3) := by decide +kernel
theorem d_B_addChange_13 : decode b_B_addChange 13 = .ok (.iload_n 2, 1) := by decide +kernel
theorem d_B_addChange_14 : decode b_B_addChange 14 = .ok (.iastore, 1) := by decide +kernel
theorem d_B_addChange_15 : decode b_B_addChange 15 = .ok (.aload_n 0, 1) := by decide +kernel
theorem d_B_addChange_16 : decode b_B_addChange 16 = .ok (.getfield 22, 3) := by decide +kernel
theorem d_B_addChange_19 : decode b_B_addChange 19 = .ok (.aload_n 0, 1) := by decide +kernel
theorem d_B_addChange_20 : decode b_B_addChange 20 = .ok (.getfield 15, 3) := by decide +kernel
theorem d_B_addChange_23 : decode b_B_addChange 23 = .ok (.iload_n 3, 1) := by decide +kernel
theorem d_B_addChange_24 : decode b_B_addChange 24 = .ok (.iastore, 1) := by decide +kernel
theorem d_B_addChange_25 : decode b_B_addChange 25 = .ok (.return_, 1) := by decide +kernel
theorem d_B_setExpectation_0 : decode b_B_setExpectation 0 = .ok (.aload_n 0, 1) := by decide +kernel
theorem d_B_setExpectation_1 : decode b_B_setExpectation 1 = .ok (.iconst 1, 1) := by decide +kernel
theorem d_B_setExpectation_2 : decode b_B_setExpectation 2 = .ok (.putfield 32, 3) := by decide +kernel
theorem d_B_setExpectation_5 : decode b_B_setExpectation 5 = .ok (.aload_n 0, 1) := by decide +kernel
theorem d_B_setExpectation_6 : decode b_B_setExpectation 6 = .ok (.iload_n 1, 1) := by decide +kernel
theorem d_B_setExpectation_7 : decode b_B_setExpectation 7 = .ok (.putfield 36, 3) := by decide +kernel
theorem d_B_setExpectation_10 : decode b_B_setExpectation 10 = .ok (.aload_n 0, 1) := by decide +kernel
theorem d_B_setExpectation_11 : decode b_B_setExpectation 11 = .ok (.iload_n 2, 1) := by decide +kernel
theorem d_B_setExpectation_12 : decode b_B_setExpectation 12 = .ok (.putfield 39, 3) := by decide +kernel
theorem d_B_setExpectation_15 : decode b_B_setExpectation 15 = .ok (.aload_n 0, 1) := by decide +kernel
theorem d_B_setExpectation_16 : decode b_B_setExpectation 16 = .ok (.iload_n 3, 1) := by decide +kernel
theorem d_B_setExpectation_17 : decode b_B_setExpectation 17 = .ok (.putfield 42, 3) := by decide +kernel
theorem d_B_setExpectation_20 : decode b_B_setExpectation 20 = .ok (.aload_n 0, 1) := by decide +kernel
theorem d_B_setExpectation_21 : decode b_B_setExpectation 21 = .ok (.iload 4, 2) := by decide +kernel
theorem d_B_setExpectation_23 : decode b_B_setExpectation 23 = .ok (.putfield 45, 3) := by decide +kernel
theorem d_B_setExpectation_26 : decode b_B_setExpectation 26 = .ok (.return_, 1) := by decide +kernel
theorem d_B_empty_0 : decode b_B_empty 0 = .ok (.aload_n 0, 1) := by decide +kernel
theorem d_B_empty_1 : decode b_B_empty 1 = .ok (.iconst 0, 1) := by decide +kernel
theorem d_B_empty_2 : decode b_B_empty 2 = .ok (.putfield 15, 3) := by decide +kernel
theorem d_B_empty_5 : decode b_B_empty 5 = .ok (.aload_n 0, 1) := by decide +kernel
theorem d_B_empty_6 : decode b_B_empty 6 = .ok (.iconst 0, 1) := by decide +kernel
theorem d_B_empty_7 : decode b_B_empty 7 = .ok (.putfield 32, 3) := by decide +kernel
theorem d_B_empty_10 : decode b_B_empty 10 = .ok (.return_, 1) := by decide +kernel
theorem d_E_init_0 : decode b_E_init 0 = .ok (.aload_n 0, 1) := by decide +kernel
theorem d_E_init_1 : decode b_E_init 1 = .ok (.invokespecial 3, 3) := by decide +kernel
theorem d_E_init_4 : decode b_E_init 4 = .ok (.return_, 1) := by decide +kernel
theorem d_E_begin_0 : decode b_E_begin 0 = .ok (.aload_n 0, 1) := by decide +kernel
theorem d_E_begin_1 : decode b_E_begin 1 = .ok (.iload_n 1, 1) := by decide +kernel
theorem d_E_begin_2 : decode b_E_begin 2 = .ok (.putfield 9, 3) := by decide +kernel
theorem d_E_begin_5 : decode b_E_begin 5 = .ok (.aload_n 0, 1) := by decide +kernel
theorem d_E_begin_6 : decode b_E_begin 6 = .ok (.iload_n 2, 1) := by decide +kernel
theorem d_E_begin_7 : decode b_E_begin 7 = .ok (.putfield 15, 3) := by decide +kernel
theorem d_E_begin_10 : decode b_E_begin 10 = .ok (.aload_n 0, 1) := by decide +kernel
theorem d_E_begin_11 : decode b_E_begin 11 = .ok (.iload_n 2, 1) := by decide +kernel
theorem d_E_begin_12 : decode b_E_begin 12 = .ok (.invokestatic 18, 3) := by decide +kernel
theorem d_E_begin_15 : decode b_E_begin 15 = .ok (.putfield 22, 3) := by decide +kernel
theorem d_E_begin_18 : decode b_E_begin 18 = .ok (.aload_n 0, 1) := by decide +kernel
theorem d_E_begin_19 : decode b_E_begin 19 = .ok (.iload_n 3, 1) := by decide +kernel
theorem d_E_begin_20 : decode b_E_begin 20 = .ok (.putfield 25, 3) := by decide +kernel
theorem d_E_begin_23 : decode b_E_begin 23 = .ok (.aload_n 0, 1) := by decide +kernel
theorem d_E_begin_24 : decode b_E_begin 24 = .ok (.iload 4, 2) := by decide +kernel
theorem d_E_begin_26 : decode b_E_begin 26 = .ok (.putfield 28, 3) := by decide +kernel
theorem d_E_begin_29 : decode b_E_begin 29 = .ok (.aload_n 0, 1) := by decide +kernel
theorem d_E_begin_30 : decode b_E_begin 30 = .ok (.iconst 0, 1) := by decide +kernel
theorem d_E_begin_31 : decode b_E_begin 31 = .ok (.putfield 32, 3) := by decide +kernel
theorem d_E_begin_34 : decode b_E_begin 34 = .ok (.aload_n 0, 1) := by decide +kernel
theorem d_E_begin_35 : decode b_E_begin 35 = .ok (.iload 5, 2) := by decide +kernel
theorem d_E_begin_37 : decode b_E_begin 37 = .ok (.putfield 35, 3) := by decide +kernel
theorem d_E_begin_40 : decode b_E_begin 40 = .ok (.iload_n 3, 1) := by decide +kernel
theorem d_E_begin_41 : decode b_E_begin 41 = .ok (.iconst (-1), 1) := by decide +kernel
theorem d_E_begin_42 : decode b_E_begin 42 = .ok (.if_icmp .ne 7, 3) := by decide +kernel
theorem d_E_begin_45 : decode b_E_begin 45 = .ok (.iconst 0, 1) := by decide +kernel
theorem d_E_begin_46 : decode b_E_begin 46 = .ok (.goto 8, 3) := by decide +kernel
theorem d_E_begin_49 : decode b_E_begin 49 = .ok (.sipush 10000, 3) := by decide +kernel
theorem d_E_begin_52 : decode b_E_begin 52 = .ok (.iload_n 3, 1) := by decide +kernel
theorem d_E_begin_53 : decode b_E_begin 53 = .ok (.isub, 1) := by decide +kernel
theorem d_E_begin_54 : decode b_E_begin 54 = .ok (.istore 6, 2) := by decide +kernel
theorem d_E_begin_56 : decode b_E_begin 56 = .ok (.aload_n 0, 1) := by decide +kernel
theorem d_E_begin_57 : decode b_E_begin 57 = .ok (.iload_n 1, 1) := by decide +kernel
theorem d_E_begin_58 : decode b_E_begin 58 = .ok (.bipush 9, 2) := by decide +kernel
theorem d_E_begin_60 : decode b_E_begin 60 = .ok (.imul, 1) := by decide +kernel
theorem d_E_begin_61 : decode b_E_begin 61 = .ok (.iload_n 2, 1) := by decide +kernel
theorem d_E_begin_62 : decode b_E_begin 62 = .ok (.iadd, 1) := by decide +kernel
theorem d_E_begin_63 : decode b_E_begin 63 = .ok (.iconst 1, 1) := by decide +kernel
theorem d_E_begin_64 : decode b_E_begin 64 = .ok (.iadd, 1) := by decide +kernel
theorem d_E_begin_65 : decode b_E_begin 65 = .ok (.sipush 10001, 3) := by decide +kernel
theorem d_E_begin_68 : decode b_E_begin 68 = .ok (.imul, 1) := by decide +kernel
theorem d_E_begin_69 : decode b_E_begin 69 = .ok (.iload 6, 2) := by decide +kernel
theorem d_E_begin_71 : decode b_E_begin 71 = .ok (.iadd, 1) := by decide +kernel
theorem d_E_begin_72 : decode b_E_begin 72 = .ok (.putfield 38, 3) := by decide +kernel
theorem d_E_begin_75 : decode b_E_begin 75 = .ok (.aload_n 0, 1) := by decide +kernel
theorem d_E_begin_76 : decode b_E_begin 76 = .ok (.iconst (-1), 1) := by decide +kernel
theorem d_E_begin_77 : decode b_E_begin 77 = .ok (.putfield 41, 3) := by decide +kernel
theorem d_E_begin_80 : decode b_E_begin 80 = .ok (.aload_n 0, 1) := by decide +kernel
theorem d_E_begin_81 : decode b_E_begin 81 = .ok (.iconst 0, 1) := by decide +kernel
theorem d_E_begin_82 : decode b_E_begin 82 = .ok (.putfield 44, 3) := by decide +kernel
theorem d_E_begin_85 : decode b_E_begin 85 = .ok (.aload_n 0, 1) := by decide +kernel
theorem d_E_begin_86 : decode b_E_begin 86 = .ok (.iconst 0, 1) := by decide +kernel
theorem d_E_begin_87 : decode b_E_begin 87 = .ok (.putfield 47, 3) := by decide +kernel
theorem d_E_begin_90 : decode b_E_begin 90 = .ok (.aload_n 0, 1) := by decide +kernel
theorem d_E_begin_91 : decode b_E_begin 91 = .ok (.iconst 0, 1) := by decide +kernel
theorem d_E_begin_92 : decode b_E_begin 92 = .ok (.putfield 50, 3) := by decide +kernel
theorem d_E_begin_95 : decode b_E_begin 95 = .ok (.return_, 1) := by decide +kernel
theorem d_E_covers_0 : decode b_E_covers 0 = .ok (.aload_n 0, 1) := by decide +kernel
theorem d_E_covers_1 : decode b_E_covers 1 = .ok (.getfield 35, 3) := by decide +kernel
theorem d_E_covers_4 : decode b_E_covers 4 = .ok (.aload_n 1, 1) := by decide +kernel
theorem d_E_covers_5 : decode b_E_covers 5 = .ok (.getfield 35, 3) := by decide +kernel
theorem d_E_covers_8 : decode b_E_covers 8 = .ok (.if_icmp .le 14, 3) := by decide +kernel
theorem d_E_covers_11 : decode b_E_covers 11 = .ok (.aload_n 0, 1) := by decide +kernel
theorem d_E_covers_12 : decode b_E_covers 12 = .ok (.getfield 9, 3) := by decide +kernel
theorem d_E_covers_15 : decode b_E_covers 15 = .ok (.aload_n 1, 1) := by decide +kernel
theorem d_E_covers_16 : decode b_E_covers 16 = .ok (.getfield 9, 3) := by decide +kernel
theorem d_E_covers_19 : decode b_E_covers 19 = .ok (.if_icmp .eq 5, 3) := by decide +kernel
theorem d_E_covers_22 : decode b_E_covers 22 = .ok (.iconst 0, 1) := by decide +kernel
theorem d_E_covers_23 : decode b_E_covers 23 = .ok (.ireturn, 1) := by decide +kernel
theorem d_E_covers_24 : decode b_E_covers 24 = .ok (.aload_n 0, 1) := by decide +kernel
theorem d_E_covers_25 : decode b_E_covers 25 = .ok (.getfield 15, 3) := by decide +kernel
theorem d_E_covers_28 : decode b_E_covers 28 = .ok (.iconst (-1), 1) := by decide +kernel
theorem d_E_covers_29 : decode b_E_covers 29 = .ok (.if_icmp .ne 5, 3) := by decide +kernel
theorem d_E_covers_32 : decode b_E_covers 32 = .ok (.iconst 1, 1) := by decide +kernel
theorem d_E_covers_33 : decode b_E_covers 33 = .ok (.ireturn, 1) := by decide +kernel
theorem d_E_covers_34 : decode b_E_covers 34 = .ok (.aload_n 0, 1) := by decide +kernel
theorem d_E_covers_35 : decode b_E_covers 35 = .ok (.getfield 15, 3) := by decide +kernel
theorem d_E_covers_38 : decode b_E_covers 38 = .ok (.aload_n 1, 1) := by decide +kernel
theorem d_E_covers_39 : decode b_E_covers 39 = .ok (.getfield 15, 3) := by decide +kernel
theorem d_E_covers_42 : decode b_E_covers 42 = .ok (.if_icmp .ne 26, 3) := by decide +kernel
theorem d_E_covers_45 : decode b_E_covers 45 = .ok (.aload_n 0, 1) := by decide +kernel
theorem d_E_covers_46 : decode b_E_covers 46 = .ok (.getfield 25, 3) := by decide +kernel
theorem d_E_covers_49 : decode b_E_covers 49 = .ok (.iconst (-1), 1) := by decide +kernel
theorem d_E_covers_50 : decode b_E_covers 50 = .ok (.if_icmp .eq 14, 3) := by decide +kernel
theorem d_E_covers_53 : decode b_E_covers 53 = .ok (.aload_n 0, 1) := by decide +kernel
theorem d_E_covers_54 : decode b_E_covers 54 = .ok (.getfield 25, 3) := by decide +kernel
theorem d_E_covers_57 : decode b_E_covers 57 = .ok (.aload_n 1, 1) := by decide +kernel
theorem d_E_covers_58 : decode b_E_covers 58 = .ok (.getfield 25, 3) := by decide +kernel
theorem d_E_covers_61 : decode b_E_covers 61 = .ok (.if_icmp .ne 7, 3) := by decide +kernel
theorem d_E_covers_64 : decode b_E_covers 64 = .ok (.iconst 1, 1) := by decide +kernel
theorem d_E_covers_65 : decode b_E_covers 65 = .ok (.goto 4, 3) := by decide +kernel
theorem d_E_covers_68 : decode b_E_covers 68 = .ok (.iconst 0, 1) := by decide +kernel
theorem d_E_covers_69 : decode b_E_covers 69 = .ok (.ireturn, 1) := by decide +kernel
theorem d_S_init_0 : decode b_S_init 0 = .ok (.aload_n 0, 1) := by decide +kernel
theorem d_S_init_1 : decode b_S_init 1 = .ok (.invokespecial 3, 3) := by decide +kernel
theorem d_S_init_4 : decode b_S_init 4 = .ok (.aload_n 0, 1) := by decide +kernel
theorem d_S_init_5 : decode b_S_init 5 = .ok (.iconst 0, 1) := by decide +kernel
theorem d_S_init_6 : decode b_S_init 6 = .ok (.putfield 9, 3) := by decide +kernel
theorem d_S_init_9 : decode b_S_init 9 = .ok (.aload_n 0, 1) := by decide +kernel
theorem d_S_init_10 : decode b_S_init 10 = .ok (.iconst 0, 1) := by decide +kernel
theorem d_S_init_11 : decode b_S_init 11 = .ok (.putfield 15, 3) := by decide +kernel
theorem d_S_init_14 : decode b_S_init 14 = .ok (.aload_n 0, 1) := by decide +kernel
theorem d_S_init_15 : decode b_S_init 15 = .ok (.sipush 247, 3) := by decide +kernel
theorem d_S_init_18 : decode b_S_init 18 = .ok (.newarray .long, 2) := by decide +kernel
theorem d_S_init_20 : decode b_S_init 20 = .ok (.putfield 18, 3) := by decide +kernel
theorem d_S_init_23 : decode b_S_init 23 = .ok (.aload_n 0, 1) := by decide +kernel
theorem d_S_init_24 : decode b_S_init 24 = .ok (.sipush 247, 3) := by decide +kernel
theorem d_S_init_27 : decode b_S_init 27 = .ok (.newarray .int, 2) := by decide +kernel
theorem d_S_init_29 : decode b_S_init 29 = .ok (.putfield 22, 3) := by decide +kernel
theorem d_S_init_32 : decode b_S_init 32 = .ok (.aload_n 0, 1) := by decide +kernel
theorem d_S_init_33 : decode b_S_init 33 = .ok (.sipush 247, 3) := by decide +kernel
theorem d_S_init_36 : decode b_S_init 36 = .ok (.newarray .int, 2) := by decide +kernel
theorem d_S_init_38 : decode b_S_init 38 = .ok (.putfield 26, 3) := by decide +kernel
theorem d_S_init_41 : decode b_S_init 41 = .ok (.return_, 1) := by decide +kernel
theorem d_S_begin_0 : decode b_S_begin 0 = .ok (.iconst 0, 1) := by decide +kernel
theorem d_S_begin_1 : decode b_S_begin 1 = .ok (.istore_n 2, 1) := by decide +kernel
theorem d_S_begin_2 : decode b_S_begin 2 = .ok (.iload_n 2, 1) := by decide +kernel
theorem d_S_begin_3 : decode b_S_begin 3 = .ok (.aload_n 0, 1) := by decide +kernel
theorem d_S_begin_4 : decode b_S_begin 4 = .ok (.getfield 15, 3) := by decide +kernel
theorem d_S_begin_7 : decode b_S_begin 7 = .ok (.if_icmp .ge 30, 3) := by decide +kernel
theorem d_S_begin_10 : decode b_S_begin 10 = .ok (.aload_n 0, 1) := by decide +kernel
theorem d_S_begin_11 : decode b_S_begin 11 = .ok (.getfield 18, 3) := by decide +kernel
theorem d_S_begin_14 : decode b_S_begin 14 = .ok (.iload_n 2, 1) := by decide +kernel
theorem d_S_begin_15 : decode b_S_begin 15 = .ok (.lconst 0, 1) := by decide +kernel
theorem d_S_begin_16 : decode b_S_begin 16 = .ok (.lastore, 1) := by decide +kernel
theorem d_S_begin_17 : decode b_S_begin 17 = .ok (.aload_n 0, 1) := by decide +kernel
theorem d_S_begin_18 : decode b_S_begin 18 = .ok (.getfield 22, 3) := by decide +kernel
theorem d_S_begin_21 : decode b_S_begin 21 = .ok (.iload_n 2, 1) := by decide +kernel
theorem d_S_begin_22 : decode b_S_begin 22 = .ok (.iconst 0, 1) := by decide +kernel
theorem d_S_begin_23 : decode b_S_begin 23 = .ok (.iastore, 1) := by decide +kernel
theorem d_S_begin_24 : decode b_S_begin 24 = .ok (.aload_n 0, 1) := by decide +kernel
theorem d_S_begin_25 : decode b_S_begin 25 = .ok (.getfield 26, 3) := by decide +kernel
theorem d_S_begin_28 : decode b_S_begin 28 = .ok (.iload_n 2, 1) := by decide +kernel
theorem d_S_begin_29 : decode b_S_begin 29 = .ok (.iconst 0, 1) := by decide +kernel
theorem d_S_begin_30 : decode b_S_begin 30 = .ok (.iastore, 1) := by decide +kernel
theorem d_S_begin_31 : decode b_S_begin 31 = .ok (.iinc 2 1, 3) := by decide +kernel
theorem d_S_begin_34 : decode b_S_begin 34 = .ok (.goto (-32), 3) := by decide +kernel
theorem d_S_begin_37 : decode b_S_begin 37 = .ok (.aload_n 0, 1) := by decide +kernel
theorem d_S_begin_38 : decode b_S_begin 38 = .ok (.iload_n 1, 1) := by decide +kernel
theorem d_S_begin_39 : decode b_S_begin 39 = .ok (.putfield 9, 3) := by decide +kernel
theorem d_S_begin_42 : decode b_S_begin 42 = .ok (.aload_n 0, 1) := by decide +kernel
theorem d_S_begin_43 : decode b_S_begin 43 = .ok (.iconst 0, 1) := by decide +kernel
theorem d_S_begin_44 : decode b_S_begin 44 = .ok (.putfield 15, 3) := by decide +kernel
theorem d_S_begin_47 : decode b_S_begin 47 = .ok (.return_, 1) := by decide +kernel
theorem d_S_pass_0 : decode b_S_pass 0 = .ok (.iload_n 1, 1) := by decide +kernel
theorem d_S_pass_1 : decode b_S_pass 1 = .ok (.ifCond .lt 10, 3) := by decide +kernel
theorem d_S_pass_4 : decode b_S_pass 4 = .ok (.iload_n 1, 1) := by decide +kernel
theorem d_S_pass_5 : decode b_S_pass 5 = .ok (.sipush 247, 3) := by decide +kernel
theorem d_S_pass_8 : decode b_S_pass 8 = .ok (.if_icmp .lt 4, 3) := by decide +kernel
theorem d_S_pass_11 : decode b_S_pass 11 = .ok (.return_, 1) := by decide +kernel
theorem d_S_pass_12 : decode b_S_pass 12 = .ok (.aload_n 0, 1) := by decide +kernel
theorem d_S_pass_13 : decode b_S_pass 13 = .ok (.aload_n 0, 1) := by decide +kernel
theorem d_S_pass_14 : decode b_S_pass 14 = .ok (.getfield 15, 3) := by decide +kernel
theorem d_S_pass_17 : decode b_S_pass 17 = .ok (.iload_n 1, 1) := by decide +kernel
theorem d_S_pass_18 : decode b_S_pass 18 = .ok (.iconst 1, 1) := by decide +kernel
theorem d_S_pass_19 : decode b_S_pass 19 = .ok (.iadd, 1) := by decide +kernel
theorem d_S_pass_20 : decode b_S_pass 20 = .ok (.invokestatic 29, 3) := by decide +kernel
theorem d_S_pass_23 : decode b_S_pass 23 = .ok (.putfield 15, 3) := by decide +kernel
theorem d_S_pass_26 : decode b_S_pass 26 = .ok (.aload_n 0, 1) := by decide +kernel
theorem d_S_pass_27 : decode b_S_pass 27 = .ok (.getfield 18, 3) := by decide +kernel
theorem d_S_pass_30 : decode b_S_pass 30 = .ok (.iload_n 1, 1) := by decide +kernel
theorem d_S_pass_31 : decode b_S_pass 31 = .ok (.dup2, 1) := by decide +kernel
theorem d_S_pass_32 : decode b_S_pass 32 = .ok (.laload, 1) := by decide +kernel
theorem d_S_pass_33 : decode b_S_pass 33 = .ok (.iload_n 2, 1) := by decide +kernel
theorem d_S_pass_34 : decode b_S_pass 34 = .ok (.invokestatic 35, 3) := by decide +kernel
theorem d_S_pass_37 : decode b_S_pass 37 = .ok (.lor, 1) := by decide +kernel
theorem d_S_pass_38 : decode b_S_pass 38 = .ok (.lastore, 1) := by decide +kernel
theorem d_S_pass_39 : decode b_S_pass 39 = .ok (.iload_n 2, 1) := by decide +kernel
theorem d_S_pass_40 : decode b_S_pass 40 = .ok (.aload_n 0, 1) := by decide +kernel
theorem d_S_pass_41 : decode b_S_pass 41 = .ok (.getfield 9, 3) := by decide +kernel
theorem d_S_pass_44 : decode b_S_pass 44 = .ok (.if_icmp .ge 16, 3) := by decide +kernel
theorem d_S_pass_47 : decode b_S_pass 47 = .ok (.aload_n 0, 1) := by decide +kernel
theorem d_S_pass_48 : decode b_S_pass 48 = .ok (.getfield 22, 3) := by decide +kernel
theorem d_S_pass_51 : decode b_S_pass 51 = .ok (.iload_n 1, 1) := by decide +kernel
theorem d_S_pass_52 : decode b_S_pass 52 = .ok (.dup2, 1) := by decide +kernel
theorem d_S_pass_53 : decode b_S_pass 53 = .ok (.iaload, 1) := by decide +kernel
theorem d_S_pass_54 : decode b_S_pass 54 = .ok (.iconst 1, 1) := by decide +kernel
theorem d_S_pass_55 : decode b_S_pass 55 = .ok (.iadd, 1) := by decide +kernel
theorem d_S_pass_56 : decode b_S_pass 56 = .ok (.iastore, 1) := by decide +kernel
theorem d_S_pass_57 : decode b_S_pass 57 = .ok (.goto 21, 3) := by decide +kernel
theorem d_S_pass_60 : decode b_S_pass 60 = .ok (.iload_n 2, 1) := by decide +kernel
theorem d_S_pass_61 : decode b_S_pass 61 = .ok (.aload_n 0, 1) := by decide +kernel
theorem d_S_pass_62 : decode b_S_pass 62 = .ok (.getfield 9, 3) := by decide +kernel
theorem d_S_pass_65 : decode b_S_pass 65 = .ok (.if_icmp .ne 13, 3) := by decide +kernel
theorem d_S_pass_68 : decode b_S_pass 68 = .ok (.aload_n 0, 1) := by decide +kernel
theorem d_S_pass_69 : decode b_S_pass 69 = .ok (.getfield 26, 3) := by decide +kernel
theorem d_S_pass_72 : decode b_S_pass 72 = .ok (.iload_n 1, 1) := by decide +kernel
theorem d_S_pass_73 : decode b_S_pass 73 = .ok (.dup2, 1) := by decide +kernel
theorem d_S_pass_74 : decode b_S_pass 74 = .ok (.iaload, 1) := by decide +kernel
theorem d_S_pass_75 : decode b_S_pass 75 = .ok (.iconst 1, 1) := by decide +kernel
theorem d_S_pass_76 : decode b_S_pass 76 = .ok (.iadd, 1) := by decide +kernel
theorem d_S_pass_77 : decode b_S_pass 77 = .ok (.iastore, 1) := by decide +kernel
theorem d_S_pass_78 : decode b_S_pass 78 = .ok (.return_, 1) := by decide +kernel
theorem d_S_blocksLookedAt_0 : decode b_S_blocksLookedAt 0 = .ok (.aload_n 0, 1) := by decide +kernel
theorem d_S_blocksLookedAt_1 : decode b_S_blocksLookedAt 1 = .ok (.getfield 9, 3) := by decide +kernel
theorem d_S_blocksLookedAt_4 : decode b_S_blocksLookedAt 4 = .ok (.invokestatic 35, 3) := by decide +kernel
theorem d_S_blocksLookedAt_7 : decode b_S_blocksLookedAt 7 = .ok (.lstore_n 1, 1) := by decide +kernel
theorem d_S_blocksLookedAt_8 : decode b_S_blocksLookedAt 8 = .ok (.iconst 0, 1) := by decide +kernel
theorem d_S_blocksLookedAt_9 : decode b_S_blocksLookedAt 9 = .ok (.istore_n 3, 1) := by decide +kernel
theorem d_S_blocksLookedAt_10 : decode b_S_blocksLookedAt 10 = .ok (.iconst 0, 1) := by decide +kernel
theorem d_S_blocksLookedAt_11 : decode b_S_blocksLookedAt 11 = .ok (.istore 4, 2) := by decide +kernel
theorem d_S_blocksLookedAt_13 : decode b_S_blocksLookedAt 13 = .ok (.iload 4, 2) := by decide +kernel
theorem d_S_blocksLookedAt_15 : decode b_S_blocksLookedAt 15 = .ok (.aload_n 0, 1) := by decide +kernel
theorem d_S_blocksLookedAt_16 : decode b_S_blocksLookedAt 16 = .ok (.getfield 15, 3) := by decide +kernel
theorem d_S_blocksLookedAt_19 : decode b_S_blocksLookedAt 19 = .ok (.if_icmp .ge 46, 3) := by decide +kernel
theorem d_S_blocksLookedAt_22 : decode b_S_blocksLookedAt 22 = .ok (.aload_n 0, 1) := by decide +kernel
theorem d_S_blocksLookedAt_23 : decode b_S_blocksLookedAt 23 = .ok (.getfield 18, 3) := by decide +kernel
theorem d_S_blocksLookedAt_26 : decode b_S_blocksLookedAt 26 = .ok (.iload 4, 2) := by decide +kernel
theorem d_S_blocksLookedAt_28 : decode b_S_blocksLookedAt 28 = .ok (.laload, 1) := by decide +kernel
theorem d_S_blocksLookedAt_29 : decode b_S_blocksLookedAt 29 = .ok (.lload_n 1, 1) := by decide +kernel
theorem d_S_blocksLookedAt_30 : decode b_S_blocksLookedAt 30 = .ok (.land, 1) := by decide +kernel
theorem d_S_blocksLookedAt_31 : decode b_S_blocksLookedAt 31 = .ok (.lload_n 1, 1) := by decide +kernel
theorem d_S_blocksLookedAt_32 : decode b_S_blocksLookedAt 32 = .ok (.lcmp, 1) := by decide +kernel
theorem d_S_blocksLookedAt_33 : decode b_S_blocksLookedAt 33 = .ok (.ifCond .ne 26, 3) := by decide +kernel
theorem d_S_blocksLookedAt_36 : decode b_S_blocksLookedAt 36 = .ok (.iload_n 3, 1) := by decide +kernel
theorem d_S_blocksLookedAt_37 : decode b_S_blocksLookedAt 37 = .ok (.aload_n 0, 1) := by decide +kernel
theorem d_S_blocksLookedAt_38 : decode b_S_blocksLookedAt 38 = .ok (.getfield 26, 3) := by decide +kernel
theorem d_S_blocksLookedAt_41 : decode b_S_blocksLookedAt 41 = .ok (.iload 4, 2) := by decide +kernel
theorem d_S_blocksLookedAt_43 : decode b_S_blocksLookedAt 43 = .ok (.iaload, 1) := by decide +kernel
theorem d_S_blocksLookedAt_44 : decode b_S_blocksLookedAt 44 = .ok (.ifCond .ne 7, 3) := by decide +kernel
theorem d_S_blocksLookedAt_47 : decode b_S_blocksLookedAt 47 = .ok (.iconst 1, 1) := by decide +kernel
theorem d_S_blocksLookedAt_48 : decode b_S_blocksLookedAt 48 = .ok (.goto 9, 3) := by decide +kernel
theorem d_S_blocksLookedAt_51 : decode b_S_blocksLookedAt 51 = .ok (.aload_n 0, 1) := by decide +kernel
theorem d_S_blocksLookedAt_52 : decode b_S_blocksLookedAt 52 = .ok (.iload 4, 2) := by decide +kernel
theorem d_S_blocksLookedAt_54 : decode b_S_blocksLookedAt 54 = .ok (.invokevirtual 39, 3) := by decide +kernel
theorem d_S_blocksLookedAt_57 : decode b_S_blocksLookedAt 57 = .ok (.iadd, 1) := by decide +kernel
theorem d_S_blocksLookedAt_58 : decode b_S_blocksLookedAt 58 = .ok (.istore_n 3, 1) := by decide +kernel
theorem d_S_blocksLookedAt_59 : decode b_S_blocksLookedAt 59 = .ok (.iinc 4 1, 3) := by decide +kernel
theorem d_S_blocksLookedAt_62 : decode b_S_blocksLookedAt 62 = .ok (.goto (-49), 3) := by decide +kernel
theorem d_S_blocksLookedAt_65 : decode b_S_blocksLookedAt 65 = .ok (.iload_n 3, 1) := by decide +kernel
theorem d_S_blocksLookedAt_66 : decode b_S_blocksLookedAt 66 = .ok (.ireturn, 1) := by decide +kernel
theorem d_S_blocksOfRow_0 : decode b_S_blocksOfRow 0 = .ok (.aload_n 0, 1) := by decide +kernel
theorem d_S_blocksOfRow_1 : decode b_S_blocksOfRow 1 = .ok (.getfield 22, 3) := by decide +kernel
theorem d_S_blocksOfRow_4 : decode b_S_blocksOfRow 4 = .ok (.iload_n 1, 1) := by decide +kernel
theorem d_S_blocksOfRow_5 : decode b_S_blocksOfRow 5 = .ok (.iaload, 1) := by decide +kernel
theorem d_S_blocksOfRow_6 : decode b_S_blocksOfRow 6 = .ok (.iconst 4, 1) := by decide +kernel
theorem d_S_blocksOfRow_7 : decode b_S_blocksOfRow 7 = .ok (.idiv, 1) := by decide +kernel
theorem d_S_blocksOfRow_8 : decode b_S_blocksOfRow 8 = .ok (.istore_n 2, 1) := by decide +kernel
theorem d_S_blocksOfRow_9 : decode b_S_blocksOfRow 9 = .ok (.aload_n 0, 1) := by decide +kernel
theorem d_S_blocksOfRow_10 : decode b_S_blocksOfRow 10 = .ok (.getfield 22, 3) := by decide +kernel
theorem d_S_blocksOfRow_13 : decode b_S_blocksOfRow 13 = .ok (.iload_n 1, 1) := by decide +kernel
theorem d_S_blocksOfRow_14 : decode b_S_blocksOfRow 14 = .ok (.iaload, 1) := by decide +kernel
theorem d_S_blocksOfRow_15 : decode b_S_blocksOfRow 15 = .ok (.aload_n 0, 1) := by decide +kernel
theorem d_S_blocksOfRow_16 : decode b_S_blocksOfRow 16 = .ok (.getfield 26, 3) := by decide +kernel
theorem d_S_blocksOfRow_19 : decode b_S_blocksOfRow 19 = .ok (.iload_n 1, 1) := by decide +kernel
theorem d_S_blocksOfRow_20 : decode b_S_blocksOfRow 20 = .ok (.iaload, 1) := by decide +kernel
theorem d_S_blocksOfRow_21 : decode b_S_blocksOfRow 21 = .ok (.iadd, 1) := by decide +kernel
theorem d_S_blocksOfRow_22 : decode b_S_blocksOfRow 22 = .ok (.iconst 1, 1) := by decide +kernel
theorem d_S_blocksOfRow_23 : decode b_S_blocksOfRow 23 = .ok (.isub, 1) := by decide +kernel
theorem d_S_blocksOfRow_24 : decode b_S_blocksOfRow 24 = .ok (.iconst 4, 1) := by decide +kernel
theorem d_S_blocksOfRow_25 : decode b_S_blocksOfRow 25 = .ok (.idiv, 1) := by decide +kernel
theorem d_S_blocksOfRow_26 : decode b_S_blocksOfRow 26 = .ok (.istore_n 3, 1) := by decide +kernel
theorem d_S_blocksOfRow_27 : decode b_S_blocksOfRow 27 = .ok (.iload_n 3, 1) := by decide +kernel
theorem d_S_blocksOfRow_28 : decode b_S_blocksOfRow 28 = .ok (.iload_n 2, 1) := by decide +kernel
theorem d_S_blocksOfRow_29 : decode b_S_blocksOfRow 29 = .ok (.isub, 1) := by decide +kernel
theorem d_S_blocksOfRow_30 : decode b_S_blocksOfRow 30 = .ok (.iconst 1, 1) := by decide +kernel
theorem d_S_blocksOfRow_31 : decode b_S_blocksOfRow 31 = .ok (.iadd, 1) := by decide +kernel
theorem d_S_blocksOfRow_32 : decode b_S_blocksOfRow 32 = .ok (.ireturn, 1) := by decide +kernel
theorem d_S_bitsOf_0 : decode b_S_bitsOf 0 = .ok (.lconst 1, 1) := by decide +kernel
theorem d_S_bitsOf_1 : decode b_S_bitsOf 1 = .ok (.bipush 7, 2) := by decide +kernel
theorem d_S_bitsOf_3 : decode b_S_bitsOf 3 = .ok (.iload_n 0, 1) := by decide +kernel
theorem d_S_bitsOf_4 : decode b_S_bitsOf 4 = .ok (.imul, 1) := by decide +kernel
theorem d_S_bitsOf_5 : decode b_S_bitsOf 5 = .ok (.iconst 3, 1) := by decide +kernel
theorem d_S_bitsOf_6 : decode b_S_bitsOf 6 = .ok (.iadd, 1) := by decide +kernel
theorem d_S_bitsOf_7 : decode b_S_bitsOf 7 = .ok (.bipush 64, 2) := by decide +kernel
theorem d_S_bitsOf_9 : decode b_S_bitsOf 9 = .ok (.irem, 1) := by decide +kernel
theorem d_S_bitsOf_10 : decode b_S_bitsOf 10 = .ok (.lshl, 1) := by decide +kernel
theorem d_S_bitsOf_11 : decode b_S_bitsOf 11 = .ok (.lconst 1, 1) := by decide +kernel
theorem d_S_bitsOf_12 : decode b_S_bitsOf 12 = .ok (.bipush 13, 2) := by decide +kernel
theorem d_S_bitsOf_14 : decode b_S_bitsOf 14 = .ok (.iload_n 0, 1) := by decide +kernel
theorem d_S_bitsOf_15 : decode b_S_bitsOf 15 = .ok (.imul, 1) := by decide +kernel
theorem d_S_bitsOf_16 : decode b_S_bitsOf 16 = .ok (.bipush 29, 2) := by decide +kernel
theorem d_S_bitsOf_18 : decode b_S_bitsOf 18 = .ok (.iadd, 1) := by decide +kernel
theorem d_S_bitsOf_19 : decode b_S_bitsOf 19 = .ok (.bipush 64, 2) := by decide +kernel
theorem d_S_bitsOf_21 : decode b_S_bitsOf 21 = .ok (.irem, 1) := by decide +kernel
theorem d_S_bitsOf_22 : decode b_S_bitsOf 22 = .ok (.lshl, 1) := by decide +kernel
theorem d_S_bitsOf_23 : decode b_S_bitsOf 23 = .ok (.lor, 1) := by decide +kernel
theorem d_S_bitsOf_24 : decode b_S_bitsOf 24 = .ok (.lreturn, 1) := by decide +kernel
