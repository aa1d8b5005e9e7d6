theorem dL_cell_0 : decode cL_cell 0 = .ok (.iload_n 1, 1) := by decide +kernel
theorem dL_cell_1 : decode cL_cell 1 = .ok (.aload_n 0, 1) := by decide +kernel
theorem dL_cell_2 : decode cL_cell 2 = .ok (.arraylength, 1) := by decide +kernel
theorem dL_cell_3 : decode cL_cell 3 = .ok (.if_icmp .ge 9, 3) := by decide +kernel
theorem dL_cell_6 : decode cL_cell 6 = .ok (.aload_n 0, 1) := by decide +kernel
theorem dL_cell_7 : decode cL_cell 7 = .ok (.iload_n 1, 1) := by decide +kernel
theorem dL_cell_8 : decode cL_cell 8 = .ok (.iaload, 1) := by decide +kernel
theorem dL_cell_9 : decode cL_cell 9 = .ok (.goto 13, 3) := by decide +kernel
theorem dL_cell_12 : decode cL_cell 12 = .ok (.ldc 7, 2) := by decide +kernel
theorem dL_cell_14 : decode cL_cell 14 = .ok (.iload_n 1, 1) := by decide +kernel
theorem dL_cell_15 : decode cL_cell 15 = .ok (.bipush 9, 2) := by decide +kernel
theorem dL_cell_17 : decode cL_cell 17 = .ok (.iadd, 1) := by decide +kernel
theorem dL_cell_18 : decode cL_cell 18 = .ok (.imul, 1) := by decide +kernel
theorem dL_cell_19 : decode cL_cell 19 = .ok (.ldc 8, 2) := by decide +kernel
theorem dL_cell_21 : decode cL_cell 21 = .ok (.iadd, 1) := by decide +kernel
theorem dL_cell_22 : decode cL_cell 22 = .ok (.ireturn, 1) := by decide +kernel
theorem dL_low_0 : decode cL_low 0 = .ok (.iload_n 0, 1) := by decide +kernel
theorem dL_low_1 : decode cL_low 1 = .ok (.ldc 9, 2) := by decide +kernel
theorem dL_low_3 : decode cL_low 3 = .ok (.iand, 1) := by decide +kernel
theorem dL_low_4 : decode cL_low 4 = .ok (.iload_n 1, 1) := by decide +kernel
theorem dL_low_5 : decode cL_low 5 = .ok (.irem, 1) := by decide +kernel
theorem dL_low_6 : decode cL_low 6 = .ok (.ireturn, 1) := by decide +kernel
theorem dL_ends_0 : decode cL_ends 0 = .ok (.aload_n 1, 1) := by decide +kernel
theorem dL_ends_1 : decode cL_ends 1 = .ok (.bipush 6, 2) := by decide +kernel
theorem dL_ends_3 : decode cL_ends 3 = .ok (.iaload, 1) := by decide +kernel
theorem dL_ends_4 : decode cL_ends 4 = .ok (.istore 4, 2) := by decide +kernel
theorem dL_ends_6 : decode cL_ends 6 = .ok (.aload_n 1, 1) := by decide +kernel
theorem dL_ends_7 : decode cL_ends 7 = .ok (.bipush 6, 2) := by decide +kernel
theorem dL_ends_9 : decode cL_ends 9 = .ok (.iconst 0, 1) := by decide +kernel
theorem dL_ends_10 : decode cL_ends 10 = .ok (.iastore, 1) := by decide +kernel
theorem dL_ends_11 : decode cL_ends 11 = .ok (.aload_n 1, 1) := by decide +kernel
theorem dL_ends_12 : decode cL_ends 12 = .ok (.bipush 13, 2) := by decide +kernel
theorem dL_ends_14 : decode cL_ends 14 = .ok (.aload_n 1, 1) := by decide +kernel
theorem dL_ends_15 : decode cL_ends 15 = .ok (.bipush 7, 2) := by decide +kernel
theorem dL_ends_17 : decode cL_ends 17 = .ok (.iaload, 1) := by decide +kernel
theorem dL_ends_18 : decode cL_ends 18 = .ok (.iastore, 1) := by decide +kernel
theorem dL_ends_19 : decode cL_ends 19 = .ok (.aload_n 1, 1) := by decide +kernel
theorem dL_ends_20 : decode cL_ends 20 = .ok (.bipush 14, 2) := by decide +kernel
theorem dL_ends_22 : decode cL_ends 22 = .ok (.iload_n 0, 1) := by decide +kernel
theorem dL_ends_23 : decode cL_ends 23 = .ok (.iastore, 1) := by decide +kernel
theorem dL_ends_24 : decode cL_ends 24 = .ok (.aload_n 1, 1) := by decide +kernel
theorem dL_ends_25 : decode cL_ends 25 = .ok (.bipush 15, 2) := by decide +kernel
theorem dL_ends_27 : decode cL_ends 27 = .ok (.iconst 0, 1) := by decide +kernel
theorem dL_ends_28 : decode cL_ends 28 = .ok (.iastore, 1) := by decide +kernel
theorem dL_ends_29 : decode cL_ends 29 = .ok (.aload_n 3, 1) := by decide +kernel
theorem dL_ends_30 : decode cL_ends 30 = .ok (.iconst 3, 1) := by decide +kernel
theorem dL_ends_31 : decode cL_ends 31 = .ok (.iload_n 0, 1) := by decide +kernel
theorem dL_ends_32 : decode cL_ends 32 = .ok (.imul, 1) := by decide +kernel
theorem dL_ends_33 : decode cL_ends 33 = .ok (.iconst 2, 1) := by decide +kernel
theorem dL_ends_34 : decode cL_ends 34 = .ok (.iadd, 1) := by decide +kernel
theorem dL_ends_35 : decode cL_ends 35 = .ok (.dup2, 1) := by decide +kernel
theorem dL_ends_36 : decode cL_ends 36 = .ok (.iaload, 1) := by decide +kernel
theorem dL_ends_37 : decode cL_ends 37 = .ok (.iconst 1, 1) := by decide +kernel
theorem dL_ends_38 : decode cL_ends 38 = .ok (.iadd, 1) := by decide +kernel
theorem dL_ends_39 : decode cL_ends 39 = .ok (.iastore, 1) := by decide +kernel
theorem dL_ends_40 : decode cL_ends 40 = .ok (.iconst 0, 1) := by decide +kernel
theorem dL_ends_41 : decode cL_ends 41 = .ok (.istore 5, 2) := by decide +kernel
theorem dL_ends_43 : decode cL_ends 43 = .ok (.iload 5, 2) := by decide +kernel
theorem dL_ends_45 : decode cL_ends 45 = .ok (.bipush 30, 2) := by decide +kernel
theorem dL_ends_47 : decode cL_ends 47 = .ok (.if_icmp .ge 18, 3) := by decide +kernel
theorem dL_ends_50 : decode cL_ends 50 = .ok (.aload_n 2, 1) := by decide +kernel
theorem dL_ends_51 : decode cL_ends 51 = .ok (.iload 5, 2) := by decide +kernel
theorem dL_ends_53 : decode cL_ends 53 = .ok (.dup2, 1) := by decide +kernel
theorem dL_ends_54 : decode cL_ends 54 = .ok (.iaload, 1) := by decide +kernel
theorem dL_ends_55 : decode cL_ends 55 = .ok (.bipush 31, 2) := by decide +kernel
theorem dL_ends_57 : decode cL_ends 57 = .ok (.iand, 1) := by decide +kernel
theorem dL_ends_58 : decode cL_ends 58 = .ok (.iastore, 1) := by decide +kernel
theorem dL_ends_59 : decode cL_ends 59 = .ok (.iinc 5 1, 3) := by decide +kernel
theorem dL_ends_62 : decode cL_ends 62 = .ok (.goto (-19), 3) := by decide +kernel
theorem dL_ends_65 : decode cL_ends 65 = .ok (.iload 4, 2) := by decide +kernel
theorem dL_ends_67 : decode cL_ends 67 = .ok (.ireturn, 1) := by decide +kernel
theorem dL_lapses_0 : decode cL_lapses 0 = .ok (.aload_n 2, 1) := by decide +kernel
theorem dL_lapses_1 : decode cL_lapses 1 = .ok (.iconst 3, 1) := by decide +kernel
theorem dL_lapses_2 : decode cL_lapses 2 = .ok (.iload_n 0, 1) := by decide +kernel
theorem dL_lapses_3 : decode cL_lapses 3 = .ok (.imul, 1) := by decide +kernel
theorem dL_lapses_4 : decode cL_lapses 4 = .ok (.iconst 1, 1) := by decide +kernel
theorem dL_lapses_5 : decode cL_lapses 5 = .ok (.iadd, 1) := by decide +kernel
theorem dL_lapses_6 : decode cL_lapses 6 = .ok (.dup2, 1) := by decide +kernel
theorem dL_lapses_7 : decode cL_lapses 7 = .ok (.iaload, 1) := by decide +kernel
theorem dL_lapses_8 : decode cL_lapses 8 = .ok (.iconst 1, 1) := by decide +kernel
theorem dL_lapses_9 : decode cL_lapses 9 = .ok (.iadd, 1) := by decide +kernel
theorem dL_lapses_10 : decode cL_lapses 10 = .ok (.iastore, 1) := by decide +kernel
theorem dL_lapses_11 : decode cL_lapses 11 = .ok (.aload_n 1, 1) := by decide +kernel
theorem dL_lapses_12 : decode cL_lapses 12 = .ok (.bipush 11, 2) := by decide +kernel
theorem dL_lapses_14 : decode cL_lapses 14 = .ok (.dup2, 1) := by decide +kernel
theorem dL_lapses_15 : decode cL_lapses 15 = .ok (.iaload, 1) := by decide +kernel
theorem dL_lapses_16 : decode cL_lapses 16 = .ok (.iconst 1, 1) := by decide +kernel
theorem dL_lapses_17 : decode cL_lapses 17 = .ok (.iadd, 1) := by decide +kernel
theorem dL_lapses_18 : decode cL_lapses 18 = .ok (.iastore, 1) := by decide +kernel
theorem dL_lapses_19 : decode cL_lapses 19 = .ok (.return_, 1) := by decide +kernel
theorem dL_drops_0 : decode cL_drops 0 = .ok (.aload_n 1, 1) := by decide +kernel
theorem dL_drops_1 : decode cL_drops 1 = .ok (.bipush 16, 2) := by decide +kernel
theorem dL_drops_3 : decode cL_drops 3 = .ok (.dup2, 1) := by decide +kernel
theorem dL_drops_4 : decode cL_drops 4 = .ok (.iaload, 1) := by decide +kernel
theorem dL_drops_5 : decode cL_drops 5 = .ok (.iconst 1, 1) := by decide +kernel
theorem dL_drops_6 : decode cL_drops 6 = .ok (.isub, 1) := by decide +kernel
theorem dL_drops_7 : decode cL_drops 7 = .ok (.iastore, 1) := by decide +kernel
theorem dL_drops_8 : decode cL_drops 8 = .ok (.iconst 2, 1) := by decide +kernel
theorem dL_drops_9 : decode cL_drops 9 = .ok (.iload_n 0, 1) := by decide +kernel
theorem dL_drops_10 : decode cL_drops 10 = .ok (.imul, 1) := by decide +kernel
theorem dL_drops_11 : decode cL_drops 11 = .ok (.istore_n 3, 1) := by decide +kernel
theorem dL_drops_12 : decode cL_drops 12 = .ok (.iload_n 3, 1) := by decide +kernel
theorem dL_drops_13 : decode cL_drops 13 = .ok (.iconst 2, 1) := by decide +kernel
theorem dL_drops_14 : decode cL_drops 14 = .ok (.aload_n 1, 1) := by decide +kernel
theorem dL_drops_15 : decode cL_drops 15 = .ok (.bipush 16, 2) := by decide +kernel
theorem dL_drops_17 : decode cL_drops 17 = .ok (.iaload, 1) := by decide +kernel
theorem dL_drops_18 : decode cL_drops 18 = .ok (.imul, 1) := by decide +kernel
theorem dL_drops_19 : decode cL_drops 19 = .ok (.if_icmp .ge 17, 3) := by decide +kernel
theorem dL_drops_22 : decode cL_drops 22 = .ok (.aload_n 2, 1) := by decide +kernel
theorem dL_drops_23 : decode cL_drops 23 = .ok (.iload_n 3, 1) := by decide +kernel
theorem dL_drops_24 : decode cL_drops 24 = .ok (.aload_n 2, 1) := by decide +kernel
theorem dL_drops_25 : decode cL_drops 25 = .ok (.iload_n 3, 1) := by decide +kernel
theorem dL_drops_26 : decode cL_drops 26 = .ok (.iconst 2, 1) := by decide +kernel
theorem dL_drops_27 : decode cL_drops 27 = .ok (.iadd, 1) := by decide +kernel
theorem dL_drops_28 : decode cL_drops 28 = .ok (.iaload, 1) := by decide +kernel
theorem dL_drops_29 : decode cL_drops 29 = .ok (.iastore, 1) := by decide +kernel
theorem dL_drops_30 : decode cL_drops 30 = .ok (.iinc 3 1, 3) := by decide +kernel
theorem dL_drops_33 : decode cL_drops 33 = .ok (.goto (-21), 3) := by decide +kernel
theorem dL_drops_36 : decode cL_drops 36 = .ok (.return_, 1) := by decide +kernel
set_option maxRecDepth 20000 in
theorem ggL_claps_L_lapses : GoodIn wsL_claps wsL_lapses := goodIn_r _ [4] (by decide +kernel) (by decide +kernel)
set_option maxRecDepth 20000 in
theorem gL_claps_L_lapses : GoodIn wsL_claps (va_wsS RL 10 yL_lapses wsL_lapses) := goodIn_app (goodIn_of _ (by decide +kernel)) ggL_claps_L_lapses
theorem dL_claps_0 : decode cL_claps 0 = .ok (.aload_n 1, 1) := by decide +kernel
theorem dL_claps_1 : decode cL_claps 1 = .ok (.bipush 13, 2) := by decide +kernel
theorem dL_claps_3 : decode cL_claps 3 = .ok (.iaload, 1) := by decide +kernel
theorem dL_claps_4 : decode cL_claps 4 = .ok (.ifCond .ge 6, 3) := by decide +kernel
theorem dL_claps_7 : decode cL_claps 7 = .ok (.bipush (-5), 2) := by decide +kernel
theorem dL_claps_9 : decode cL_claps 9 = .ok (.ireturn, 1) := by decide +kernel
theorem dL_claps_10 : decode cL_claps 10 = .ok (.aload_n 1, 1) := by decide +kernel
theorem dL_claps_11 : decode cL_claps 11 = .ok (.bipush 6, 2) := by decide +kernel
theorem dL_claps_13 : decode cL_claps 13 = .ok (.iaload, 1) := by decide +kernel
theorem dL_claps_14 : decode cL_claps 14 = .ok (.bipush 10, 2) := by decide +kernel
theorem dL_claps_16 : decode cL_claps 16 = .ok (.aload_n 2, 1) := by decide +kernel
theorem dL_claps_17 : decode cL_claps 17 = .ok (.iload_n 0, 1) := by decide +kernel
theorem dL_claps_18 : decode cL_claps 18 = .ok (.iaload, 1) := by decide +kernel
theorem dL_claps_19 : decode cL_claps 19 = .ok (.bipush 15, 2) := by decide +kernel
theorem dL_claps_21 : decode cL_claps 21 = .ok (.iand, 1) := by decide +kernel
theorem dL_claps_22 : decode cL_claps 22 = .ok (.imul, 1) := by decide +kernel
theorem dL_claps_23 : decode cL_claps 23 = .ok (.iadd, 1) := by decide +kernel
theorem dL_claps_24 : decode cL_claps 24 = .ok (.istore 9, 2) := by decide +kernel
theorem dL_claps_26 : decode cL_claps 26 = .ok (.aload_n 1, 1) := by decide +kernel
theorem dL_claps_27 : decode cL_claps 27 = .ok (.bipush 6, 2) := by decide +kernel
theorem dL_claps_29 : decode cL_claps 29 = .ok (.iload 9, 2) := by decide +kernel
theorem dL_claps_31 : decode cL_claps 31 = .ok (.sipush 9999, 3) := by decide +kernel
theorem dL_claps_34 : decode cL_claps 34 = .ok (.if_icmp .le 9, 3) := by decide +kernel
theorem dL_claps_37 : decode cL_claps 37 = .ok (.sipush 9999, 3) := by decide +kernel
theorem dL_claps_40 : decode cL_claps 40 = .ok (.goto 5, 3) := by decide +kernel
theorem dL_claps_43 : decode cL_claps 43 = .ok (.iload 9, 2) := by decide +kernel
theorem dL_claps_45 : decode cL_claps 45 = .ok (.iastore, 1) := by decide +kernel
theorem dL_claps_46 : decode cL_claps 46 = .ok (.aload_n 3, 1) := by decide +kernel
theorem dL_claps_47 : decode cL_claps 47 = .ok (.iload_n 0, 1) := by decide +kernel
theorem dL_claps_48 : decode cL_claps 48 = .ok (.dup2, 1) := by decide +kernel
theorem dL_claps_49 : decode cL_claps 49 = .ok (.iaload, 1) := by decide +kernel
theorem dL_claps_50 : decode cL_claps 50 = .ok (.aload_n 2, 1) := by decide +kernel
theorem dL_claps_51 : decode cL_claps 51 = .ok (.iload_n 0, 1) := by decide +kernel
theorem dL_claps_52 : decode cL_claps 52 = .ok (.iaload, 1) := by decide +kernel
theorem dL_claps_53 : decode cL_claps 53 = .ok (.bipush 32, 2) := by decide +kernel
theorem dL_claps_55 : decode cL_claps 55 = .ok (.if_icmp .ge 22, 3) := by decide +kernel
theorem dL_claps_58 : decode cL_claps 58 = .ok (.aload_n 1, 1) := by decide +kernel
theorem dL_claps_59 : decode cL_claps 59 = .ok (.bipush 7, 2) := by decide +kernel
theorem dL_claps_61 : decode cL_claps 61 = .ok (.iaload, 1) := by decide +kernel
theorem dL_claps_62 : decode cL_claps 62 = .ok (.aload_n 1, 1) := by decide +kernel
theorem dL_claps_63 : decode cL_claps 63 = .ok (.bipush 13, 2) := by decide +kernel
theorem dL_claps_65 : decode cL_claps 65 = .ok (.iaload, 1) := by decide +kernel
theorem dL_claps_66 : decode cL_claps 66 = .ok (.isub, 1) := by decide +kernel
theorem dL_claps_67 : decode cL_claps 67 = .ok (.aload_n 1, 1) := by decide +kernel
theorem dL_claps_68 : decode cL_claps 68 = .ok (.iconst 3, 1) := by decide +kernel
theorem dL_claps_69 : decode cL_claps 69 = .ok (.iaload, 1) := by decide +kernel
theorem dL_claps_70 : decode cL_claps 70 = .ok (.if_icmp .gt 7, 3) := by decide +kernel
theorem dL_claps_73 : decode cL_claps 73 = .ok (.iconst 1, 1) := by decide +kernel
theorem dL_claps_74 : decode cL_claps 74 = .ok (.goto 4, 3) := by decide +kernel
theorem dL_claps_77 : decode cL_claps 77 = .ok (.iconst 0, 1) := by decide +kernel
theorem dL_claps_78 : decode cL_claps 78 = .ok (.iadd, 1) := by decide +kernel
theorem dL_claps_79 : decode cL_claps 79 = .ok (.iastore, 1) := by decide +kernel
theorem dL_claps_80 : decode cL_claps 80 = .ok (.aload_n 2, 1) := by decide +kernel
theorem dL_claps_81 : decode cL_claps 81 = .ok (.iload_n 0, 1) := by decide +kernel
theorem dL_claps_82 : decode cL_claps 82 = .ok (.dup2, 1) := by decide +kernel
theorem dL_claps_83 : decode cL_claps 83 = .ok (.iaload, 1) := by decide +kernel
theorem dL_claps_84 : decode cL_claps 84 = .ok (.bipush 32, 2) := by decide +kernel
theorem dL_claps_86 : decode cL_claps 86 = .ok (.ior, 1) := by decide +kernel
theorem dL_claps_87 : decode cL_claps 87 = .ok (.iastore, 1) := by decide +kernel
theorem dL_claps_88 : decode cL_claps 88 = .ok (.aload 4, 2) := by decide +kernel
theorem dL_claps_90 : decode cL_claps 90 = .ok (.iload_n 0, 1) := by decide +kernel
theorem dL_claps_91 : decode cL_claps 91 = .ok (.iaload, 1) := by decide +kernel
theorem dL_claps_92 : decode cL_claps 92 = .ok (.ifCond .ne 19, 3) := by decide +kernel
theorem dL_claps_95 : decode cL_claps 95 = .ok (.aload 8, 2) := by decide +kernel
theorem dL_claps_97 : decode cL_claps 97 = .ok (.aload_n 1, 1) := by decide +kernel
theorem dL_claps_98 : decode cL_claps 98 = .ok (.bipush 17, 2) := by decide +kernel
theorem dL_claps_100 : decode cL_claps 100 = .ok (.iaload, 1) := by decide +kernel
theorem dL_claps_101 : decode cL_claps 101 = .ok (.iload_n 0, 1) := by decide +kernel
theorem dL_claps_102 : decode cL_claps 102 = .ok (.iastore, 1) := by decide +kernel
theorem dL_claps_103 : decode cL_claps 103 = .ok (.aload_n 1, 1) := by decide +kernel
theorem dL_claps_104 : decode cL_claps 104 = .ok (.bipush 17, 2) := by decide +kernel
theorem dL_claps_106 : decode cL_claps 106 = .ok (.dup2, 1) := by decide +kernel
theorem dL_claps_107 : decode cL_claps 107 = .ok (.iaload, 1) := by decide +kernel
theorem dL_claps_108 : decode cL_claps 108 = .ok (.iconst 1, 1) := by decide +kernel
theorem dL_claps_109 : decode cL_claps 109 = .ok (.iadd, 1) := by decide +kernel
theorem dL_claps_110 : decode cL_claps 110 = .ok (.iastore, 1) := by decide +kernel
theorem dL_claps_111 : decode cL_claps 111 = .ok (.aload 4, 2) := by decide +kernel
theorem dL_claps_113 : decode cL_claps 113 = .ok (.iload_n 0, 1) := by decide +kernel
theorem dL_claps_114 : decode cL_claps 114 = .ok (.dup2, 1) := by decide +kernel
theorem dL_claps_115 : decode cL_claps 115 = .ok (.iaload, 1) := by decide +kernel
theorem dL_claps_116 : decode cL_claps 116 = .ok (.iconst 1, 1) := by decide +kernel
theorem dL_claps_117 : decode cL_claps 117 = .ok (.iadd, 1) := by decide +kernel
theorem dL_claps_118 : decode cL_claps 118 = .ok (.iastore, 1) := by decide +kernel
theorem dL_claps_119 : decode cL_claps 119 = .ok (.aload 5, 2) := by decide +kernel
theorem dL_claps_121 : decode cL_claps 121 = .ok (.iload_n 0, 1) := by decide +kernel
theorem dL_claps_122 : decode cL_claps 122 = .ok (.dup2, 1) := by decide +kernel
theorem dL_claps_123 : decode cL_claps 123 = .ok (.iaload, 1) := by decide +kernel
theorem dL_claps_124 : decode cL_claps 124 = .ok (.iconst 1, 1) := by decide +kernel
theorem dL_claps_125 : decode cL_claps 125 = .ok (.iadd, 1) := by decide +kernel
theorem dL_claps_126 : decode cL_claps 126 = .ok (.iastore, 1) := by decide +kernel
theorem dL_claps_127 : decode cL_claps 127 = .ok (.aload_n 1, 1) := by decide +kernel
theorem dL_claps_128 : decode cL_claps 128 = .ok (.bipush 9, 2) := by decide +kernel
theorem dL_claps_130 : decode cL_claps 130 = .ok (.dup2, 1) := by decide +kernel
theorem dL_claps_131 : decode cL_claps 131 = .ok (.iaload, 1) := by decide +kernel
theorem dL_claps_132 : decode cL_claps 132 = .ok (.iconst 1, 1) := by decide +kernel
theorem dL_claps_133 : decode cL_claps 133 = .ok (.iadd, 1) := by decide +kernel
theorem dL_claps_134 : decode cL_claps 134 = .ok (.iastore, 1) := by decide +kernel
theorem dL_claps_135 : decode cL_claps 135 = .ok (.aload_n 1, 1) := by decide +kernel
theorem dL_claps_136 : decode cL_claps 136 = .ok (.bipush 6, 2) := by decide +kernel
theorem dL_claps_138 : decode cL_claps 138 = .ok (.iaload, 1) := by decide +kernel
theorem dL_claps_139 : decode cL_claps 139 = .ok (.aload_n 1, 1) := by decide +kernel
theorem dL_claps_140 : decode cL_claps 140 = .ok (.iconst 1, 1) := by decide +kernel
theorem dL_claps_141 : decode cL_claps 141 = .ok (.iaload, 1) := by decide +kernel
theorem dL_claps_142 : decode cL_claps 142 = .ok (.if_icmp .lt 73, 3) := by decide +kernel
theorem dL_claps_145 : decode cL_claps 145 = .ok (.aload_n 1, 1) := by decide +kernel
theorem dL_claps_146 : decode cL_claps 146 = .ok (.bipush 15, 2) := by decide +kernel
theorem dL_claps_148 : decode cL_claps 148 = .ok (.iaload, 1) := by decide +kernel
theorem dL_claps_149 : decode cL_claps 149 = .ok (.ifCond .ne 66, 3) := by decide +kernel
theorem dL_claps_152 : decode cL_claps 152 = .ok (.aload_n 1, 1) := by decide +kernel
theorem dL_claps_153 : decode cL_claps 153 = .ok (.bipush 15, 2) := by decide +kernel
theorem dL_claps_155 : decode cL_claps 155 = .ok (.iconst 1, 1) := by decide +kernel
theorem dL_claps_156 : decode cL_claps 156 = .ok (.iastore, 1) := by decide +kernel
theorem dL_claps_157 : decode cL_claps 157 = .ok (.aload_n 1, 1) := by decide +kernel
theorem dL_claps_158 : decode cL_claps 158 = .ok (.bipush 16, 2) := by decide +kernel
theorem dL_claps_160 : decode cL_claps 160 = .ok (.iaload, 1) := by decide +kernel
theorem dL_claps_161 : decode cL_claps 161 = .ok (.bipush 8, 2) := by decide +kernel
theorem dL_claps_163 : decode cL_claps 163 = .ok (.if_icmp .ne 16, 3) := by decide +kernel
theorem dL_claps_166 : decode cL_claps 166 = .ok (.aload_n 1, 1) := by decide +kernel
theorem dL_claps_167 : decode cL_claps 167 = .ok (.bipush 14, 2) := by decide +kernel
theorem dL_claps_169 : decode cL_claps 169 = .ok (.iaload, 1) := by decide +kernel
theorem dL_claps_170 : decode cL_claps 170 = .ok (.aload_n 1, 1) := by decide +kernel
theorem dL_claps_171 : decode cL_claps 171 = .ok (.aload 6, 2) := by decide +kernel
theorem dL_claps_173 : decode cL_claps 173 = .ok (.invokestatic 10, 3) := by decide +kernel
theorem dL_claps_176 : decode cL_claps 176 = .ok (.goto 39, 3) := by decide +kernel
theorem dL_claps_179 : decode cL_claps 179 = .ok (.aload 7, 2) := by decide +kernel
theorem dL_claps_181 : decode cL_claps 181 = .ok (.iconst 2, 1) := by decide +kernel
theorem dL_claps_182 : decode cL_claps 182 = .ok (.aload_n 1, 1) := by decide +kernel
theorem dL_claps_183 : decode cL_claps 183 = .ok (.bipush 16, 2) := by decide +kernel
theorem dL_claps_185 : decode cL_claps 185 = .ok (.iaload, 1) := by decide +kernel
theorem dL_claps_186 : decode cL_claps 186 = .ok (.imul, 1) := by decide +kernel
theorem dL_claps_187 : decode cL_claps 187 = .ok (.aload_n 1, 1) := by decide +kernel
theorem dL_claps_188 : decode cL_claps 188 = .ok (.bipush 14, 2) := by decide +kernel
theorem dL_claps_190 : decode cL_claps 190 = .ok (.iaload, 1) := by decide +kernel
theorem dL_claps_191 : decode cL_claps 191 = .ok (.iastore, 1) := by decide +kernel
theorem dL_claps_192 : decode cL_claps 192 = .ok (.aload 7, 2) := by decide +kernel
theorem dL_claps_194 : decode cL_claps 194 = .ok (.iconst 2, 1) := by decide +kernel
theorem dL_claps_195 : decode cL_claps 195 = .ok (.aload_n 1, 1) := by decide +kernel
theorem dL_claps_196 : decode cL_claps 196 = .ok (.bipush 16, 2) := by decide +kernel
theorem dL_claps_198 : decode cL_claps 198 = .ok (.iaload, 1) := by decide +kernel
theorem dL_claps_199 : decode cL_claps 199 = .ok (.imul, 1) := by decide +kernel
theorem dL_claps_200 : decode cL_claps 200 = .ok (.iconst 1, 1) := by decide +kernel
theorem dL_claps_201 : decode cL_claps 201 = .ok (.iadd, 1) := by decide +kernel
theorem dL_claps_202 : decode cL_claps 202 = .ok (.aload_n 1, 1) := by decide +kernel
theorem dL_claps_203 : decode cL_claps 203 = .ok (.bipush 7, 2) := by decide +kernel
theorem dL_claps_205 : decode cL_claps 205 = .ok (.iaload, 1) := by decide +kernel
theorem dL_claps_206 : decode cL_claps 206 = .ok (.iastore, 1) := by decide +kernel
theorem dL_claps_207 : decode cL_claps 207 = .ok (.aload_n 1, 1) := by decide +kernel
theorem dL_claps_208 : decode cL_claps 208 = .ok (.bipush 16, 2) := by decide +kernel
theorem dL_claps_210 : decode cL_claps 210 = .ok (.dup2, 1) := by decide +kernel
theorem dL_claps_211 : decode cL_claps 211 = .ok (.iaload, 1) := by decide +kernel
theorem dL_claps_212 : decode cL_claps 212 = .ok (.iconst 1, 1) := by decide +kernel
theorem dL_claps_213 : decode cL_claps 213 = .ok (.iadd, 1) := by decide +kernel
theorem dL_claps_214 : decode cL_claps 214 = .ok (.iastore, 1) := by decide +kernel
theorem dL_claps_215 : decode cL_claps 215 = .ok (.aload_n 1, 1) := by decide +kernel
theorem dL_claps_216 : decode cL_claps 216 = .ok (.bipush 6, 2) := by decide +kernel
theorem dL_claps_218 : decode cL_claps 218 = .ok (.iaload, 1) := by decide +kernel
theorem dL_claps_219 : decode cL_claps 219 = .ok (.ireturn, 1) := by decide +kernel
theorem dL_less_0 : decode cL_less 0 = .ok (.iload_n 0, 1) := by decide +kernel
theorem dL_less_1 : decode cL_less 1 = .ok (.aload_n 1, 1) := by decide +kernel
theorem dL_less_2 : decode cL_less 2 = .ok (.iconst 0, 1) := by decide +kernel
theorem dL_less_3 : decode cL_less 3 = .ok (.iaload, 1) := by decide +kernel
theorem dL_less_4 : decode cL_less 4 = .ok (.imul, 1) := by decide +kernel
theorem dL_less_5 : decode cL_less 5 = .ok (.bipush 100, 2) := by decide +kernel
theorem dL_less_7 : decode cL_less 7 = .ok (.idiv, 1) := by decide +kernel
theorem dL_less_8 : decode cL_less 8 = .ok (.istore_n 2, 1) := by decide +kernel
theorem dL_less_9 : decode cL_less 9 = .ok (.iload_n 2, 1) := by decide +kernel
theorem dL_less_10 : decode cL_less 10 = .ok (.ifCond .le 9, 3) := by decide +kernel
theorem dL_less_13 : decode cL_less 13 = .ok (.iload_n 0, 1) := by decide +kernel
theorem dL_less_14 : decode cL_less 14 = .ok (.iload_n 2, 1) := by decide +kernel
theorem dL_less_15 : decode cL_less 15 = .ok (.isub, 1) := by decide +kernel
theorem dL_less_16 : decode cL_less 16 = .ok (.goto 14, 3) := by decide +kernel
theorem dL_less_19 : decode cL_less 19 = .ok (.iload_n 0, 1) := by decide +kernel
theorem dL_less_20 : decode cL_less 20 = .ok (.ifCond .le 9, 3) := by decide +kernel
theorem dL_less_23 : decode cL_less 23 = .ok (.iload_n 0, 1) := by decide +kernel
theorem dL_less_24 : decode cL_less 24 = .ok (.iconst 1, 1) := by decide +kernel
theorem dL_less_25 : decode cL_less 25 = .ok (.isub, 1) := by decide +kernel
theorem dL_less_26 : decode cL_less 26 = .ok (.goto 4, 3) := by decide +kernel
theorem dL_less_29 : decode cL_less 29 = .ok (.iconst 0, 1) := by decide +kernel
theorem dL_less_30 : decode cL_less 30 = .ok (.ireturn, 1) := by decide +kernel
set_option maxRecDepth 20000 in
theorem ggL_second_L_less : GoodIn wsL_second wsL_less := goodIn_r _ [4] (by decide +kernel) (by decide +kernel)
set_option maxRecDepth 20000 in
theorem gL_second_L_less : GoodIn wsL_second (va_wsS RL 16 yL_less wsL_less) := goodIn_app (goodIn_of _ (by decide +kernel)) ggL_second_L_less
set_option maxRecDepth 20000 in
theorem ggL_second_L_lapses : GoodIn wsL_second wsL_lapses := goodIn_r _ [7] (by decide +kernel) (by decide +kernel)
set_option maxRecDepth 20000 in
theorem gL_second_L_lapses : GoodIn wsL_second (va_wsS RL 10 yL_lapses wsL_lapses) := goodIn_app (goodIn_of _ (by decide +kernel)) ggL_second_L_lapses
set_option maxRecDepth 20000 in
theorem ggL_second_L_drops : GoodIn wsL_second wsL_drops := goodIn_r _ [10] (by decide +kernel) (by decide +kernel)
set_option maxRecDepth 20000 in
theorem gL_second_L_drops : GoodIn wsL_second (va_wsS RL 20 yL_drops wsL_drops) := goodIn_app (goodIn_of _ (by decide +kernel)) ggL_second_L_drops
theorem dL_second_0 : decode cL_second 0 = .ok (.aload_n 0, 1) := by decide +kernel
theorem dL_second_1 : decode cL_second 1 = .ok (.bipush 6, 2) := by decide +kernel
theorem dL_second_3 : decode cL_second 3 = .ok (.aload_n 0, 1) := by decide +kernel
theorem dL_second_4 : decode cL_second 4 = .ok (.bipush 6, 2) := by decide +kernel
theorem dL_second_6 : decode cL_second 6 = .ok (.iaload, 1) := by decide +kernel
theorem dL_second_7 : decode cL_second 7 = .ok (.aload_n 0, 1) := by decide +kernel
theorem dL_second_8 : decode cL_second 8 = .ok (.invokestatic 16, 3) := by decide +kernel
theorem dL_second_11 : decode cL_second 11 = .ok (.iastore, 1) := by decide +kernel
theorem dL_second_12 : decode cL_second 12 = .ok (.aload_n 0, 1) := by decide +kernel
theorem dL_second_13 : decode cL_second 13 = .ok (.bipush 7, 2) := by decide +kernel
theorem dL_second_15 : decode cL_second 15 = .ok (.dup2, 1) := by decide +kernel
theorem dL_second_16 : decode cL_second 16 = .ok (.iaload, 1) := by decide +kernel
theorem dL_second_17 : decode cL_second 17 = .ok (.iconst 1, 1) := by decide +kernel
theorem dL_second_18 : decode cL_second 18 = .ok (.iadd, 1) := by decide +kernel
theorem dL_second_19 : decode cL_second 19 = .ok (.iastore, 1) := by decide +kernel
theorem dL_second_20 : decode cL_second 20 = .ok (.iconst 0, 1) := by decide +kernel
theorem dL_second_21 : decode cL_second 21 = .ok (.istore_n 3, 1) := by decide +kernel
theorem dL_second_22 : decode cL_second 22 = .ok (.iload_n 3, 1) := by decide +kernel
theorem dL_second_23 : decode cL_second 23 = .ok (.aload_n 0, 1) := by decide +kernel
theorem dL_second_24 : decode cL_second 24 = .ok (.bipush 16, 2) := by decide +kernel
theorem dL_second_26 : decode cL_second 26 = .ok (.iaload, 1) := by decide +kernel
theorem dL_second_27 : decode cL_second 27 = .ok (.if_icmp .ge 46, 3) := by decide +kernel
theorem dL_second_30 : decode cL_second 30 = .ok (.aload_n 0, 1) := by decide +kernel
theorem dL_second_31 : decode cL_second 31 = .ok (.bipush 7, 2) := by decide +kernel
theorem dL_second_33 : decode cL_second 33 = .ok (.iaload, 1) := by decide +kernel
theorem dL_second_34 : decode cL_second 34 = .ok (.aload_n 2, 1) := by decide +kernel
theorem dL_second_35 : decode cL_second 35 = .ok (.iconst 2, 1) := by decide +kernel
theorem dL_second_36 : decode cL_second 36 = .ok (.iload_n 3, 1) := by decide +kernel
theorem dL_second_37 : decode cL_second 37 = .ok (.imul, 1) := by decide +kernel
theorem dL_second_38 : decode cL_second 38 = .ok (.iconst 1, 1) := by decide +kernel
theorem dL_second_39 : decode cL_second 39 = .ok (.iadd, 1) := by decide +kernel
theorem dL_second_40 : decode cL_second 40 = .ok (.iaload, 1) := by decide +kernel
theorem dL_second_41 : decode cL_second 41 = .ok (.isub, 1) := by decide +kernel
theorem dL_second_42 : decode cL_second 42 = .ok (.aload_n 0, 1) := by decide +kernel
theorem dL_second_43 : decode cL_second 43 = .ok (.iconst 2, 1) := by decide +kernel
theorem dL_second_44 : decode cL_second 44 = .ok (.iaload, 1) := by decide +kernel
theorem dL_second_45 : decode cL_second 45 = .ok (.if_icmp .lt 22, 3) := by decide +kernel
theorem dL_second_48 : decode cL_second 48 = .ok (.aload_n 2, 1) := by decide +kernel
theorem dL_second_49 : decode cL_second 49 = .ok (.iconst 2, 1) := by decide +kernel
theorem dL_second_50 : decode cL_second 50 = .ok (.iload_n 3, 1) := by decide +kernel
theorem dL_second_51 : decode cL_second 51 = .ok (.imul, 1) := by decide +kernel
theorem dL_second_52 : decode cL_second 52 = .ok (.iaload, 1) := by decide +kernel
theorem dL_second_53 : decode cL_second 53 = .ok (.aload_n 0, 1) := by decide +kernel
theorem dL_second_54 : decode cL_second 54 = .ok (.aload_n 1, 1) := by decide +kernel
theorem dL_second_55 : decode cL_second 55 = .ok (.invokestatic 10, 3) := by decide +kernel
theorem dL_second_58 : decode cL_second 58 = .ok (.iload_n 3, 1) := by decide +kernel
theorem dL_second_59 : decode cL_second 59 = .ok (.aload_n 0, 1) := by decide +kernel
theorem dL_second_60 : decode cL_second 60 = .ok (.aload_n 2, 1) := by decide +kernel
theorem dL_second_61 : decode cL_second 61 = .ok (.invokestatic 20, 3) := by decide +kernel
theorem dL_second_64 : decode cL_second 64 = .ok (.goto (-42), 3) := by decide +kernel
theorem dL_second_67 : decode cL_second 67 = .ok (.iinc 3 1, 3) := by decide +kernel
theorem dL_second_70 : decode cL_second 70 = .ok (.goto (-48), 3) := by decide +kernel
theorem dL_second_73 : decode cL_second 73 = .ok (.return_, 1) := by decide +kernel
theorem dL_owes_0 : decode cL_owes 0 = .ok (.iconst 0, 1) := by decide +kernel
theorem dL_owes_1 : decode cL_owes 1 = .ok (.istore_n 3, 1) := by decide +kernel
theorem dL_owes_2 : decode cL_owes 2 = .ok (.iconst 0, 1) := by decide +kernel
theorem dL_owes_3 : decode cL_owes 3 = .ok (.istore 4, 2) := by decide +kernel
theorem dL_owes_5 : decode cL_owes 5 = .ok (.iload 4, 2) := by decide +kernel
theorem dL_owes_7 : decode cL_owes 7 = .ok (.aload_n 1, 1) := by decide +kernel
theorem dL_owes_8 : decode cL_owes 8 = .ok (.bipush 16, 2) := by decide +kernel
theorem dL_owes_10 : decode cL_owes 10 = .ok (.iaload, 1) := by decide +kernel
theorem dL_owes_11 : decode cL_owes 11 = .ok (.if_icmp .ge 27, 3) := by decide +kernel
theorem dL_owes_14 : decode cL_owes 14 = .ok (.iload_n 3, 1) := by decide +kernel
theorem dL_owes_15 : decode cL_owes 15 = .ok (.aload_n 2, 1) := by decide +kernel
theorem dL_owes_16 : decode cL_owes 16 = .ok (.iconst 2, 1) := by decide +kernel
theorem dL_owes_17 : decode cL_owes 17 = .ok (.iload 4, 2) := by decide +kernel
theorem dL_owes_19 : decode cL_owes 19 = .ok (.imul, 1) := by decide +kernel
theorem dL_owes_20 : decode cL_owes 20 = .ok (.iaload, 1) := by decide +kernel
theorem dL_owes_21 : decode cL_owes 21 = .ok (.iload_n 0, 1) := by decide +kernel
theorem dL_owes_22 : decode cL_owes 22 = .ok (.if_icmp .ne 7, 3) := by decide +kernel
theorem dL_owes_25 : decode cL_owes 25 = .ok (.iconst 1, 1) := by decide +kernel
theorem dL_owes_26 : decode cL_owes 26 = .ok (.goto 4, 3) := by decide +kernel
theorem dL_owes_29 : decode cL_owes 29 = .ok (.iconst 0, 1) := by decide +kernel
theorem dL_owes_30 : decode cL_owes 30 = .ok (.iadd, 1) := by decide +kernel
theorem dL_owes_31 : decode cL_owes 31 = .ok (.istore_n 3, 1) := by decide +kernel
theorem dL_owes_32 : decode cL_owes 32 = .ok (.iinc 4 1, 3) := by decide +kernel
theorem dL_owes_35 : decode cL_owes 35 = .ok (.goto (-30), 3) := by decide +kernel
theorem dL_owes_38 : decode cL_owes 38 = .ok (.iload_n 3, 1) := by decide +kernel
theorem dL_owes_39 : decode cL_owes 39 = .ok (.ireturn, 1) := by decide +kernel
theorem dL_earliest_0 : decode cL_earliest 0 = .ok (.iconst (-1), 1) := by decide +kernel
theorem dL_earliest_1 : decode cL_earliest 1 = .ok (.istore_n 3, 1) := by decide +kernel
theorem dL_earliest_2 : decode cL_earliest 2 = .ok (.aload_n 1, 1) := by decide +kernel
theorem dL_earliest_3 : decode cL_earliest 3 = .ok (.bipush 16, 2) := by decide +kernel
theorem dL_earliest_5 : decode cL_earliest 5 = .ok (.iaload, 1) := by decide +kernel
theorem dL_earliest_6 : decode cL_earliest 6 = .ok (.iconst 1, 1) := by decide +kernel
theorem dL_earliest_7 : decode cL_earliest 7 = .ok (.isub, 1) := by decide +kernel
theorem dL_earliest_8 : decode cL_earliest 8 = .ok (.istore 4, 2) := by decide +kernel
theorem dL_earliest_10 : decode cL_earliest 10 = .ok (.iload 4, 2) := by decide +kernel
theorem dL_earliest_12 : decode cL_earliest 12 = .ok (.ifCond .lt 26, 3) := by decide +kernel
theorem dL_earliest_15 : decode cL_earliest 15 = .ok (.aload_n 2, 1) := by decide +kernel
theorem dL_earliest_16 : decode cL_earliest 16 = .ok (.iconst 2, 1) := by decide +kernel
theorem dL_earliest_17 : decode cL_earliest 17 = .ok (.iload 4, 2) := by decide +kernel
theorem dL_earliest_19 : decode cL_earliest 19 = .ok (.imul, 1) := by decide +kernel
theorem dL_earliest_20 : decode cL_earliest 20 = .ok (.iaload, 1) := by decide +kernel
theorem dL_earliest_21 : decode cL_earliest 21 = .ok (.iload_n 0, 1) := by decide +kernel
theorem dL_earliest_22 : decode cL_earliest 22 = .ok (.if_icmp .ne 8, 3) := by decide +kernel
theorem dL_earliest_25 : decode cL_earliest 25 = .ok (.iload 4, 2) := by decide +kernel
theorem dL_earliest_27 : decode cL_earliest 27 = .ok (.goto 4, 3) := by decide +kernel
theorem dL_earliest_30 : decode cL_earliest 30 = .ok (.iload_n 3, 1) := by decide +kernel
theorem dL_earliest_31 : decode cL_earliest 31 = .ok (.istore_n 3, 1) := by decide +kernel
theorem dL_earliest_32 : decode cL_earliest 32 = .ok (.iinc 4 (-1), 3) := by decide +kernel
theorem dL_earliest_35 : decode cL_earliest 35 = .ok (.goto (-25), 3) := by decide +kernel
theorem dL_earliest_38 : decode cL_earliest 38 = .ok (.iload_n 3, 1) := by decide +kernel
theorem dL_earliest_39 : decode cL_earliest 39 = .ok (.ireturn, 1) := by decide +kernel
set_option maxRecDepth 20000 in
theorem ggL_plays_L_earliest : GoodIn wsL_plays wsL_earliest := goodIn_r _ [4] (by decide +kernel) (by decide +kernel)
set_option maxRecDepth 20000 in
theorem gL_plays_L_earliest : GoodIn wsL_plays (va_wsS RL 23 yL_earliest wsL_earliest) := goodIn_app (goodIn_of _ (by decide +kernel)) ggL_plays_L_earliest
set_option maxRecDepth 20000 in
theorem ggL_plays_L_drops : GoodIn wsL_plays wsL_drops := goodIn_r _ [7] (by decide +kernel) (by decide +kernel)
set_option maxRecDepth 20000 in
theorem gL_plays_L_drops : GoodIn wsL_plays (va_wsS RL 20 yL_drops wsL_drops) := goodIn_app (goodIn_of _ (by decide +kernel)) ggL_plays_L_drops
set_option maxRecDepth 20000 in
theorem ggL_plays_L_ends : GoodIn wsL_plays wsL_ends := goodIn_r _ [10] (by decide +kernel) (by decide +kernel)
set_option maxRecDepth 20000 in
theorem gL_plays_L_ends : GoodIn wsL_plays (va_wsS RL 27 yL_ends wsL_ends) := goodIn_app (goodIn_of _ (by decide +kernel)) ggL_plays_L_ends
set_option maxRecDepth 20000 in
theorem ggL_plays_L_owes : GoodIn wsL_plays wsL_owes := goodIn_r _ [13] (by decide +kernel) (by decide +kernel)
set_option maxRecDepth 20000 in
theorem gL_plays_L_owes : GoodIn wsL_plays (va_wsS RL 31 yL_owes wsL_owes) := goodIn_app (goodIn_of _ (by decide +kernel)) ggL_plays_L_owes
theorem dL_plays_0 : decode cL_plays 0 = .ok (.iload_n 0, 1) := by decide +kernel
theorem dL_plays_1 : decode cL_plays 1 = .ok (.aload_n 1, 1) := by decide +kernel
theorem dL_plays_2 : decode cL_plays 2 = .ok (.aload 4, 2) := by decide +kernel
theorem dL_plays_4 : decode cL_plays 4 = .ok (.invokestatic 23, 3) := by decide +kernel
theorem dL_plays_7 : decode cL_plays 7 = .ok (.istore 5, 2) := by decide +kernel
theorem dL_plays_9 : decode cL_plays 9 = .ok (.iload 5, 2) := by decide +kernel
theorem dL_plays_11 : decode cL_plays 11 = .ok (.ifCond .ge 6, 3) := by decide +kernel
theorem dL_plays_14 : decode cL_plays 14 = .ok (.bipush (-5), 2) := by decide +kernel
theorem dL_plays_16 : decode cL_plays 16 = .ok (.ireturn, 1) := by decide +kernel
theorem dL_plays_17 : decode cL_plays 17 = .ok (.iload 5, 2) := by decide +kernel
theorem dL_plays_19 : decode cL_plays 19 = .ok (.aload_n 1, 1) := by decide +kernel
theorem dL_plays_20 : decode cL_plays 20 = .ok (.aload 4, 2) := by decide +kernel
theorem dL_plays_22 : decode cL_plays 22 = .ok (.invokestatic 20, 3) := by decide +kernel
theorem dL_plays_25 : decode cL_plays 25 = .ok (.aload_n 3, 1) := by decide +kernel
theorem dL_plays_26 : decode cL_plays 26 = .ok (.iconst 3, 1) := by decide +kernel
theorem dL_plays_27 : decode cL_plays 27 = .ok (.iload_n 0, 1) := by decide +kernel
theorem dL_plays_28 : decode cL_plays 28 = .ok (.imul, 1) := by decide +kernel
theorem dL_plays_29 : decode cL_plays 29 = .ok (.dup2, 1) := by decide +kernel
theorem dL_plays_30 : decode cL_plays 30 = .ok (.iaload, 1) := by decide +kernel
theorem dL_plays_31 : decode cL_plays 31 = .ok (.iconst 1, 1) := by decide +kernel
theorem dL_plays_32 : decode cL_plays 32 = .ok (.iadd, 1) := by decide +kernel
theorem dL_plays_33 : decode cL_plays 33 = .ok (.iastore, 1) := by decide +kernel
theorem dL_plays_34 : decode cL_plays 34 = .ok (.aload_n 1, 1) := by decide +kernel
theorem dL_plays_35 : decode cL_plays 35 = .ok (.bipush 10, 2) := by decide +kernel
theorem dL_plays_37 : decode cL_plays 37 = .ok (.dup2, 1) := by decide +kernel
theorem dL_plays_38 : decode cL_plays 38 = .ok (.iaload, 1) := by decide +kernel
theorem dL_plays_39 : decode cL_plays 39 = .ok (.iconst 1, 1) := by decide +kernel
theorem dL_plays_40 : decode cL_plays 40 = .ok (.iadd, 1) := by decide +kernel
theorem dL_plays_41 : decode cL_plays 41 = .ok (.iastore, 1) := by decide +kernel
theorem dL_plays_42 : decode cL_plays 42 = .ok (.iload_n 0, 1) := by decide +kernel
theorem dL_plays_43 : decode cL_plays 43 = .ok (.aload_n 1, 1) := by decide +kernel
theorem dL_plays_44 : decode cL_plays 44 = .ok (.aload_n 2, 1) := by decide +kernel
theorem dL_plays_45 : decode cL_plays 45 = .ok (.aload_n 3, 1) := by decide +kernel
theorem dL_plays_46 : decode cL_plays 46 = .ok (.invokestatic 27, 3) := by decide +kernel
theorem dL_plays_49 : decode cL_plays 49 = .ok (.istore 6, 2) := by decide +kernel
theorem dL_plays_51 : decode cL_plays 51 = .ok (.iload 6, 2) := by decide +kernel
theorem dL_plays_53 : decode cL_plays 53 = .ok (.ifCond .ge 8, 3) := by decide +kernel
theorem dL_plays_56 : decode cL_plays 56 = .ok (.iload 6, 2) := by decide +kernel
theorem dL_plays_58 : decode cL_plays 58 = .ok (.goto 10, 3) := by decide +kernel
theorem dL_plays_61 : decode cL_plays 61 = .ok (.iload_n 0, 1) := by decide +kernel
theorem dL_plays_62 : decode cL_plays 62 = .ok (.aload_n 1, 1) := by decide +kernel
theorem dL_plays_63 : decode cL_plays 63 = .ok (.aload 4, 2) := by decide +kernel
theorem dL_plays_65 : decode cL_plays 65 = .ok (.invokestatic 31, 3) := by decide +kernel
theorem dL_plays_68 : decode cL_plays 68 = .ok (.ireturn, 1) := by decide +kernel
set_option maxRecDepth 20000 in
theorem ggL_nights_L_lapses : GoodIn wsL_nights wsL_lapses := goodIn_r _ [4] (by decide +kernel) (by decide +kernel)
set_option maxRecDepth 20000 in
theorem gL_nights_L_lapses : GoodIn wsL_nights (va_wsS RL 10 yL_lapses wsL_lapses) := goodIn_app (goodIn_of _ (by decide +kernel)) ggL_nights_L_lapses
theorem dL_nights_0 : decode cL_nights 0 = .ok (.aload_n 0, 1) := by decide +kernel
theorem dL_nights_1 : decode cL_nights 1 = .ok (.bipush 16, 2) := by decide +kernel
theorem dL_nights_3 : decode cL_nights 3 = .ok (.iaload, 1) := by decide +kernel
theorem dL_nights_4 : decode cL_nights 4 = .ok (.istore 6, 2) := by decide +kernel
theorem dL_nights_6 : decode cL_nights 6 = .ok (.iconst 0, 1) := by decide +kernel
theorem dL_nights_7 : decode cL_nights 7 = .ok (.istore 7, 2) := by decide +kernel
theorem dL_nights_9 : decode cL_nights 9 = .ok (.iload 7, 2) := by decide +kernel
theorem dL_nights_11 : decode cL_nights 11 = .ok (.iload 6, 2) := by decide +kernel
theorem dL_nights_13 : decode cL_nights 13 = .ok (.if_icmp .ge 21, 3) := by decide +kernel
theorem dL_nights_16 : decode cL_nights 16 = .ok (.aload 4, 2) := by decide +kernel
theorem dL_nights_18 : decode cL_nights 18 = .ok (.iconst 2, 1) := by decide +kernel
theorem dL_nights_19 : decode cL_nights 19 = .ok (.iload 7, 2) := by decide +kernel
theorem dL_nights_21 : decode cL_nights 21 = .ok (.imul, 1) := by decide +kernel
theorem dL_nights_22 : decode cL_nights 22 = .ok (.iaload, 1) := by decide +kernel
theorem dL_nights_23 : decode cL_nights 23 = .ok (.aload_n 0, 1) := by decide +kernel
theorem dL_nights_24 : decode cL_nights 24 = .ok (.aload_n 3, 1) := by decide +kernel
theorem dL_nights_25 : decode cL_nights 25 = .ok (.invokestatic 10, 3) := by decide +kernel
theorem dL_nights_28 : decode cL_nights 28 = .ok (.iinc 7 1, 3) := by decide +kernel
theorem dL_nights_31 : decode cL_nights 31 = .ok (.goto (-22), 3) := by decide +kernel
theorem dL_nights_34 : decode cL_nights 34 = .ok (.bipush 23, 2) := by decide +kernel
theorem dL_nights_36 : decode cL_nights 36 = .ok (.istore 7, 2) := by decide +kernel
theorem dL_nights_38 : decode cL_nights 38 = .ok (.iload 7, 2) := by decide +kernel
theorem dL_nights_40 : decode cL_nights 40 = .ok (.iconst 3, 1) := by decide +kernel
theorem dL_nights_41 : decode cL_nights 41 = .ok (.if_icmp .le 21, 3) := by decide +kernel
theorem dL_nights_44 : decode cL_nights 44 = .ok (.aload 5, 2) := by decide +kernel
theorem dL_nights_46 : decode cL_nights 46 = .ok (.iload 7, 2) := by decide +kernel
theorem dL_nights_48 : decode cL_nights 48 = .ok (.aload 5, 2) := by decide +kernel
theorem dL_nights_50 : decode cL_nights 50 = .ok (.iload 7, 2) := by decide +kernel
theorem dL_nights_52 : decode cL_nights 52 = .ok (.iconst 4, 1) := by decide +kernel
theorem dL_nights_53 : decode cL_nights 53 = .ok (.isub, 1) := by decide +kernel
theorem dL_nights_54 : decode cL_nights 54 = .ok (.iaload, 1) := by decide +kernel
theorem dL_nights_55 : decode cL_nights 55 = .ok (.iastore, 1) := by decide +kernel
theorem dL_nights_56 : decode cL_nights 56 = .ok (.iinc 7 (-1), 3) := by decide +kernel
theorem dL_nights_59 : decode cL_nights 59 = .ok (.goto (-21), 3) := by decide +kernel
theorem dL_nights_62 : decode cL_nights 62 = .ok (.iconst 0, 1) := by decide +kernel
theorem dL_nights_63 : decode cL_nights 63 = .ok (.istore 7, 2) := by decide +kernel
theorem dL_nights_65 : decode cL_nights 65 = .ok (.iload 7, 2) := by decide +kernel
theorem dL_nights_67 : decode cL_nights 67 = .ok (.iconst 4, 1) := by decide +kernel
theorem dL_nights_68 : decode cL_nights 68 = .ok (.if_icmp .ge 29, 3) := by decide +kernel
theorem dL_nights_71 : decode cL_nights 71 = .ok (.aload 5, 2) := by decide +kernel
theorem dL_nights_73 : decode cL_nights 73 = .ok (.iload 7, 2) := by decide +kernel
theorem dL_nights_75 : decode cL_nights 75 = .ok (.aload_n 0, 1) := by decide +kernel
theorem dL_nights_76 : decode cL_nights 76 = .ok (.bipush 9, 2) := by decide +kernel
theorem dL_nights_78 : decode cL_nights 78 = .ok (.iload 7, 2) := by decide +kernel
theorem dL_nights_80 : decode cL_nights 80 = .ok (.iadd, 1) := by decide +kernel
theorem dL_nights_81 : decode cL_nights 81 = .ok (.iaload, 1) := by decide +kernel
theorem dL_nights_82 : decode cL_nights 82 = .ok (.iastore, 1) := by decide +kernel
theorem dL_nights_83 : decode cL_nights 83 = .ok (.aload_n 0, 1) := by decide +kernel
theorem dL_nights_84 : decode cL_nights 84 = .ok (.bipush 9, 2) := by decide +kernel
theorem dL_nights_86 : decode cL_nights 86 = .ok (.iload 7, 2) := by decide +kernel
theorem dL_nights_88 : decode cL_nights 88 = .ok (.iadd, 1) := by decide +kernel
theorem dL_nights_89 : decode cL_nights 89 = .ok (.iconst 0, 1) := by decide +kernel
theorem dL_nights_90 : decode cL_nights 90 = .ok (.iastore, 1) := by decide +kernel
theorem dL_nights_91 : decode cL_nights 91 = .ok (.iinc 7 1, 3) := by decide +kernel
theorem dL_nights_94 : decode cL_nights 94 = .ok (.goto (-29), 3) := by decide +kernel
theorem dL_nights_97 : decode cL_nights 97 = .ok (.iconst 0, 1) := by decide +kernel
theorem dL_nights_98 : decode cL_nights 98 = .ok (.istore 7, 2) := by decide +kernel
theorem dL_nights_100 : decode cL_nights 100 = .ok (.iload 7, 2) := by decide +kernel
theorem dL_nights_102 : decode cL_nights 102 = .ok (.bipush 30, 2) := by decide +kernel
theorem dL_nights_104 : decode cL_nights 104 = .ok (.if_icmp .ge 23, 3) := by decide +kernel
theorem dL_nights_107 : decode cL_nights 107 = .ok (.aload_n 2, 1) := by decide +kernel
theorem dL_nights_108 : decode cL_nights 108 = .ok (.iload 7, 2) := by decide +kernel
theorem dL_nights_110 : decode cL_nights 110 = .ok (.iconst 0, 1) := by decide +kernel
theorem dL_nights_111 : decode cL_nights 111 = .ok (.iastore, 1) := by decide +kernel
theorem dL_nights_112 : decode cL_nights 112 = .ok (.aload_n 1, 1) := by decide +kernel
theorem dL_nights_113 : decode cL_nights 113 = .ok (.iload 7, 2) := by decide +kernel
theorem dL_nights_115 : decode cL_nights 115 = .ok (.dup2, 1) := by decide +kernel
theorem dL_nights_116 : decode cL_nights 116 = .ok (.iaload, 1) := by decide +kernel
theorem dL_nights_117 : decode cL_nights 117 = .ok (.bipush 31, 2) := by decide +kernel
theorem dL_nights_119 : decode cL_nights 119 = .ok (.iand, 1) := by decide +kernel
theorem dL_nights_120 : decode cL_nights 120 = .ok (.iastore, 1) := by decide +kernel
theorem dL_nights_121 : decode cL_nights 121 = .ok (.iinc 7 1, 3) := by decide +kernel
theorem dL_nights_124 : decode cL_nights 124 = .ok (.goto (-24), 3) := by decide +kernel
theorem dL_nights_127 : decode cL_nights 127 = .ok (.aload_n 0, 1) := by decide +kernel
theorem dL_nights_128 : decode cL_nights 128 = .ok (.bipush 6, 2) := by decide +kernel
theorem dL_nights_130 : decode cL_nights 130 = .ok (.iconst 0, 1) := by decide +kernel
theorem dL_nights_131 : decode cL_nights 131 = .ok (.iastore, 1) := by decide +kernel
theorem dL_nights_132 : decode cL_nights 132 = .ok (.aload_n 0, 1) := by decide +kernel
theorem dL_nights_133 : decode cL_nights 133 = .ok (.bipush 8, 2) := by decide +kernel
theorem dL_nights_135 : decode cL_nights 135 = .ok (.dup2, 1) := by decide +kernel
theorem dL_nights_136 : decode cL_nights 136 = .ok (.iaload, 1) := by decide +kernel
theorem dL_nights_137 : decode cL_nights 137 = .ok (.iconst 1, 1) := by decide +kernel
theorem dL_nights_138 : decode cL_nights 138 = .ok (.iadd, 1) := by decide +kernel
theorem dL_nights_139 : decode cL_nights 139 = .ok (.iastore, 1) := by decide +kernel
theorem dL_nights_140 : decode cL_nights 140 = .ok (.aload_n 0, 1) := by decide +kernel
theorem dL_nights_141 : decode cL_nights 141 = .ok (.bipush 13, 2) := by decide +kernel
theorem dL_nights_143 : decode cL_nights 143 = .ok (.iconst (-1), 1) := by decide +kernel
theorem dL_nights_144 : decode cL_nights 144 = .ok (.iastore, 1) := by decide +kernel
theorem dL_nights_145 : decode cL_nights 145 = .ok (.aload_n 0, 1) := by decide +kernel
theorem dL_nights_146 : decode cL_nights 146 = .ok (.bipush 16, 2) := by decide +kernel
theorem dL_nights_148 : decode cL_nights 148 = .ok (.iconst 0, 1) := by decide +kernel
theorem dL_nights_149 : decode cL_nights 149 = .ok (.iastore, 1) := by decide +kernel
theorem dL_nights_150 : decode cL_nights 150 = .ok (.aload_n 0, 1) := by decide +kernel
theorem dL_nights_151 : decode cL_nights 151 = .ok (.bipush 17, 2) := by decide +kernel
theorem dL_nights_153 : decode cL_nights 153 = .ok (.iconst 0, 1) := by decide +kernel
theorem dL_nights_154 : decode cL_nights 154 = .ok (.iastore, 1) := by decide +kernel
theorem dL_nights_155 : decode cL_nights 155 = .ok (.aload_n 0, 1) := by decide +kernel
theorem dL_nights_156 : decode cL_nights 156 = .ok (.bipush 18, 2) := by decide +kernel
theorem dL_nights_158 : decode cL_nights 158 = .ok (.dup2, 1) := by decide +kernel
theorem dL_nights_159 : decode cL_nights 159 = .ok (.iaload, 1) := by decide +kernel
theorem dL_nights_160 : decode cL_nights 160 = .ok (.aload_n 0, 1) := by decide +kernel
theorem dL_nights_161 : decode cL_nights 161 = .ok (.bipush 18, 2) := by decide +kernel
theorem dL_nights_163 : decode cL_nights 163 = .ok (.iaload, 1) := by decide +kernel
theorem dL_nights_164 : decode cL_nights 164 = .ok (.bipush 6, 2) := by decide +kernel
theorem dL_nights_166 : decode cL_nights 166 = .ok (.if_icmp .ge 7, 3) := by decide +kernel
theorem dL_nights_169 : decode cL_nights 169 = .ok (.iconst 1, 1) := by decide +kernel
theorem dL_nights_170 : decode cL_nights 170 = .ok (.goto 4, 3) := by decide +kernel
theorem dL_nights_173 : decode cL_nights 173 = .ok (.iconst 0, 1) := by decide +kernel
theorem dL_nights_174 : decode cL_nights 174 = .ok (.iadd, 1) := by decide +kernel
theorem dL_nights_175 : decode cL_nights 175 = .ok (.iastore, 1) := by decide +kernel
theorem dL_nights_176 : decode cL_nights 176 = .ok (.iload 6, 2) := by decide +kernel
theorem dL_nights_178 : decode cL_nights 178 = .ok (.ireturn, 1) := by decide +kernel
theorem dL_seats_0 : decode cL_seats 0 = .ok (.iconst 0, 1) := by decide +kernel
theorem dL_seats_1 : decode cL_seats 1 = .ok (.istore 4, 2) := by decide +kernel
theorem dL_seats_3 : decode cL_seats 3 = .ok (.iconst 0, 1) := by decide +kernel
theorem dL_seats_4 : decode cL_seats 4 = .ok (.istore 5, 2) := by decide +kernel
theorem dL_seats_6 : decode cL_seats 6 = .ok (.iload 5, 2) := by decide +kernel
theorem dL_seats_8 : decode cL_seats 8 = .ok (.bipush 30, 2) := by decide +kernel
theorem dL_seats_10 : decode cL_seats 10 = .ok (.if_icmp .ge 48, 3) := by decide +kernel
theorem dL_seats_13 : decode cL_seats 13 = .ok (.iload 4, 2) := by decide +kernel
theorem dL_seats_15 : decode cL_seats 15 = .ok (.iload_n 0, 1) := by decide +kernel
theorem dL_seats_16 : decode cL_seats 16 = .ok (.ifCond .eq 17, 3) := by decide +kernel
theorem dL_seats_19 : decode cL_seats 19 = .ok (.aload_n 2, 1) := by decide +kernel
theorem dL_seats_20 : decode cL_seats 20 = .ok (.iload 5, 2) := by decide +kernel
theorem dL_seats_22 : decode cL_seats 22 = .ok (.iaload, 1) := by decide +kernel
theorem dL_seats_23 : decode cL_seats 23 = .ok (.iconst 4, 1) := by decide +kernel
theorem dL_seats_24 : decode cL_seats 24 = .ok (.ishr, 1) := by decide +kernel
theorem dL_seats_25 : decode cL_seats 25 = .ok (.iconst 1, 1) := by decide +kernel
theorem dL_seats_26 : decode cL_seats 26 = .ok (.iand, 1) := by decide +kernel
theorem dL_seats_27 : decode cL_seats 27 = .ok (.iload 5, 2) := by decide +kernel
theorem dL_seats_29 : decode cL_seats 29 = .ok (.ishl, 1) := by decide +kernel
theorem dL_seats_30 : decode cL_seats 30 = .ok (.goto 19, 3) := by decide +kernel
theorem dL_seats_33 : decode cL_seats 33 = .ok (.aload_n 3, 1) := by decide +kernel
theorem dL_seats_34 : decode cL_seats 34 = .ok (.iload 5, 2) := by decide +kernel
theorem dL_seats_36 : decode cL_seats 36 = .ok (.iaload, 1) := by decide +kernel
theorem dL_seats_37 : decode cL_seats 37 = .ok (.iload_n 1, 1) := by decide +kernel
theorem dL_seats_38 : decode cL_seats 38 = .ok (.if_icmp .lt 10, 3) := by decide +kernel
theorem dL_seats_41 : decode cL_seats 41 = .ok (.iconst 1, 1) := by decide +kernel
theorem dL_seats_42 : decode cL_seats 42 = .ok (.iload 5, 2) := by decide +kernel
theorem dL_seats_44 : decode cL_seats 44 = .ok (.ishl, 1) := by decide +kernel
theorem dL_seats_45 : decode cL_seats 45 = .ok (.goto 4, 3) := by decide +kernel
theorem dL_seats_48 : decode cL_seats 48 = .ok (.iconst 0, 1) := by decide +kernel
theorem dL_seats_49 : decode cL_seats 49 = .ok (.ior, 1) := by decide +kernel
theorem dL_seats_50 : decode cL_seats 50 = .ok (.istore 4, 2) := by decide +kernel
theorem dL_seats_52 : decode cL_seats 52 = .ok (.iinc 5 1, 3) := by decide +kernel
theorem dL_seats_55 : decode cL_seats 55 = .ok (.goto (-49), 3) := by decide +kernel
theorem dL_seats_58 : decode cL_seats 58 = .ok (.iload 4, 2) := by decide +kernel
theorem dL_seats_60 : decode cL_seats 60 = .ok (.ireturn, 1) := by decide +kernel
set_option maxRecDepth 20000 in
theorem ggL_call_X7_clap : GoodIn wsL_call wsX7_clap := goodIn_r _ [5, 6, 7, 8, 9, 10, 11, 12, 13, 14, 15, 16, 17, 18, 19, 20, 21, 22, 23, 24, 25, 26, 27, 28, 29, 30, 31, 32, 33, 34, 35, 36, 37, 38, 39, 40, 41, 42, 43, 44, 45, 46, 47, 48, 49, 50, 51, 52, 53, 54, 55, 56, 57, 58, 59, 60, 61, 62, 63, 64, 65, 66, 67, 68, 69, 70, 71, 72, 73, 74, 75, 76, 77, 78, 79, 80, 4, 81, 82, 83, 84, 85, 86, 87, 88, 89, 90, 91, 92, 93, 94, 95, 96, 97, 98, 99, 100, 101, 102, 103, 104, 105, 106, 107, 108, 109, 110, 111, 112, 113, 114, 115, 116, 117, 118, 119, 230, 231, 232, 233, 234, 235, 236, 237, 238, 239, 240, 241, 242, 243, 244, 245, 246, 247, 248, 249, 250, 251, 252, 253, 254, 255, 256, 257, 258, 259, 260, 261, 262, 263] (by decide +kernel) (by decide +kernel)
set_option maxRecDepth 20000 in
theorem gL_call_X7_clap : GoodIn wsL_call (wsV RL 34 RX7 yX7_clap wsX7_clap) := goodIn_app (goodIn_of _ (by decide +kernel)) ggL_call_X7_clap
set_option maxRecDepth 20000 in
theorem ggL_call_X7_ends : GoodIn wsL_call wsX7_ends := goodIn_r _ [123, 6, 7, 8, 9, 10, 11, 12, 13, 14, 15, 16, 17, 18, 19, 20, 21, 22, 23, 24, 25, 26, 27, 28, 29, 30, 31, 32, 33, 34, 35, 36, 37, 38, 39, 40, 41, 42, 43, 44, 45, 46, 47, 48, 49, 50, 51, 52, 53, 54, 55, 56, 57, 58, 59, 60, 61, 62, 63, 64, 65, 66, 67, 68, 69, 70, 71, 72, 73, 74, 124, 125, 126, 127, 128, 4, 129, 130, 131, 132, 133, 103, 95, 96, 97, 134, 135, 136, 137, 114, 115, 116, 117, 118, 119, 230, 231, 232, 233, 234, 235, 236, 237, 238, 239, 240, 241, 242, 243, 244, 245, 246, 247, 248, 249, 250, 251, 252, 253, 254, 255, 256, 257, 258, 259, 260, 261, 262, 263] (by decide +kernel) (by decide +kernel)
set_option maxRecDepth 20000 in
theorem gL_call_X7_ends : GoodIn wsL_call (wsV RL 40 RX7 yX7_ends wsX7_ends) := goodIn_app (goodIn_of _ (by decide +kernel)) ggL_call_X7_ends
set_option maxRecDepth 20000 in
theorem ggL_call_X7_pass : GoodIn wsL_call wsX7_pass := goodIn_r _ [141, 6, 7, 8, 9, 10, 11, 12, 13, 14, 15, 16, 17, 18, 19, 20, 21, 22, 23, 24, 25, 26, 27, 28, 29, 30, 31, 32, 33, 34, 35, 36, 37, 38, 39, 40, 41, 42, 43, 44, 45, 46, 47, 48, 49, 50, 51, 52, 53, 54, 55, 56, 57, 58, 59, 60, 61, 62, 63, 64, 65, 66, 67, 68, 69, 70, 71, 72, 73, 74, 142, 143, 144, 145, 146, 82, 83, 84, 85, 147, 4, 148, 149, 150, 151, 152, 153, 154, 155, 156, 112, 95, 96, 97, 113, 100, 101, 102, 103, 114, 115, 116, 117, 118, 119, 230, 231, 232, 233, 234, 235, 236, 237, 238, 239, 240, 241, 242, 243, 244, 245, 246, 247, 248, 249, 250, 251, 252, 253, 254, 255, 256, 257, 258, 259, 260, 261, 262, 263] (by decide +kernel) (by decide +kernel)
set_option maxRecDepth 20000 in
theorem gL_call_X7_pass : GoodIn wsL_call (wsV RL 42 RX7 yX7_pass wsX7_pass) := goodIn_app (goodIn_of _ (by decide +kernel)) ggL_call_X7_pass
set_option maxRecDepth 20000 in
theorem ggL_call_X7_play : GoodIn wsL_call wsX7_play := goodIn_r _ [160, 6, 7, 8, 9, 10, 11, 12, 13, 14, 15, 16, 17, 18, 19, 20, 21, 22, 23, 24, 25, 26, 27, 28, 29, 30, 31, 32, 33, 34, 35, 36, 37, 38, 39, 40, 41, 42, 43, 44, 45, 46, 47, 48, 49, 50, 51, 52, 53, 54, 55, 56, 57, 58, 59, 60, 61, 62, 63, 64, 65, 66, 67, 68, 69, 70, 71, 72, 73, 74, 161, 162, 163, 164, 128, 4, 129, 165, 166, 167, 168, 169, 170, 171, 172, 156, 83, 84, 85, 113, 100, 101, 102, 112, 95, 96, 97, 103, 130, 131, 132, 133, 134, 135, 136, 137, 173, 174, 175, 176, 114, 115, 116, 117, 118, 119, 230, 231, 232, 233, 234, 235, 236, 237, 238, 239, 240, 241, 242, 243, 244, 245, 246, 247, 248, 249, 250, 251, 252, 253, 254, 255, 256, 257, 258, 259, 260, 261, 262, 263] (by decide +kernel) (by decide +kernel)
set_option maxRecDepth 20000 in
theorem gL_call_X7_play : GoodIn wsL_call (wsV RL 45 RX7 yX7_play wsX7_play) := goodIn_app (goodIn_of _ (by decide +kernel)) ggL_call_X7_play
set_option maxRecDepth 20000 in
theorem ggL_call_X7_call : GoodIn wsL_call wsX7_call := goodIn_r _ [180, 6, 7, 8, 9, 10, 11, 12, 13, 14, 15, 16, 17, 18, 19, 20, 21, 22, 23, 24, 25, 26, 27, 28, 29, 30, 31, 32, 33, 34, 35, 36, 37, 38, 39, 40, 41, 42, 43, 44, 45, 46, 47, 48, 49, 50, 51, 52, 53, 54, 55, 56, 57, 58, 59, 60, 61, 62, 63, 64, 65, 66, 67, 68, 69, 70, 71, 72, 73, 74, 181, 182, 183, 184, 82, 83, 84, 85, 103, 95, 96, 97, 114, 115, 116, 117, 118, 119, 230, 231, 232, 233, 234, 235, 236, 237, 238, 239, 240, 241, 242, 243, 244, 245, 246, 247, 248, 249, 250, 251, 252, 253, 254, 255, 256, 257, 258, 259, 260, 261, 262, 263] (by decide +kernel) (by decide +kernel)
set_option maxRecDepth 20000 in
theorem gL_call_X7_call : GoodIn wsL_call (wsV RL 48 RX7 yX7_call wsX7_call) := goodIn_app (goodIn_of _ (by decide +kernel)) ggL_call_X7_call
set_option maxRecDepth 20000 in
theorem ggL_call_X7_night : GoodIn wsL_call wsX7_night := goodIn_r _ [188, 6, 7, 8, 9, 10, 11, 12, 13, 14, 15, 16, 17, 18, 19, 20, 21, 22, 23, 24, 25, 26, 27, 28, 29, 30, 31, 32, 33, 34, 35, 36, 37, 38, 39, 40, 41, 42, 43, 44, 45, 46, 47, 48, 49, 50, 51, 52, 53, 54, 55, 56, 57, 58, 59, 60, 61, 62, 63, 64, 65, 66, 67, 68, 69, 70, 71, 72, 73, 74, 189, 190, 191, 192, 152, 153, 154, 155, 156, 83, 84, 85, 112, 95, 96, 97, 113, 100, 101, 102, 103, 193, 194, 195, 82, 196, 197, 198, 199, 200, 201, 202, 203, 204, 205, 114, 115, 116, 117, 118, 119, 230, 231, 232, 233, 234, 235, 236, 237, 238, 239, 240, 241, 242, 243, 244, 245, 246, 247, 248, 249, 250, 251, 252, 253, 254, 255, 256, 257, 258, 259, 260, 261, 262, 263] (by decide +kernel) (by decide +kernel)
set_option maxRecDepth 20000 in
theorem gL_call_X7_night : GoodIn wsL_call (wsV RL 52 RX7 yX7_night wsX7_night) := goodIn_app (goodIn_of _ (by decide +kernel)) ggL_call_X7_night
set_option maxRecDepth 20000 in
theorem ggL_call_X7_loud : GoodIn wsL_call wsX7_loud := goodIn_r _ [209, 6, 7, 8, 9, 10, 11, 12, 13, 14, 15, 16, 17, 18, 19, 20, 21, 22, 23, 24, 25, 26, 27, 28, 29, 30, 31, 32, 33, 34, 35, 36, 37, 38, 39, 40, 41, 42, 43, 44, 45, 46, 47, 48, 49, 50, 51, 52, 53, 54, 55, 56, 57, 58, 59, 60, 61, 62, 63, 64, 65, 66, 67, 68, 69, 70, 71, 72, 73, 74, 210, 211, 212, 213, 80, 4, 81, 82, 83, 84, 85, 196, 100, 101, 102, 114, 115, 116, 117, 118, 119, 230, 231, 232, 233, 234, 235, 236, 237, 238, 239, 240, 241, 242, 243, 244, 245, 246, 247, 248, 249, 250, 251, 252, 253, 254, 255, 256, 257, 258, 259, 260, 261, 262, 263] (by decide +kernel) (by decide +kernel)
set_option maxRecDepth 20000 in
theorem gL_call_X7_loud : GoodIn wsL_call (wsV RL 55 RX7 yX7_loud wsX7_loud) := goodIn_app (goodIn_of _ (by decide +kernel)) ggL_call_X7_loud
set_option maxRecDepth 20000 in
theorem ggL_call_X7_pay : GoodIn wsL_call wsX7_pay := goodIn_r _ [217, 6, 7, 8, 9, 10, 11, 12, 13, 14, 15, 16, 17, 18, 19, 20, 21, 22, 23, 24, 25, 26, 27, 28, 29, 30, 31, 32, 33, 34, 35, 36, 37, 38, 39, 40, 41, 42, 43, 44, 45, 46, 47, 48, 49, 50, 51, 52, 53, 54, 55, 56, 57, 58, 59, 60, 61, 62, 63, 64, 65, 66, 67, 68, 69, 70, 71, 72, 73, 74, 218, 219, 220, 221, 80, 4, 81, 114, 115, 116, 117, 118, 119, 230, 231, 232, 233, 234, 235, 236, 237, 238, 239, 240, 241, 242, 243, 244, 245, 246, 247, 248, 249, 250, 251, 252, 253, 254, 255, 256, 257, 258, 259, 260, 261, 262, 263] (by decide +kernel) (by decide +kernel)
set_option maxRecDepth 20000 in
theorem gL_call_X7_pay : GoodIn wsL_call (wsV RL 59 RX7 yX7_pay wsX7_pay) := goodIn_app (goodIn_of _ (by decide +kernel)) ggL_call_X7_pay
set_option maxRecDepth 20000 in
theorem ggL_call_X7_set : GoodIn wsL_call wsX7_set := goodIn_r _ [225, 6, 7, 8, 9, 10, 11, 12, 13, 14, 15, 16, 17, 18, 19, 20, 21, 22, 23, 24, 25, 26, 27, 28, 29, 30, 31, 32, 33, 34, 35, 36, 37, 38, 39, 40, 41, 42, 43, 44, 45, 46, 47, 48, 49, 50, 51, 52, 53, 54, 55, 56, 57, 58, 59, 60, 61, 62, 63, 64, 65, 66, 67, 68, 69, 70, 71, 72, 73, 74, 226, 227, 228, 229, 82, 83, 84, 85, 196, 100, 101, 102, 114, 115, 116, 117, 118, 119, 230, 231, 232, 233, 234, 235, 236, 237, 238, 239, 240, 241, 242, 243, 244, 245, 246, 247, 248, 249, 250, 251, 252, 253, 254, 255, 256, 257, 258, 259, 260, 261, 262, 263] (by decide +kernel) (by decide +kernel)
set_option maxRecDepth 20000 in
theorem gL_call_X7_set : GoodIn wsL_call (wsV RL 62 RX7 yX7_set wsX7_set) := goodIn_app (goodIn_of _ (by decide +kernel)) ggL_call_X7_set
theorem dL_call_0 : decode cL_call 0 = .ok (.iload_n 1, 1) := by decide +kernel
theorem dL_call_1 : decode cL_call 1 = .ok (.tableswitch 94 0 7 #[47, 53, 59, 65, 71, 76, 81, 88], 47) := by decide +kernel
theorem dL_call_48 : decode cL_call 48 = .ok (.aload_n 0, 1) := by decide +kernel
theorem dL_call_49 : decode cL_call 49 = .ok (.iload_n 2, 1) := by decide +kernel
theorem dL_call_50 : decode cL_call 50 = .ok (.invokevirtual 34, 3) := by decide +kernel
theorem dL_call_53 : decode cL_call 53 = .ok (.ireturn, 1) := by decide +kernel
theorem dL_call_54 : decode cL_call 54 = .ok (.aload_n 0, 1) := by decide +kernel
theorem dL_call_55 : decode cL_call 55 = .ok (.iload_n 2, 1) := by decide +kernel
theorem dL_call_56 : decode cL_call 56 = .ok (.invokevirtual 40, 3) := by decide +kernel
theorem dL_call_59 : decode cL_call 59 = .ok (.ireturn, 1) := by decide +kernel
theorem dL_call_60 : decode cL_call 60 = .ok (.aload_n 0, 1) := by decide +kernel
theorem dL_call_61 : decode cL_call 61 = .ok (.iload_n 2, 1) := by decide +kernel
theorem dL_call_62 : decode cL_call 62 = .ok (.invokevirtual 42, 3) := by decide +kernel
theorem dL_call_65 : decode cL_call 65 = .ok (.ireturn, 1) := by decide +kernel
theorem dL_call_66 : decode cL_call 66 = .ok (.aload_n 0, 1) := by decide +kernel
theorem dL_call_67 : decode cL_call 67 = .ok (.iload_n 2, 1) := by decide +kernel
theorem dL_call_68 : decode cL_call 68 = .ok (.invokevirtual 45, 3) := by decide +kernel
theorem dL_call_71 : decode cL_call 71 = .ok (.ireturn, 1) := by decide +kernel
theorem dL_call_72 : decode cL_call 72 = .ok (.aload_n 0, 1) := by decide +kernel
theorem dL_call_73 : decode cL_call 73 = .ok (.invokevirtual 48, 3) := by decide +kernel
theorem dL_call_76 : decode cL_call 76 = .ok (.ireturn, 1) := by decide +kernel
theorem dL_call_77 : decode cL_call 77 = .ok (.aload_n 0, 1) := by decide +kernel
theorem dL_call_78 : decode cL_call 78 = .ok (.invokevirtual 52, 3) := by decide +kernel
theorem dL_call_81 : decode cL_call 81 = .ok (.ireturn, 1) := by decide +kernel
theorem dL_call_82 : decode cL_call 82 = .ok (.aload_n 0, 1) := by decide +kernel
theorem dL_call_83 : decode cL_call 83 = .ok (.iload_n 2, 1) := by decide +kernel
theorem dL_call_84 : decode cL_call 84 = .ok (.iload_n 3, 1) := by decide +kernel
theorem dL_call_85 : decode cL_call 85 = .ok (.invokevirtual 55, 3) := by decide +kernel
theorem dL_call_88 : decode cL_call 88 = .ok (.ireturn, 1) := by decide +kernel
theorem dL_call_89 : decode cL_call 89 = .ok (.aload_n 0, 1) := by decide +kernel
theorem dL_call_90 : decode cL_call 90 = .ok (.iload_n 2, 1) := by decide +kernel
theorem dL_call_91 : decode cL_call 91 = .ok (.invokevirtual 59, 3) := by decide +kernel
theorem dL_call_94 : decode cL_call 94 = .ok (.ireturn, 1) := by decide +kernel
theorem dL_call_95 : decode cL_call 95 = .ok (.aload_n 0, 1) := by decide +kernel
theorem dL_call_96 : decode cL_call 96 = .ok (.iload_n 2, 1) := by decide +kernel
theorem dL_call_97 : decode cL_call 97 = .ok (.iload_n 3, 1) := by decide +kernel
theorem dL_call_98 : decode cL_call 98 = .ok (.invokevirtual 62, 3) := by decide +kernel
theorem dL_call_101 : decode cL_call 101 = .ok (.ireturn, 1) := by decide +kernel
set_option maxRecDepth 20000 in
theorem ggL_ofRest_L_seats : GoodIn wsL_ofRest wsL_seats := goodIn_r _ [4] (by decide +kernel) (by decide +kernel)
set_option maxRecDepth 20000 in
theorem gL_ofRest_L_seats : GoodIn wsL_ofRest (va_wsS RL 65 yL_seats wsL_seats) := goodIn_app (goodIn_of _ (by decide +kernel)) ggL_ofRest_L_seats
theorem dL_ofRest_0 : decode cL_ofRest 0 = .ok (.iload_n 0, 1) := by decide +kernel
theorem dL_ofRest_1 : decode cL_ofRest 1 = .ok (.iconst 4, 1) := by decide +kernel
theorem dL_ofRest_2 : decode cL_ofRest 2 = .ok (.if_icmp .ne 37, 3) := by decide +kernel
theorem dL_ofRest_5 : decode cL_ofRest 5 = .ok (.aload_n 3, 1) := by decide +kernel
theorem dL_ofRest_6 : decode cL_ofRest 6 = .ok (.bipush 6, 2) := by decide +kernel
theorem dL_ofRest_8 : decode cL_ofRest 8 = .ok (.iaload, 1) := by decide +kernel
theorem dL_ofRest_9 : decode cL_ofRest 9 = .ok (.aload_n 3, 1) := by decide +kernel
theorem dL_ofRest_10 : decode cL_ofRest 10 = .ok (.iconst 5, 1) := by decide +kernel
theorem dL_ofRest_11 : decode cL_ofRest 11 = .ok (.iaload, 1) := by decide +kernel
theorem dL_ofRest_12 : decode cL_ofRest 12 = .ok (.if_icmp .ge 6, 3) := by decide +kernel
theorem dL_ofRest_15 : decode cL_ofRest 15 = .ok (.bipush (-5), 2) := by decide +kernel
theorem dL_ofRest_17 : decode cL_ofRest 17 = .ok (.ireturn, 1) := by decide +kernel
theorem dL_ofRest_18 : decode cL_ofRest 18 = .ok (.aload_n 3, 1) := by decide +kernel
theorem dL_ofRest_19 : decode cL_ofRest 19 = .ok (.bipush 6, 2) := by decide +kernel
theorem dL_ofRest_21 : decode cL_ofRest 21 = .ok (.dup2, 1) := by decide +kernel
theorem dL_ofRest_22 : decode cL_ofRest 22 = .ok (.iaload, 1) := by decide +kernel
theorem dL_ofRest_23 : decode cL_ofRest 23 = .ok (.iconst 2, 1) := by decide +kernel
theorem dL_ofRest_24 : decode cL_ofRest 24 = .ok (.idiv, 1) := by decide +kernel
theorem dL_ofRest_25 : decode cL_ofRest 25 = .ok (.iastore, 1) := by decide +kernel
theorem dL_ofRest_26 : decode cL_ofRest 26 = .ok (.aload_n 3, 1) := by decide +kernel
theorem dL_ofRest_27 : decode cL_ofRest 27 = .ok (.bipush 12, 2) := by decide +kernel
theorem dL_ofRest_29 : decode cL_ofRest 29 = .ok (.dup2, 1) := by decide +kernel
theorem dL_ofRest_30 : decode cL_ofRest 30 = .ok (.iaload, 1) := by decide +kernel
theorem dL_ofRest_31 : decode cL_ofRest 31 = .ok (.iconst 1, 1) := by decide +kernel
theorem dL_ofRest_32 : decode cL_ofRest 32 = .ok (.iadd, 1) := by decide +kernel
theorem dL_ofRest_33 : decode cL_ofRest 33 = .ok (.iastore, 1) := by decide +kernel
theorem dL_ofRest_34 : decode cL_ofRest 34 = .ok (.aload_n 3, 1) := by decide +kernel
theorem dL_ofRest_35 : decode cL_ofRest 35 = .ok (.bipush 6, 2) := by decide +kernel
theorem dL_ofRest_37 : decode cL_ofRest 37 = .ok (.iaload, 1) := by decide +kernel
theorem dL_ofRest_38 : decode cL_ofRest 38 = .ok (.ireturn, 1) := by decide +kernel
theorem dL_ofRest_39 : decode cL_ofRest 39 = .ok (.iload_n 0, 1) := by decide +kernel
theorem dL_ofRest_40 : decode cL_ofRest 40 = .ok (.bipush 6, 2) := by decide +kernel
theorem dL_ofRest_42 : decode cL_ofRest 42 = .ok (.if_icmp .ne 13, 3) := by decide +kernel
theorem dL_ofRest_45 : decode cL_ofRest 45 = .ok (.aload 4, 2) := by decide +kernel
theorem dL_ofRest_47 : decode cL_ofRest 47 = .ok (.iload_n 1, 1) := by decide +kernel
theorem dL_ofRest_48 : decode cL_ofRest 48 = .ok (.iaload, 1) := by decide +kernel
theorem dL_ofRest_49 : decode cL_ofRest 49 = .ok (.bipush 15, 2) := by decide +kernel
theorem dL_ofRest_51 : decode cL_ofRest 51 = .ok (.iand, 1) := by decide +kernel
theorem dL_ofRest_52 : decode cL_ofRest 52 = .ok (.goto 9, 3) := by decide +kernel
theorem dL_ofRest_55 : decode cL_ofRest 55 = .ok (.aload_n 3, 1) := by decide +kernel
theorem dL_ofRest_56 : decode cL_ofRest 56 = .ok (.iload_n 1, 1) := by decide +kernel
theorem dL_ofRest_57 : decode cL_ofRest 57 = .ok (.bipush 6, 2) := by decide +kernel
theorem dL_ofRest_59 : decode cL_ofRest 59 = .ok (.irem, 1) := by decide +kernel
theorem dL_ofRest_60 : decode cL_ofRest 60 = .ok (.iaload, 1) := by decide +kernel
theorem dL_ofRest_61 : decode cL_ofRest 61 = .ok (.istore 6, 2) := by decide +kernel
theorem dL_ofRest_63 : decode cL_ofRest 63 = .ok (.iload_n 0, 1) := by decide +kernel
theorem dL_ofRest_64 : decode cL_ofRest 64 = .ok (.bipush 6, 2) := by decide +kernel
theorem dL_ofRest_66 : decode cL_ofRest 66 = .ok (.if_icmp .ne 19, 3) := by decide +kernel
theorem dL_ofRest_69 : decode cL_ofRest 69 = .ok (.aload 4, 2) := by decide +kernel
theorem dL_ofRest_71 : decode cL_ofRest 71 = .ok (.iload_n 1, 1) := by decide +kernel
theorem dL_ofRest_72 : decode cL_ofRest 72 = .ok (.aload 4, 2) := by decide +kernel
theorem dL_ofRest_74 : decode cL_ofRest 74 = .ok (.iload_n 1, 1) := by decide +kernel
theorem dL_ofRest_75 : decode cL_ofRest 75 = .ok (.iaload, 1) := by decide +kernel
theorem dL_ofRest_76 : decode cL_ofRest 76 = .ok (.iload 6, 2) := by decide +kernel
theorem dL_ofRest_78 : decode cL_ofRest 78 = .ok (.isub, 1) := by decide +kernel
theorem dL_ofRest_79 : decode cL_ofRest 79 = .ok (.iload_n 2, 1) := by decide +kernel
theorem dL_ofRest_80 : decode cL_ofRest 80 = .ok (.iadd, 1) := by decide +kernel
theorem dL_ofRest_81 : decode cL_ofRest 81 = .ok (.iastore, 1) := by decide +kernel
theorem dL_ofRest_82 : decode cL_ofRest 82 = .ok (.iload 6, 2) := by decide +kernel
theorem dL_ofRest_84 : decode cL_ofRest 84 = .ok (.ireturn, 1) := by decide +kernel
theorem dL_ofRest_85 : decode cL_ofRest 85 = .ok (.iload_n 0, 1) := by decide +kernel
theorem dL_ofRest_86 : decode cL_ofRest 86 = .ok (.bipush 7, 2) := by decide +kernel
theorem dL_ofRest_88 : decode cL_ofRest 88 = .ok (.if_icmp .ne 22, 3) := by decide +kernel
theorem dL_ofRest_91 : decode cL_ofRest 91 = .ok (.aload 4, 2) := by decide +kernel
theorem dL_ofRest_93 : decode cL_ofRest 93 = .ok (.iload_n 1, 1) := by decide +kernel
theorem dL_ofRest_94 : decode cL_ofRest 94 = .ok (.dup2, 1) := by decide +kernel
theorem dL_ofRest_95 : decode cL_ofRest 95 = .ok (.iaload, 1) := by decide +kernel
theorem dL_ofRest_96 : decode cL_ofRest 96 = .ok (.bipush 16, 2) := by decide +kernel
theorem dL_ofRest_98 : decode cL_ofRest 98 = .ok (.ixor, 1) := by decide +kernel
theorem dL_ofRest_99 : decode cL_ofRest 99 = .ok (.iastore, 1) := by decide +kernel
theorem dL_ofRest_100 : decode cL_ofRest 100 = .ok (.iconst 1, 1) := by decide +kernel
theorem dL_ofRest_101 : decode cL_ofRest 101 = .ok (.iconst 0, 1) := by decide +kernel
theorem dL_ofRest_102 : decode cL_ofRest 102 = .ok (.aload 4, 2) := by decide +kernel
theorem dL_ofRest_104 : decode cL_ofRest 104 = .ok (.aload 5, 2) := by decide +kernel
theorem dL_ofRest_106 : decode cL_ofRest 106 = .ok (.invokestatic 65, 3) := by decide +kernel
theorem dL_ofRest_109 : decode cL_ofRest 109 = .ok (.ireturn, 1) := by decide +kernel
theorem dL_ofRest_110 : decode cL_ofRest 110 = .ok (.aload_n 3, 1) := by decide +kernel
theorem dL_ofRest_111 : decode cL_ofRest 111 = .ok (.iload_n 1, 1) := by decide +kernel
theorem dL_ofRest_112 : decode cL_ofRest 112 = .ok (.iload_n 2, 1) := by decide +kernel
theorem dL_ofRest_113 : decode cL_ofRest 113 = .ok (.iastore, 1) := by decide +kernel
theorem dL_ofRest_114 : decode cL_ofRest 114 = .ok (.iload 6, 2) := by decide +kernel
theorem dL_ofRest_116 : decode cL_ofRest 116 = .ok (.ireturn, 1) := by decide +kernel
theorem dL_sum_0 : decode cL_sum 0 = .ok (.iconst 0, 1) := by decide +kernel
theorem dL_sum_1 : decode cL_sum 1 = .ok (.istore_n 2, 1) := by decide +kernel
theorem dL_sum_2 : decode cL_sum 2 = .ok (.iload_n 0, 1) := by decide +kernel
theorem dL_sum_3 : decode cL_sum 3 = .ok (.istore_n 3, 1) := by decide +kernel
theorem dL_sum_4 : decode cL_sum 4 = .ok (.iload_n 3, 1) := by decide +kernel
theorem dL_sum_5 : decode cL_sum 5 = .ok (.bipush 18, 2) := by decide +kernel
theorem dL_sum_7 : decode cL_sum 7 = .ok (.if_icmp .ge 15, 3) := by decide +kernel
theorem dL_sum_10 : decode cL_sum 10 = .ok (.iload_n 2, 1) := by decide +kernel
theorem dL_sum_11 : decode cL_sum 11 = .ok (.aload_n 1, 1) := by decide +kernel
theorem dL_sum_12 : decode cL_sum 12 = .ok (.iload_n 3, 1) := by decide +kernel
theorem dL_sum_13 : decode cL_sum 13 = .ok (.iaload, 1) := by decide +kernel
theorem dL_sum_14 : decode cL_sum 14 = .ok (.iadd, 1) := by decide +kernel
theorem dL_sum_15 : decode cL_sum 15 = .ok (.istore_n 2, 1) := by decide +kernel
theorem dL_sum_16 : decode cL_sum 16 = .ok (.iinc 3 3, 3) := by decide +kernel
theorem dL_sum_19 : decode cL_sum 19 = .ok (.goto (-15), 3) := by decide +kernel
theorem dL_sum_22 : decode cL_sum 22 = .ok (.iload_n 2, 1) := by decide +kernel
theorem dL_sum_23 : decode cL_sum 23 = .ok (.ireturn, 1) := by decide +kernel
set_option maxRecDepth 20000 in
theorem ggL_isSeat_X7_of : GoodIn wsL_isSeat wsX7_of := goodIn_r _ [5, 6, 7, 8, 9, 10, 11, 12, 13, 14, 4, 15, 16, 17, 18, 19, 20, 21, 22, 23, 24, 25, 26, 27, 50, 51, 52, 53, 54, 55, 56, 57, 58, 59, 60, 61, 62, 63, 64, 65, 66, 67, 68, 69, 70, 71, 72, 73, 74] (by decide +kernel) (by decide +kernel)
set_option maxRecDepth 20000 in
theorem gL_isSeat_X7_of : GoodIn wsL_isSeat (wsV RL 69 RX7 yX7_of wsX7_of) := goodIn_app (goodIn_of _ (by decide +kernel)) ggL_isSeat_X7_of
set_option maxRecDepth 20000 in
theorem ggL_isSeat_X7_clapsFor : GoodIn wsL_isSeat wsX7_clapsFor := goodIn_r _ [31, 6, 32, 33, 34, 10, 35, 36, 37, 12, 13, 38, 14, 4, 15, 16, 17, 18, 19, 20, 21, 50, 51, 52, 53, 54, 55, 56, 57, 58, 59, 60, 61, 62, 63, 64, 65, 66, 67, 68, 69, 70, 71, 72, 73, 74] (by decide +kernel) (by decide +kernel)
set_option maxRecDepth 20000 in
theorem gL_isSeat_X7_clapsFor : GoodIn wsL_isSeat (wsV RL 72 RX7 yX7_clapsFor wsX7_clapsFor) := goodIn_app (goodIn_of _ (by decide +kernel)) ggL_isSeat_X7_clapsFor
set_option maxRecDepth 20000 in
theorem ggL_isSeat_X7_clapper : GoodIn wsL_isSeat wsX7_clapper := goodIn_r _ [42, 6, 43, 44, 45, 25, 46, 47, 48, 49, 17, 18, 19, 20, 21, 50, 51, 52, 53, 54, 55, 56, 57, 58, 59, 60, 61, 62, 63, 64, 65, 66, 67, 68, 69, 70, 71, 72, 73, 74] (by decide +kernel) (by decide +kernel)
set_option maxRecDepth 20000 in
theorem gL_isSeat_X7_clapper : GoodIn wsL_isSeat (wsV RL 75 RX7 yX7_clapper wsX7_clapper) := goodIn_app (goodIn_of _ (by decide +kernel)) ggL_isSeat_X7_clapper
theorem dL_isSeat_0 : decode cL_isSeat 0 = .ok (.bipush 10, 2) := by decide +kernel
theorem dL_isSeat_2 : decode cL_isSeat 2 = .ok (.aload 4, 2) := by decide +kernel
theorem dL_isSeat_4 : decode cL_isSeat 4 = .ok (.iload_n 1, 1) := by decide +kernel
theorem dL_isSeat_5 : decode cL_isSeat 5 = .ok (.iaload, 1) := by decide +kernel
theorem dL_isSeat_6 : decode cL_isSeat 6 = .ok (.bipush 15, 2) := by decide +kernel
theorem dL_isSeat_8 : decode cL_isSeat 8 = .ok (.iand, 1) := by decide +kernel
theorem dL_isSeat_9 : decode cL_isSeat 9 = .ok (.imul, 1) := by decide +kernel
theorem dL_isSeat_10 : decode cL_isSeat 10 = .ok (.istore 9, 2) := by decide +kernel
theorem dL_isSeat_12 : decode cL_isSeat 12 = .ok (.aload_n 3, 1) := by decide +kernel
theorem dL_isSeat_13 : decode cL_isSeat 13 = .ok (.iconst 1, 1) := by decide +kernel
theorem dL_isSeat_14 : decode cL_isSeat 14 = .ok (.iaload, 1) := by decide +kernel
theorem dL_isSeat_15 : decode cL_isSeat 15 = .ok (.aload_n 3, 1) := by decide +kernel
theorem dL_isSeat_16 : decode cL_isSeat 16 = .ok (.bipush 6, 2) := by decide +kernel
theorem dL_isSeat_18 : decode cL_isSeat 18 = .ok (.iaload, 1) := by decide +kernel
theorem dL_isSeat_19 : decode cL_isSeat 19 = .ok (.isub, 1) := by decide +kernel
theorem dL_isSeat_20 : decode cL_isSeat 20 = .ok (.iload 9, 2) := by decide +kernel
theorem dL_isSeat_22 : decode cL_isSeat 22 = .ok (.iadd, 1) := by decide +kernel
theorem dL_isSeat_23 : decode cL_isSeat 23 = .ok (.iconst 1, 1) := by decide +kernel
theorem dL_isSeat_24 : decode cL_isSeat 24 = .ok (.isub, 1) := by decide +kernel
theorem dL_isSeat_25 : decode cL_isSeat 25 = .ok (.iload 9, 2) := by decide +kernel
theorem dL_isSeat_27 : decode cL_isSeat 27 = .ok (.idiv, 1) := by decide +kernel
theorem dL_isSeat_28 : decode cL_isSeat 28 = .ok (.istore 10, 2) := by decide +kernel
theorem dL_isSeat_30 : decode cL_isSeat 30 = .ok (.aload_n 3, 1) := by decide +kernel
theorem dL_isSeat_31 : decode cL_isSeat 31 = .ok (.bipush 13, 2) := by decide +kernel
theorem dL_isSeat_33 : decode cL_isSeat 33 = .ok (.iaload, 1) := by decide +kernel
theorem dL_isSeat_34 : decode cL_isSeat 34 = .ok (.ifCond .lt 14, 3) := by decide +kernel
theorem dL_isSeat_37 : decode cL_isSeat 37 = .ok (.aload_n 3, 1) := by decide +kernel
theorem dL_isSeat_38 : decode cL_isSeat 38 = .ok (.bipush 15, 2) := by decide +kernel
theorem dL_isSeat_40 : decode cL_isSeat 40 = .ok (.iaload, 1) := by decide +kernel
theorem dL_isSeat_41 : decode cL_isSeat 41 = .ok (.ifCond .ne 7, 3) := by decide +kernel
theorem dL_isSeat_44 : decode cL_isSeat 44 = .ok (.iconst 1, 1) := by decide +kernel
theorem dL_isSeat_45 : decode cL_isSeat 45 = .ok (.goto 4, 3) := by decide +kernel
theorem dL_isSeat_48 : decode cL_isSeat 48 = .ok (.iconst 0, 1) := by decide +kernel
theorem dL_isSeat_49 : decode cL_isSeat 49 = .ok (.istore 11, 2) := by decide +kernel
theorem dL_isSeat_51 : decode cL_isSeat 51 = .ok (.aload_n 0, 1) := by decide +kernel
theorem dL_isSeat_52 : decode cL_isSeat 52 = .ok (.iload_n 1, 1) := by decide +kernel
theorem dL_isSeat_53 : decode cL_isSeat 53 = .ok (.iconst 0, 1) := by decide +kernel
theorem dL_isSeat_54 : decode cL_isSeat 54 = .ok (.invokevirtual 69, 3) := by decide +kernel
theorem dL_isSeat_57 : decode cL_isSeat 57 = .ok (.aload 4, 2) := by decide +kernel
theorem dL_isSeat_59 : decode cL_isSeat 59 = .ok (.iload_n 1, 1) := by decide +kernel
theorem dL_isSeat_60 : decode cL_isSeat 60 = .ok (.iaload, 1) := by decide +kernel
theorem dL_isSeat_61 : decode cL_isSeat 61 = .ok (.bipush 15, 2) := by decide +kernel
theorem dL_isSeat_63 : decode cL_isSeat 63 = .ok (.iand, 1) := by decide +kernel
theorem dL_isSeat_64 : decode cL_isSeat 64 = .ok (.if_icmp .ne 103, 3) := by decide +kernel
theorem dL_isSeat_67 : decode cL_isSeat 67 = .ok (.aload_n 0, 1) := by decide +kernel
theorem dL_isSeat_68 : decode cL_isSeat 68 = .ok (.iload_n 1, 1) := by decide +kernel
theorem dL_isSeat_69 : decode cL_isSeat 69 = .ok (.iconst 1, 1) := by decide +kernel
theorem dL_isSeat_70 : decode cL_isSeat 70 = .ok (.invokevirtual 69, 3) := by decide +kernel
theorem dL_isSeat_73 : decode cL_isSeat 73 = .ok (.aload 4, 2) := by decide +kernel
theorem dL_isSeat_75 : decode cL_isSeat 75 = .ok (.iload_n 1, 1) := by decide +kernel
theorem dL_isSeat_76 : decode cL_isSeat 76 = .ok (.iaload, 1) := by decide +kernel
theorem dL_isSeat_77 : decode cL_isSeat 77 = .ok (.iconst 4, 1) := by decide +kernel
theorem dL_isSeat_78 : decode cL_isSeat 78 = .ok (.ishr, 1) := by decide +kernel
theorem dL_isSeat_79 : decode cL_isSeat 79 = .ok (.iconst 1, 1) := by decide +kernel
theorem dL_isSeat_80 : decode cL_isSeat 80 = .ok (.iand, 1) := by decide +kernel
theorem dL_isSeat_81 : decode cL_isSeat 81 = .ok (.if_icmp .ne 86, 3) := by decide +kernel
theorem dL_isSeat_84 : decode cL_isSeat 84 = .ok (.aload_n 0, 1) := by decide +kernel
theorem dL_isSeat_85 : decode cL_isSeat 85 = .ok (.iload_n 1, 1) := by decide +kernel
theorem dL_isSeat_86 : decode cL_isSeat 86 = .ok (.iconst 2, 1) := by decide +kernel
theorem dL_isSeat_87 : decode cL_isSeat 87 = .ok (.invokevirtual 69, 3) := by decide +kernel
theorem dL_isSeat_90 : decode cL_isSeat 90 = .ok (.aload 5, 2) := by decide +kernel
theorem dL_isSeat_92 : decode cL_isSeat 92 = .ok (.iload_n 1, 1) := by decide +kernel
theorem dL_isSeat_93 : decode cL_isSeat 93 = .ok (.iaload, 1) := by decide +kernel
theorem dL_isSeat_94 : decode cL_isSeat 94 = .ok (.aload_n 3, 1) := by decide +kernel
theorem dL_isSeat_95 : decode cL_isSeat 95 = .ok (.iconst 4, 1) := by decide +kernel
theorem dL_isSeat_96 : decode cL_isSeat 96 = .ok (.iaload, 1) := by decide +kernel
theorem dL_isSeat_97 : decode cL_isSeat 97 = .ok (.if_icmp .lt 7, 3) := by decide +kernel
theorem dL_isSeat_100 : decode cL_isSeat 100 = .ok (.iconst 1, 1) := by decide +kernel
theorem dL_isSeat_101 : decode cL_isSeat 101 = .ok (.goto 4, 3) := by decide +kernel
theorem dL_isSeat_104 : decode cL_isSeat 104 = .ok (.iconst 0, 1) := by decide +kernel
theorem dL_isSeat_105 : decode cL_isSeat 105 = .ok (.if_icmp .ne 62, 3) := by decide +kernel
theorem dL_isSeat_108 : decode cL_isSeat 108 = .ok (.aload_n 0, 1) := by decide +kernel
theorem dL_isSeat_109 : decode cL_isSeat 109 = .ok (.iload_n 1, 1) := by decide +kernel
theorem dL_isSeat_110 : decode cL_isSeat 110 = .ok (.iconst 3, 1) := by decide +kernel
theorem dL_isSeat_111 : decode cL_isSeat 111 = .ok (.invokevirtual 69, 3) := by decide +kernel
theorem dL_isSeat_114 : decode cL_isSeat 114 = .ok (.aload 5, 2) := by decide +kernel
theorem dL_isSeat_116 : decode cL_isSeat 116 = .ok (.iload_n 1, 1) := by decide +kernel
theorem dL_isSeat_117 : decode cL_isSeat 117 = .ok (.iaload, 1) := by decide +kernel
theorem dL_isSeat_118 : decode cL_isSeat 118 = .ok (.if_icmp .ne 49, 3) := by decide +kernel
theorem dL_isSeat_121 : decode cL_isSeat 121 = .ok (.aload_n 0, 1) := by decide +kernel
theorem dL_isSeat_122 : decode cL_isSeat 122 = .ok (.iload_n 1, 1) := by decide +kernel
theorem dL_isSeat_123 : decode cL_isSeat 123 = .ok (.iconst 4, 1) := by decide +kernel
theorem dL_isSeat_124 : decode cL_isSeat 124 = .ok (.invokevirtual 69, 3) := by decide +kernel
theorem dL_isSeat_127 : decode cL_isSeat 127 = .ok (.aload 6, 2) := by decide +kernel
theorem dL_isSeat_129 : decode cL_isSeat 129 = .ok (.iload_n 1, 1) := by decide +kernel
theorem dL_isSeat_130 : decode cL_isSeat 130 = .ok (.iaload, 1) := by decide +kernel
theorem dL_isSeat_131 : decode cL_isSeat 131 = .ok (.if_icmp .ne 36, 3) := by decide +kernel
theorem dL_isSeat_134 : decode cL_isSeat 134 = .ok (.aload_n 0, 1) := by decide +kernel
theorem dL_isSeat_135 : decode cL_isSeat 135 = .ok (.iload_n 1, 1) := by decide +kernel
theorem dL_isSeat_136 : decode cL_isSeat 136 = .ok (.iconst 5, 1) := by decide +kernel
theorem dL_isSeat_137 : decode cL_isSeat 137 = .ok (.invokevirtual 69, 3) := by decide +kernel
theorem dL_isSeat_140 : decode cL_isSeat 140 = .ok (.aload 4, 2) := by decide +kernel
theorem dL_isSeat_142 : decode cL_isSeat 142 = .ok (.iload_n 1, 1) := by decide +kernel
theorem dL_isSeat_143 : decode cL_isSeat 143 = .ok (.iaload, 1) := by decide +kernel
theorem dL_isSeat_144 : decode cL_isSeat 144 = .ok (.iconst 5, 1) := by decide +kernel
theorem dL_isSeat_145 : decode cL_isSeat 145 = .ok (.ishr, 1) := by decide +kernel
theorem dL_isSeat_146 : decode cL_isSeat 146 = .ok (.if_icmp .ne 21, 3) := by decide +kernel
theorem dL_isSeat_149 : decode cL_isSeat 149 = .ok (.aload_n 0, 1) := by decide +kernel
theorem dL_isSeat_150 : decode cL_isSeat 150 = .ok (.iload_n 1, 1) := by decide +kernel
theorem dL_isSeat_151 : decode cL_isSeat 151 = .ok (.bipush 6, 2) := by decide +kernel
theorem dL_isSeat_153 : decode cL_isSeat 153 = .ok (.invokevirtual 69, 3) := by decide +kernel
theorem dL_isSeat_156 : decode cL_isSeat 156 = .ok (.aload 7, 2) := by decide +kernel
theorem dL_isSeat_158 : decode cL_isSeat 158 = .ok (.iload_n 1, 1) := by decide +kernel
theorem dL_isSeat_159 : decode cL_isSeat 159 = .ok (.iaload, 1) := by decide +kernel
theorem dL_isSeat_160 : decode cL_isSeat 160 = .ok (.if_icmp .ne 7, 3) := by decide +kernel
theorem dL_isSeat_163 : decode cL_isSeat 163 = .ok (.iconst 1, 1) := by decide +kernel
theorem dL_isSeat_164 : decode cL_isSeat 164 = .ok (.goto 4, 3) := by decide +kernel
theorem dL_isSeat_167 : decode cL_isSeat 167 = .ok (.iconst 0, 1) := by decide +kernel
theorem dL_isSeat_168 : decode cL_isSeat 168 = .ok (.istore 12, 2) := by decide +kernel
theorem dL_isSeat_170 : decode cL_isSeat 170 = .ok (.iload 12, 2) := by decide +kernel
theorem dL_isSeat_172 : decode cL_isSeat 172 = .ok (.ifCond .eq 61, 3) := by decide +kernel
theorem dL_isSeat_175 : decode cL_isSeat 175 = .ok (.aload_n 0, 1) := by decide +kernel
theorem dL_isSeat_176 : decode cL_isSeat 176 = .ok (.iload_n 1, 1) := by decide +kernel
theorem dL_isSeat_177 : decode cL_isSeat 177 = .ok (.invokevirtual 72, 3) := by decide +kernel
theorem dL_isSeat_180 : decode cL_isSeat 180 = .ok (.iload 11, 2) := by decide +kernel
theorem dL_isSeat_182 : decode cL_isSeat 182 = .ok (.ifCond .ne 8, 3) := by decide +kernel
theorem dL_isSeat_185 : decode cL_isSeat 185 = .ok (.bipush (-5), 2) := by decide +kernel
theorem dL_isSeat_187 : decode cL_isSeat 187 = .ok (.goto 15, 3) := by decide +kernel
theorem dL_isSeat_190 : decode cL_isSeat 190 = .ok (.iload 10, 2) := by decide +kernel
theorem dL_isSeat_192 : decode cL_isSeat 192 = .ok (.iconst 1, 1) := by decide +kernel
theorem dL_isSeat_193 : decode cL_isSeat 193 = .ok (.if_icmp .ge 7, 3) := by decide +kernel
theorem dL_isSeat_196 : decode cL_isSeat 196 = .ok (.iconst 1, 1) := by decide +kernel
theorem dL_isSeat_197 : decode cL_isSeat 197 = .ok (.goto 5, 3) := by decide +kernel
theorem dL_isSeat_200 : decode cL_isSeat 200 = .ok (.iload 10, 2) := by decide +kernel
theorem dL_isSeat_202 : decode cL_isSeat 202 = .ok (.if_icmp .ne 31, 3) := by decide +kernel
theorem dL_isSeat_205 : decode cL_isSeat 205 = .ok (.aload_n 0, 1) := by decide +kernel
theorem dL_isSeat_206 : decode cL_isSeat 206 = .ok (.iload_n 2, 1) := by decide +kernel
theorem dL_isSeat_207 : decode cL_isSeat 207 = .ok (.invokevirtual 75, 3) := by decide +kernel
theorem dL_isSeat_210 : decode cL_isSeat 210 = .ok (.iload_n 2, 1) := by decide +kernel
theorem dL_isSeat_211 : decode cL_isSeat 211 = .ok (.aload_n 3, 1) := by decide +kernel
theorem dL_isSeat_212 : decode cL_isSeat 212 = .ok (.bipush 17, 2) := by decide +kernel
theorem dL_isSeat_214 : decode cL_isSeat 214 = .ok (.iaload, 1) := by decide +kernel
theorem dL_isSeat_215 : decode cL_isSeat 215 = .ok (.if_icmp .ge 10, 3) := by decide +kernel
theorem dL_isSeat_218 : decode cL_isSeat 218 = .ok (.aload 8, 2) := by decide +kernel
theorem dL_isSeat_220 : decode cL_isSeat 220 = .ok (.iload_n 2, 1) := by decide +kernel
theorem dL_isSeat_221 : decode cL_isSeat 221 = .ok (.iaload, 1) := by decide +kernel
theorem dL_isSeat_222 : decode cL_isSeat 222 = .ok (.goto 4, 3) := by decide +kernel
theorem dL_isSeat_225 : decode cL_isSeat 225 = .ok (.iconst (-1), 1) := by decide +kernel
theorem dL_isSeat_226 : decode cL_isSeat 226 = .ok (.if_icmp .ne 7, 3) := by decide +kernel
theorem dL_isSeat_229 : decode cL_isSeat 229 = .ok (.iconst 1, 1) := by decide +kernel
theorem dL_isSeat_230 : decode cL_isSeat 230 = .ok (.goto 4, 3) := by decide +kernel
theorem dL_isSeat_233 : decode cL_isSeat 233 = .ok (.iconst 0, 1) := by decide +kernel
theorem dL_isSeat_234 : decode cL_isSeat 234 = .ok (.ireturn, 1) := by decide +kernel
set_option maxRecDepth 20000 in
theorem ggL_isSo_X7_count : GoodIn wsL_isSo wsX7_count := goodIn_r _ [5, 6, 7, 8, 9, 10, 11, 12, 13, 14, 15, 16, 17, 18, 19, 20, 21, 22, 23, 24, 25, 26, 27, 28, 29, 30, 31, 32, 33, 34, 35, 36, 37, 38, 39, 40, 41, 42, 43, 44, 45, 46, 47, 48, 49, 50, 51, 52, 53, 54, 55, 200, 201, 202, 203, 204, 205, 206, 207, 208, 209, 210, 211, 212, 213, 214, 215, 216, 217, 218, 219, 220, 221, 222, 223, 224, 225, 226, 227, 228, 229, 230, 231, 232, 233, 234, 235] (by decide +kernel) (by decide +kernel)
set_option maxRecDepth 20000 in
theorem gL_isSo_X7_count : GoodIn wsL_isSo (wsV RL 78 RX7 yX7_count wsX7_count) := goodIn_app (goodIn_of _ (by decide +kernel)) ggL_isSo_X7_count
set_option maxRecDepth 20000 in
theorem ggL_isSo_L_sum : GoodIn wsL_isSo wsL_sum := goodIn_r _ [59] (by decide +kernel) (by decide +kernel)
set_option maxRecDepth 20000 in
theorem gL_isSo_L_sum : GoodIn wsL_isSo (va_wsS RL 81 yL_sum wsL_sum) := goodIn_app (goodIn_of _ (by decide +kernel)) ggL_isSo_L_sum
set_option maxRecDepth 20000 in
theorem ggL_isSo_L_seats : GoodIn wsL_isSo wsL_seats := goodIn_r _ [62] (by decide +kernel) (by decide +kernel)
set_option maxRecDepth 20000 in
theorem gL_isSo_L_seats : GoodIn wsL_isSo (va_wsS RL 65 yL_seats wsL_seats) := goodIn_app (goodIn_of _ (by decide +kernel)) ggL_isSo_L_seats
set_option maxRecDepth 20000 in
theorem ggL_isSo_L_low : GoodIn wsL_isSo wsL_low := goodIn_r _ [65, 66] (by decide +kernel) (by decide +kernel)
set_option maxRecDepth 20000 in
theorem gL_isSo_L_low : GoodIn wsL_isSo (va_wsS RL 84 yL_low wsL_low) := goodIn_app (goodIn_of _ (by decide +kernel)) ggL_isSo_L_low
set_option maxRecDepth 20000 in
theorem ggL_isSo_L_earliest : GoodIn wsL_isSo wsL_earliest := goodIn_r _ [69] (by decide +kernel) (by decide +kernel)
set_option maxRecDepth 20000 in
theorem gL_isSo_L_earliest : GoodIn wsL_isSo (va_wsS RL 23 yL_earliest wsL_earliest) := goodIn_app (goodIn_of _ (by decide +kernel)) ggL_isSo_L_earliest
set_option maxRecDepth 20000 in
theorem ggL_isSo_X7_performer : GoodIn wsL_isSo wsX7_performer := goodIn_r _ [73, 8, 74, 75, 76, 77, 78, 79, 80, 81, 82, 4, 83, 84, 85, 86, 87, 88, 89, 90, 36, 37, 38, 39, 40, 200, 201, 202, 203, 204, 210, 211, 212, 213, 214, 215, 216, 217, 218, 219, 220, 221, 222, 223, 224, 225, 226, 235] (by decide +kernel) (by decide +kernel)
set_option maxRecDepth 20000 in
theorem gL_isSo_X7_performer : GoodIn wsL_isSo (wsV RL 87 RX7 yX7_performer wsX7_performer) := goodIn_app (goodIn_of _ (by decide +kernel)) ggL_isSo_X7_performer
set_option maxRecDepth 20000 in
theorem ggL_isSo_L_owes : GoodIn wsL_isSo wsL_owes := goodIn_r _ [93] (by decide +kernel) (by decide +kernel)
set_option maxRecDepth 20000 in
theorem gL_isSo_L_owes : GoodIn wsL_isSo (va_wsS RL 31 yL_owes wsL_owes) := goodIn_app (goodIn_of _ (by decide +kernel)) ggL_isSo_L_owes
set_option maxRecDepth 20000 in
theorem ggL_isSo_X7_lapsesIn : GoodIn wsL_isSo wsX7_lapsesIn := goodIn_r _ [97, 8, 98, 99, 100, 24, 101, 30, 27, 34, 102, 103, 104, 105, 82, 4, 83, 106, 107, 108, 77, 109, 88, 89, 90, 36, 37, 38, 39, 40, 35, 200, 201, 202, 203, 204, 210, 211, 212, 213, 214, 215, 216, 217, 218, 219, 220, 221, 222, 223, 224, 225, 226, 235] (by decide +kernel) (by decide +kernel)
set_option maxRecDepth 20000 in
theorem gL_isSo_X7_lapsesIn : GoodIn wsL_isSo (wsV RL 90 RX7 yX7_lapsesIn wsX7_lapsesIn) := goodIn_app (goodIn_of _ (by decide +kernel)) ggL_isSo_X7_lapsesIn
set_option maxRecDepth 20000 in
theorem ggL_isSo_X7_owed : GoodIn wsL_isSo wsX7_owed := goodIn_r _ [113, 8, 114, 115, 116, 77, 117, 88, 89, 118, 90, 36, 37, 38, 39, 40, 200, 201, 202, 203, 204, 210, 211, 212, 213, 214, 215, 216, 217, 218, 219, 220, 221, 222, 223, 224, 225, 226, 235] (by decide +kernel) (by decide +kernel)
set_option maxRecDepth 20000 in
theorem gL_isSo_X7_owed : GoodIn wsL_isSo (wsV RL 93 RX7 yX7_owed wsX7_owed) := goodIn_app (goodIn_of _ (by decide +kernel)) ggL_isSo_X7_owed
set_option maxRecDepth 20000 in
theorem ggL_isSo_X7_record : GoodIn wsL_isSo wsX7_record := goodIn_r _ [122, 8, 123, 124, 125, 24, 126, 28, 127, 128, 104, 129, 130, 131, 132, 133, 35, 36, 37, 38, 39, 40, 200, 201, 202, 203, 204, 210, 211, 212, 213, 214, 215, 216, 217, 218, 219, 220, 235] (by decide +kernel) (by decide +kernel)
set_option maxRecDepth 20000 in
theorem gL_isSo_X7_record : GoodIn wsL_isSo (wsV RL 96 RX7 yX7_record wsX7_record) := goodIn_app (goodIn_of _ (by decide +kernel)) ggL_isSo_X7_record
set_option maxRecDepth 20000 in
theorem ggL_isSo_X7_ifFound : GoodIn wsL_isSo wsX7_ifFound := goodIn_r _ [137, 138, 139, 8, 140, 50, 51, 52, 53, 54, 55, 36, 37, 38, 39, 40, 200, 201, 202, 203, 204, 210, 211, 212, 213, 214, 215, 216, 217, 218, 219, 220, 227, 228, 229, 230, 231, 232, 233, 234, 235] (by decide +kernel) (by decide +kernel)
set_option maxRecDepth 20000 in
theorem gL_isSo_X7_ifFound : GoodIn wsL_isSo (wsV RL 99 RX7 yX7_ifFound wsX7_ifFound) := goodIn_app (goodIn_of _ (by decide +kernel)) ggL_isSo_X7_ifFound
set_option maxRecDepth 20000 in
theorem ggL_isSo_L_less : GoodIn wsL_isSo wsL_less := goodIn_r _ [143] (by decide +kernel) (by decide +kernel)
set_option maxRecDepth 20000 in
theorem gL_isSo_L_less : GoodIn wsL_isSo (va_wsS RL 16 yL_less wsL_less) := goodIn_app (goodIn_of _ (by decide +kernel)) ggL_isSo_L_less
set_option maxRecDepth 20000 in
theorem ggL_isSo_X7_quietIn : GoodIn wsL_isSo wsX7_quietIn := goodIn_r _ [147, 8, 148, 149, 150, 24, 151, 26, 34, 35, 36, 37, 38, 39, 40, 152, 4, 153, 154, 103, 104, 105, 200, 201, 202, 203, 204, 210, 211, 212, 213, 214, 215, 216, 217, 218, 219, 220, 235] (by decide +kernel) (by decide +kernel)
set_option maxRecDepth 20000 in
theorem gL_isSo_X7_quietIn : GoodIn wsL_isSo (wsV RL 102 RX7 yX7_quietIn wsX7_quietIn) := goodIn_app (goodIn_of _ (by decide +kernel)) ggL_isSo_X7_quietIn
set_option maxRecDepth 20000 in
theorem ggL_isSo_X7_calls : GoodIn wsL_isSo wsX7_calls := goodIn_r _ [158, 8, 159, 160, 161, 24, 162, 26, 34, 35, 36, 37, 38, 39, 40, 200, 201, 202, 203, 204, 210, 211, 212, 213, 214, 215, 216, 217, 218, 219, 220, 235] (by decide +kernel) (by decide +kernel)
set_option maxRecDepth 20000 in
theorem gL_isSo_X7_calls : GoodIn wsL_isSo (wsV RL 105 RX7 yX7_calls wsX7_calls) := goodIn_app (goodIn_of _ (by decide +kernel)) ggL_isSo_X7_calls
set_option maxRecDepth 20000 in
theorem ggL_isSo_L_isSeat : GoodIn wsL_isSo wsL_isSeat := goodIn_r _ [165, 166, 167, 168, 4, 169, 8, 170, 171, 172, 24, 173, 33, 34, 174, 175, 35, 36, 37, 38, 39, 40, 176, 177, 178, 52, 179, 180, 181, 182, 183, 184, 185, 186, 187, 188, 31, 189, 26, 190, 191, 192, 193, 194, 195, 196, 197, 198, 199, 55, 200, 201, 202, 203, 204, 210, 211, 212, 213, 214, 215, 216, 217, 218, 219, 220, 227, 228, 229, 230, 231, 232, 233, 234, 235] (by decide +kernel) (by decide +kernel)
set_option maxRecDepth 20000 in
theorem gL_isSo_L_isSeat : GoodIn wsL_isSo (va_wsS RL 108 yL_isSeat wsL_isSeat) := goodIn_app (goodIn_of _ (by decide +kernel)) ggL_isSo_L_isSeat
theorem dL_isSo_0 : decode cL_isSo 0 = .ok (.aload_n 2, 1) := by decide +kernel
theorem dL_isSo_1 : decode cL_isSo 1 = .ok (.bipush 13, 2) := by decide +kernel
theorem dL_isSo_3 : decode cL_isSo 3 = .ok (.iaload, 1) := by decide +kernel
theorem dL_isSo_4 : decode cL_isSo 4 = .ok (.ifCond .lt 7, 3) := by decide +kernel
theorem dL_isSo_7 : decode cL_isSo 7 = .ok (.iconst 1, 1) := by decide +kernel
theorem dL_isSo_8 : decode cL_isSo 8 = .ok (.goto 4, 3) := by decide +kernel
theorem dL_isSo_11 : decode cL_isSo 11 = .ok (.iconst 0, 1) := by decide +kernel
theorem dL_isSo_12 : decode cL_isSo 12 = .ok (.istore 11, 2) := by decide +kernel
theorem dL_isSo_14 : decode cL_isSo 14 = .ok (.aload_n 0, 1) := by decide +kernel
theorem dL_isSo_15 : decode cL_isSo 15 = .ok (.iconst 4, 1) := by decide +kernel
theorem dL_isSo_16 : decode cL_isSo 16 = .ok (.invokevirtual 78, 3) := by decide +kernel
theorem dL_isSo_19 : decode cL_isSo 19 = .ok (.aload_n 2, 1) := by decide +kernel
theorem dL_isSo_20 : decode cL_isSo 20 = .ok (.bipush 16, 2) := by decide +kernel
theorem dL_isSo_22 : decode cL_isSo 22 = .ok (.iaload, 1) := by decide +kernel
theorem dL_isSo_23 : decode cL_isSo 23 = .ok (.if_icmp .ne 164, 3) := by decide +kernel
theorem dL_isSo_26 : decode cL_isSo 26 = .ok (.aload_n 0, 1) := by decide +kernel
theorem dL_isSo_27 : decode cL_isSo 27 = .ok (.iconst 5, 1) := by decide +kernel
theorem dL_isSo_28 : decode cL_isSo 28 = .ok (.invokevirtual 78, 3) := by decide +kernel
theorem dL_isSo_31 : decode cL_isSo 31 = .ok (.iconst 0, 1) := by decide +kernel
theorem dL_isSo_32 : decode cL_isSo 32 = .ok (.aload 7, 2) := by decide +kernel
theorem dL_isSo_34 : decode cL_isSo 34 = .ok (.invokestatic 81, 3) := by decide +kernel
theorem dL_isSo_37 : decode cL_isSo 37 = .ok (.if_icmp .ne 150, 3) := by decide +kernel
theorem dL_isSo_40 : decode cL_isSo 40 = .ok (.aload_n 0, 1) := by decide +kernel
theorem dL_isSo_41 : decode cL_isSo 41 = .ok (.bipush 6, 2) := by decide +kernel
theorem dL_isSo_43 : decode cL_isSo 43 = .ok (.invokevirtual 78, 3) := by decide +kernel
theorem dL_isSo_46 : decode cL_isSo 46 = .ok (.iconst 1, 1) := by decide +kernel
theorem dL_isSo_47 : decode cL_isSo 47 = .ok (.aload 7, 2) := by decide +kernel
theorem dL_isSo_49 : decode cL_isSo 49 = .ok (.invokestatic 81, 3) := by decide +kernel
theorem dL_isSo_52 : decode cL_isSo 52 = .ok (.if_icmp .ne 135, 3) := by decide +kernel
theorem dL_isSo_55 : decode cL_isSo 55 = .ok (.aload_n 0, 1) := by decide +kernel
theorem dL_isSo_56 : decode cL_isSo 56 = .ok (.bipush 7, 2) := by decide +kernel
theorem dL_isSo_58 : decode cL_isSo 58 = .ok (.invokevirtual 78, 3) := by decide +kernel
theorem dL_isSo_61 : decode cL_isSo 61 = .ok (.aload_n 2, 1) := by decide +kernel
theorem dL_isSo_62 : decode cL_isSo 62 = .ok (.bipush 12, 2) := by decide +kernel
theorem dL_isSo_64 : decode cL_isSo 64 = .ok (.iaload, 1) := by decide +kernel
theorem dL_isSo_65 : decode cL_isSo 65 = .ok (.if_icmp .ne 122, 3) := by decide +kernel
theorem dL_isSo_68 : decode cL_isSo 68 = .ok (.aload_n 0, 1) := by decide +kernel
theorem dL_isSo_69 : decode cL_isSo 69 = .ok (.bipush 8, 2) := by decide +kernel
theorem dL_isSo_71 : decode cL_isSo 71 = .ok (.invokevirtual 78, 3) := by decide +kernel
theorem dL_isSo_74 : decode cL_isSo 74 = .ok (.iload 11, 2) := by decide +kernel
theorem dL_isSo_76 : decode cL_isSo 76 = .ok (.ifCond .eq 15, 3) := by decide +kernel
theorem dL_isSo_79 : decode cL_isSo 79 = .ok (.aload_n 2, 1) := by decide +kernel
theorem dL_isSo_80 : decode cL_isSo 80 = .ok (.bipush 7, 2) := by decide +kernel
theorem dL_isSo_82 : decode cL_isSo 82 = .ok (.iaload, 1) := by decide +kernel
theorem dL_isSo_83 : decode cL_isSo 83 = .ok (.aload_n 2, 1) := by decide +kernel
theorem dL_isSo_84 : decode cL_isSo 84 = .ok (.bipush 13, 2) := by decide +kernel
theorem dL_isSo_86 : decode cL_isSo 86 = .ok (.iaload, 1) := by decide +kernel
theorem dL_isSo_87 : decode cL_isSo 87 = .ok (.isub, 1) := by decide +kernel
theorem dL_isSo_88 : decode cL_isSo 88 = .ok (.goto 5, 3) := by decide +kernel
theorem dL_isSo_91 : decode cL_isSo 91 = .ok (.bipush (-6), 2) := by decide +kernel
theorem dL_isSo_93 : decode cL_isSo 93 = .ok (.if_icmp .ne 94, 3) := by decide +kernel
theorem dL_isSo_96 : decode cL_isSo 96 = .ok (.aload_n 0, 1) := by decide +kernel
theorem dL_isSo_97 : decode cL_isSo 97 = .ok (.bipush 9, 2) := by decide +kernel
theorem dL_isSo_99 : decode cL_isSo 99 = .ok (.invokevirtual 78, 3) := by decide +kernel
theorem dL_isSo_102 : decode cL_isSo 102 = .ok (.iload 11, 2) := by decide +kernel
theorem dL_isSo_104 : decode cL_isSo 104 = .ok (.ifCond .eq 10, 3) := by decide +kernel
theorem dL_isSo_107 : decode cL_isSo 107 = .ok (.aload_n 2, 1) := by decide +kernel
theorem dL_isSo_108 : decode cL_isSo 108 = .ok (.bipush 14, 2) := by decide +kernel
theorem dL_isSo_110 : decode cL_isSo 110 = .ok (.iaload, 1) := by decide +kernel
theorem dL_isSo_111 : decode cL_isSo 111 = .ok (.goto 5, 3) := by decide +kernel
theorem dL_isSo_114 : decode cL_isSo 114 = .ok (.bipush (-6), 2) := by decide +kernel
theorem dL_isSo_116 : decode cL_isSo 116 = .ok (.if_icmp .ne 71, 3) := by decide +kernel
theorem dL_isSo_119 : decode cL_isSo 119 = .ok (.aload_n 0, 1) := by decide +kernel
theorem dL_isSo_120 : decode cL_isSo 120 = .ok (.bipush 10, 2) := by decide +kernel
theorem dL_isSo_122 : decode cL_isSo 122 = .ok (.invokevirtual 78, 3) := by decide +kernel
theorem dL_isSo_125 : decode cL_isSo 125 = .ok (.iconst 1, 1) := by decide +kernel
theorem dL_isSo_126 : decode cL_isSo 126 = .ok (.iconst 0, 1) := by decide +kernel
theorem dL_isSo_127 : decode cL_isSo 127 = .ok (.aload_n 3, 1) := by decide +kernel
theorem dL_isSo_128 : decode cL_isSo 128 = .ok (.aload 4, 2) := by decide +kernel
theorem dL_isSo_130 : decode cL_isSo 130 = .ok (.invokestatic 65, 3) := by decide +kernel
theorem dL_isSo_133 : decode cL_isSo 133 = .ok (.if_icmp .ne 54, 3) := by decide +kernel
theorem dL_isSo_136 : decode cL_isSo 136 = .ok (.aload_n 0, 1) := by decide +kernel
theorem dL_isSo_137 : decode cL_isSo 137 = .ok (.bipush 11, 2) := by decide +kernel
theorem dL_isSo_139 : decode cL_isSo 139 = .ok (.invokevirtual 78, 3) := by decide +kernel
theorem dL_isSo_142 : decode cL_isSo 142 = .ok (.iconst 0, 1) := by decide +kernel
theorem dL_isSo_143 : decode cL_isSo 143 = .ok (.aload_n 2, 1) := by decide +kernel
theorem dL_isSo_144 : decode cL_isSo 144 = .ok (.iconst 4, 1) := by decide +kernel
theorem dL_isSo_145 : decode cL_isSo 145 = .ok (.iaload, 1) := by decide +kernel
theorem dL_isSo_146 : decode cL_isSo 146 = .ok (.aload_n 3, 1) := by decide +kernel
theorem dL_isSo_147 : decode cL_isSo 147 = .ok (.aload 4, 2) := by decide +kernel
theorem dL_isSo_149 : decode cL_isSo 149 = .ok (.invokestatic 65, 3) := by decide +kernel
theorem dL_isSo_152 : decode cL_isSo 152 = .ok (.if_icmp .ne 35, 3) := by decide +kernel
theorem dL_isSo_155 : decode cL_isSo 155 = .ok (.aload_n 0, 1) := by decide +kernel
theorem dL_isSo_156 : decode cL_isSo 156 = .ok (.bipush 12, 2) := by decide +kernel
theorem dL_isSo_158 : decode cL_isSo 158 = .ok (.invokevirtual 78, 3) := by decide +kernel
theorem dL_isSo_161 : decode cL_isSo 161 = .ok (.iconst 1, 1) := by decide +kernel
theorem dL_isSo_162 : decode cL_isSo 162 = .ok (.iconst 0, 1) := by decide +kernel
theorem dL_isSo_163 : decode cL_isSo 163 = .ok (.aload_n 3, 1) := by decide +kernel
theorem dL_isSo_164 : decode cL_isSo 164 = .ok (.aload 4, 2) := by decide +kernel
theorem dL_isSo_166 : decode cL_isSo 166 = .ok (.invokestatic 65, 3) := by decide +kernel
theorem dL_isSo_169 : decode cL_isSo 169 = .ok (.iconst 0, 1) := by decide +kernel
theorem dL_isSo_170 : decode cL_isSo 170 = .ok (.aload_n 2, 1) := by decide +kernel
theorem dL_isSo_171 : decode cL_isSo 171 = .ok (.iconst 4, 1) := by decide +kernel
theorem dL_isSo_172 : decode cL_isSo 172 = .ok (.iaload, 1) := by decide +kernel
theorem dL_isSo_173 : decode cL_isSo 173 = .ok (.aload_n 3, 1) := by decide +kernel
theorem dL_isSo_174 : decode cL_isSo 174 = .ok (.aload 4, 2) := by decide +kernel
theorem dL_isSo_176 : decode cL_isSo 176 = .ok (.invokestatic 65, 3) := by decide +kernel
theorem dL_isSo_179 : decode cL_isSo 179 = .ok (.iand, 1) := by decide +kernel
theorem dL_isSo_180 : decode cL_isSo 180 = .ok (.if_icmp .ne 7, 3) := by decide +kernel
theorem dL_isSo_183 : decode cL_isSo 183 = .ok (.iconst 1, 1) := by decide +kernel
theorem dL_isSo_184 : decode cL_isSo 184 = .ok (.goto 4, 3) := by decide +kernel
theorem dL_isSo_187 : decode cL_isSo 187 = .ok (.iconst 0, 1) := by decide +kernel
theorem dL_isSo_188 : decode cL_isSo 188 = .ok (.istore 12, 2) := by decide +kernel
theorem dL_isSo_190 : decode cL_isSo 190 = .ok (.iconst 0, 1) := by decide +kernel
theorem dL_isSo_191 : decode cL_isSo 191 = .ok (.istore 13, 2) := by decide +kernel
theorem dL_isSo_193 : decode cL_isSo 193 = .ok (.iload 13, 2) := by decide +kernel
theorem dL_isSo_195 : decode cL_isSo 195 = .ok (.iconst 4, 1) := by decide +kernel
theorem dL_isSo_196 : decode cL_isSo 196 = .ok (.if_icmp .ge 37, 3) := by decide +kernel
theorem dL_isSo_199 : decode cL_isSo 199 = .ok (.iload 12, 2) := by decide +kernel
theorem dL_isSo_201 : decode cL_isSo 201 = .ok (.ifCond .eq 23, 3) := by decide +kernel
theorem dL_isSo_204 : decode cL_isSo 204 = .ok (.aload_n 0, 1) := by decide +kernel
theorem dL_isSo_205 : decode cL_isSo 205 = .ok (.iload 13, 2) := by decide +kernel
theorem dL_isSo_207 : decode cL_isSo 207 = .ok (.invokevirtual 78, 3) := by decide +kernel
theorem dL_isSo_210 : decode cL_isSo 210 = .ok (.aload_n 2, 1) := by decide +kernel
theorem dL_isSo_211 : decode cL_isSo 211 = .ok (.bipush 6, 2) := by decide +kernel
theorem dL_isSo_213 : decode cL_isSo 213 = .ok (.iload 13, 2) := by decide +kernel
theorem dL_isSo_215 : decode cL_isSo 215 = .ok (.iadd, 1) := by decide +kernel
theorem dL_isSo_216 : decode cL_isSo 216 = .ok (.iaload, 1) := by decide +kernel
theorem dL_isSo_217 : decode cL_isSo 217 = .ok (.if_icmp .ne 7, 3) := by decide +kernel
theorem dL_isSo_220 : decode cL_isSo 220 = .ok (.iconst 1, 1) := by decide +kernel
theorem dL_isSo_221 : decode cL_isSo 221 = .ok (.goto 4, 3) := by decide +kernel
theorem dL_isSo_224 : decode cL_isSo 224 = .ok (.iconst 0, 1) := by decide +kernel
theorem dL_isSo_225 : decode cL_isSo 225 = .ok (.istore 12, 2) := by decide +kernel
theorem dL_isSo_227 : decode cL_isSo 227 = .ok (.iinc 13 1, 3) := by decide +kernel
theorem dL_isSo_230 : decode cL_isSo 230 = .ok (.goto (-37), 3) := by decide +kernel
theorem dL_isSo_233 : decode cL_isSo 233 = .ok (.iconst 0, 1) := by decide +kernel
theorem dL_isSo_234 : decode cL_isSo 234 = .ok (.istore 13, 2) := by decide +kernel
theorem dL_isSo_236 : decode cL_isSo 236 = .ok (.iload 13, 2) := by decide +kernel
theorem dL_isSo_238 : decode cL_isSo 238 = .ok (.bipush 6, 2) := by decide +kernel
theorem dL_isSo_240 : decode cL_isSo 240 = .ok (.if_icmp .ge 37, 3) := by decide +kernel
theorem dL_isSo_243 : decode cL_isSo 243 = .ok (.iload 12, 2) := by decide +kernel
theorem dL_isSo_245 : decode cL_isSo 245 = .ok (.ifCond .eq 23, 3) := by decide +kernel
theorem dL_isSo_248 : decode cL_isSo 248 = .ok (.aload_n 0, 1) := by decide +kernel
theorem dL_isSo_249 : decode cL_isSo 249 = .ok (.bipush 13, 2) := by decide +kernel
theorem dL_isSo_251 : decode cL_isSo 251 = .ok (.iload 13, 2) := by decide +kernel
theorem dL_isSo_253 : decode cL_isSo 253 = .ok (.iadd, 1) := by decide +kernel
theorem dL_isSo_254 : decode cL_isSo 254 = .ok (.invokevirtual 78, 3) := by decide +kernel
theorem dL_isSo_257 : decode cL_isSo 257 = .ok (.aload_n 2, 1) := by decide +kernel
theorem dL_isSo_258 : decode cL_isSo 258 = .ok (.iload 13, 2) := by decide +kernel
theorem dL_isSo_260 : decode cL_isSo 260 = .ok (.iaload, 1) := by decide +kernel
theorem dL_isSo_261 : decode cL_isSo 261 = .ok (.if_icmp .ne 7, 3) := by decide +kernel
theorem dL_isSo_264 : decode cL_isSo 264 = .ok (.iconst 1, 1) := by decide +kernel
theorem dL_isSo_265 : decode cL_isSo 265 = .ok (.goto 4, 3) := by decide +kernel
theorem dL_isSo_268 : decode cL_isSo 268 = .ok (.iconst 0, 1) := by decide +kernel
theorem dL_isSo_269 : decode cL_isSo 269 = .ok (.istore 12, 2) := by decide +kernel
theorem dL_isSo_271 : decode cL_isSo 271 = .ok (.iinc 13 1, 3) := by decide +kernel
theorem dL_isSo_274 : decode cL_isSo 274 = .ok (.goto (-38), 3) := by decide +kernel
theorem dL_isSo_277 : decode cL_isSo 277 = .ok (.iload_n 1, 1) := by decide +kernel
theorem dL_isSo_278 : decode cL_isSo 278 = .ok (.bipush 6, 2) := by decide +kernel
theorem dL_isSo_280 : decode cL_isSo 280 = .ok (.invokestatic 84, 3) := by decide +kernel
theorem dL_isSo_283 : decode cL_isSo 283 = .ok (.istore 13, 2) := by decide +kernel
theorem dL_isSo_285 : decode cL_isSo 285 = .ok (.iload_n 1, 1) := by decide +kernel
theorem dL_isSo_286 : decode cL_isSo 286 = .ok (.iconst 3, 1) := by decide +kernel
theorem dL_isSo_287 : decode cL_isSo 287 = .ok (.ishr, 1) := by decide +kernel
theorem dL_isSo_288 : decode cL_isSo 288 = .ok (.bipush 9, 2) := by decide +kernel
theorem dL_isSo_290 : decode cL_isSo 290 = .ok (.invokestatic 84, 3) := by decide +kernel
theorem dL_isSo_293 : decode cL_isSo 293 = .ok (.istore 14, 2) := by decide +kernel
theorem dL_isSo_295 : decode cL_isSo 295 = .ok (.iload 13, 2) := by decide +kernel
theorem dL_isSo_297 : decode cL_isSo 297 = .ok (.aload_n 2, 1) := by decide +kernel
theorem dL_isSo_298 : decode cL_isSo 298 = .ok (.aload 8, 2) := by decide +kernel
theorem dL_isSo_300 : decode cL_isSo 300 = .ok (.invokestatic 23, 3) := by decide +kernel
theorem dL_isSo_303 : decode cL_isSo 303 = .ok (.istore 15, 2) := by decide +kernel
theorem dL_isSo_305 : decode cL_isSo 305 = .ok (.iload 15, 2) := by decide +kernel
theorem dL_isSo_307 : decode cL_isSo 307 = .ok (.ifCond .ge 8, 3) := by decide +kernel
theorem dL_isSo_310 : decode cL_isSo 310 = .ok (.bipush (-6), 2) := by decide +kernel
theorem dL_isSo_312 : decode cL_isSo 312 = .ok (.goto 21, 3) := by decide +kernel
theorem dL_isSo_315 : decode cL_isSo 315 = .ok (.aload_n 2, 1) := by decide +kernel
theorem dL_isSo_316 : decode cL_isSo 316 = .ok (.iconst 2, 1) := by decide +kernel
theorem dL_isSo_317 : decode cL_isSo 317 = .ok (.iaload, 1) := by decide +kernel
theorem dL_isSo_318 : decode cL_isSo 318 = .ok (.aload_n 2, 1) := by decide +kernel
theorem dL_isSo_319 : decode cL_isSo 319 = .ok (.bipush 7, 2) := by decide +kernel
theorem dL_isSo_321 : decode cL_isSo 321 = .ok (.iaload, 1) := by decide +kernel
theorem dL_isSo_322 : decode cL_isSo 322 = .ok (.isub, 1) := by decide +kernel
theorem dL_isSo_323 : decode cL_isSo 323 = .ok (.aload 8, 2) := by decide +kernel
theorem dL_isSo_325 : decode cL_isSo 325 = .ok (.iconst 2, 1) := by decide +kernel
theorem dL_isSo_326 : decode cL_isSo 326 = .ok (.iload 15, 2) := by decide +kernel
theorem dL_isSo_328 : decode cL_isSo 328 = .ok (.imul, 1) := by decide +kernel
theorem dL_isSo_329 : decode cL_isSo 329 = .ok (.iconst 1, 1) := by decide +kernel
theorem dL_isSo_330 : decode cL_isSo 330 = .ok (.iadd, 1) := by decide +kernel
theorem dL_isSo_331 : decode cL_isSo 331 = .ok (.iaload, 1) := by decide +kernel
theorem dL_isSo_332 : decode cL_isSo 332 = .ok (.iadd, 1) := by decide +kernel
theorem dL_isSo_333 : decode cL_isSo 333 = .ok (.istore 16, 2) := by decide +kernel
theorem dL_isSo_335 : decode cL_isSo 335 = .ok (.iload 12, 2) := by decide +kernel
theorem dL_isSo_337 : decode cL_isSo 337 = .ok (.ifCond .eq 111, 3) := by decide +kernel
theorem dL_isSo_340 : decode cL_isSo 340 = .ok (.aload_n 0, 1) := by decide +kernel
theorem dL_isSo_341 : decode cL_isSo 341 = .ok (.iload 13, 2) := by decide +kernel
theorem dL_isSo_343 : decode cL_isSo 343 = .ok (.iconst 0, 1) := by decide +kernel
theorem dL_isSo_344 : decode cL_isSo 344 = .ok (.invokevirtual 87, 3) := by decide +kernel
theorem dL_isSo_347 : decode cL_isSo 347 = .ok (.iload 13, 2) := by decide +kernel
theorem dL_isSo_349 : decode cL_isSo 349 = .ok (.aload_n 2, 1) := by decide +kernel
theorem dL_isSo_350 : decode cL_isSo 350 = .ok (.aload 8, 2) := by decide +kernel
theorem dL_isSo_352 : decode cL_isSo 352 = .ok (.invokestatic 31, 3) := by decide +kernel
theorem dL_isSo_355 : decode cL_isSo 355 = .ok (.if_icmp .ne 93, 3) := by decide +kernel
theorem dL_isSo_358 : decode cL_isSo 358 = .ok (.aload_n 0, 1) := by decide +kernel
theorem dL_isSo_359 : decode cL_isSo 359 = .ok (.iload 13, 2) := by decide +kernel
theorem dL_isSo_361 : decode cL_isSo 361 = .ok (.iconst 1, 1) := by decide +kernel
theorem dL_isSo_362 : decode cL_isSo 362 = .ok (.invokevirtual 87, 3) := by decide +kernel
theorem dL_isSo_365 : decode cL_isSo 365 = .ok (.aload 7, 2) := by decide +kernel
theorem dL_isSo_367 : decode cL_isSo 367 = .ok (.iconst 3, 1) := by decide +kernel
theorem dL_isSo_368 : decode cL_isSo 368 = .ok (.iload 13, 2) := by decide +kernel
theorem dL_isSo_370 : decode cL_isSo 370 = .ok (.imul, 1) := by decide +kernel
theorem dL_isSo_371 : decode cL_isSo 371 = .ok (.iaload, 1) := by decide +kernel
theorem dL_isSo_372 : decode cL_isSo 372 = .ok (.if_icmp .ne 76, 3) := by decide +kernel
theorem dL_isSo_375 : decode cL_isSo 375 = .ok (.aload_n 0, 1) := by decide +kernel
theorem dL_isSo_376 : decode cL_isSo 376 = .ok (.iload 13, 2) := by decide +kernel
theorem dL_isSo_378 : decode cL_isSo 378 = .ok (.iconst 2, 1) := by decide +kernel
theorem dL_isSo_379 : decode cL_isSo 379 = .ok (.invokevirtual 87, 3) := by decide +kernel
theorem dL_isSo_382 : decode cL_isSo 382 = .ok (.aload 7, 2) := by decide +kernel
theorem dL_isSo_384 : decode cL_isSo 384 = .ok (.iconst 3, 1) := by decide +kernel
theorem dL_isSo_385 : decode cL_isSo 385 = .ok (.iload 13, 2) := by decide +kernel
theorem dL_isSo_387 : decode cL_isSo 387 = .ok (.imul, 1) := by decide +kernel
theorem dL_isSo_388 : decode cL_isSo 388 = .ok (.iconst 1, 1) := by decide +kernel
theorem dL_isSo_389 : decode cL_isSo 389 = .ok (.iadd, 1) := by decide +kernel
theorem dL_isSo_390 : decode cL_isSo 390 = .ok (.iaload, 1) := by decide +kernel
theorem dL_isSo_391 : decode cL_isSo 391 = .ok (.if_icmp .ne 57, 3) := by decide +kernel
theorem dL_isSo_394 : decode cL_isSo 394 = .ok (.aload_n 0, 1) := by decide +kernel
theorem dL_isSo_395 : decode cL_isSo 395 = .ok (.iload 13, 2) := by decide +kernel
theorem dL_isSo_397 : decode cL_isSo 397 = .ok (.iconst 3, 1) := by decide +kernel
theorem dL_isSo_398 : decode cL_isSo 398 = .ok (.invokevirtual 87, 3) := by decide +kernel
theorem dL_isSo_401 : decode cL_isSo 401 = .ok (.aload 7, 2) := by decide +kernel
theorem dL_isSo_403 : decode cL_isSo 403 = .ok (.iconst 3, 1) := by decide +kernel
theorem dL_isSo_404 : decode cL_isSo 404 = .ok (.iload 13, 2) := by decide +kernel
theorem dL_isSo_406 : decode cL_isSo 406 = .ok (.imul, 1) := by decide +kernel
theorem dL_isSo_407 : decode cL_isSo 407 = .ok (.iconst 2, 1) := by decide +kernel
theorem dL_isSo_408 : decode cL_isSo 408 = .ok (.iadd, 1) := by decide +kernel
theorem dL_isSo_409 : decode cL_isSo 409 = .ok (.iaload, 1) := by decide +kernel
theorem dL_isSo_410 : decode cL_isSo 410 = .ok (.if_icmp .ne 38, 3) := by decide +kernel
theorem dL_isSo_413 : decode cL_isSo 413 = .ok (.aload_n 0, 1) := by decide +kernel
theorem dL_isSo_414 : decode cL_isSo 414 = .ok (.iload 13, 2) := by decide +kernel
theorem dL_isSo_416 : decode cL_isSo 416 = .ok (.invokevirtual 90, 3) := by decide +kernel
theorem dL_isSo_419 : decode cL_isSo 419 = .ok (.iload 15, 2) := by decide +kernel
theorem dL_isSo_421 : decode cL_isSo 421 = .ok (.ifCond .ge 8, 3) := by decide +kernel
theorem dL_isSo_424 : decode cL_isSo 424 = .ok (.bipush (-6), 2) := by decide +kernel
theorem dL_isSo_426 : decode cL_isSo 426 = .ok (.goto 15, 3) := by decide +kernel
theorem dL_isSo_429 : decode cL_isSo 429 = .ok (.iload 16, 2) := by decide +kernel
theorem dL_isSo_431 : decode cL_isSo 431 = .ok (.iconst 1, 1) := by decide +kernel
theorem dL_isSo_432 : decode cL_isSo 432 = .ok (.if_icmp .ge 7, 3) := by decide +kernel
theorem dL_isSo_435 : decode cL_isSo 435 = .ok (.iconst 1, 1) := by decide +kernel
theorem dL_isSo_436 : decode cL_isSo 436 = .ok (.goto 5, 3) := by decide +kernel
theorem dL_isSo_439 : decode cL_isSo 439 = .ok (.iload 16, 2) := by decide +kernel
theorem dL_isSo_441 : decode cL_isSo 441 = .ok (.if_icmp .ne 7, 3) := by decide +kernel
theorem dL_isSo_444 : decode cL_isSo 444 = .ok (.iconst 1, 1) := by decide +kernel
theorem dL_isSo_445 : decode cL_isSo 445 = .ok (.goto 4, 3) := by decide +kernel
theorem dL_isSo_448 : decode cL_isSo 448 = .ok (.iconst 0, 1) := by decide +kernel
theorem dL_isSo_449 : decode cL_isSo 449 = .ok (.istore 12, 2) := by decide +kernel
theorem dL_isSo_451 : decode cL_isSo 451 = .ok (.iload 12, 2) := by decide +kernel
theorem dL_isSo_453 : decode cL_isSo 453 = .ok (.ifCond .eq 134, 3) := by decide +kernel
theorem dL_isSo_456 : decode cL_isSo 456 = .ok (.aload_n 0, 1) := by decide +kernel
theorem dL_isSo_457 : decode cL_isSo 457 = .ok (.iload 14, 2) := by decide +kernel
theorem dL_isSo_459 : decode cL_isSo 459 = .ok (.iconst 0, 1) := by decide +kernel
theorem dL_isSo_460 : decode cL_isSo 460 = .ok (.invokevirtual 93, 3) := by decide +kernel
theorem dL_isSo_463 : decode cL_isSo 463 = .ok (.iload 14, 2) := by decide +kernel
theorem dL_isSo_465 : decode cL_isSo 465 = .ok (.aload_n 2, 1) := by decide +kernel
theorem dL_isSo_466 : decode cL_isSo 466 = .ok (.bipush 16, 2) := by decide +kernel
theorem dL_isSo_468 : decode cL_isSo 468 = .ok (.iaload, 1) := by decide +kernel
theorem dL_isSo_469 : decode cL_isSo 469 = .ok (.if_icmp .ge 13, 3) := by decide +kernel
theorem dL_isSo_472 : decode cL_isSo 472 = .ok (.aload 8, 2) := by decide +kernel
theorem dL_isSo_474 : decode cL_isSo 474 = .ok (.iconst 2, 1) := by decide +kernel
theorem dL_isSo_475 : decode cL_isSo 475 = .ok (.iload 14, 2) := by decide +kernel
theorem dL_isSo_477 : decode cL_isSo 477 = .ok (.imul, 1) := by decide +kernel
theorem dL_isSo_478 : decode cL_isSo 478 = .ok (.iaload, 1) := by decide +kernel
theorem dL_isSo_479 : decode cL_isSo 479 = .ok (.goto 4, 3) := by decide +kernel
theorem dL_isSo_482 : decode cL_isSo 482 = .ok (.iconst (-1), 1) := by decide +kernel
theorem dL_isSo_483 : decode cL_isSo 483 = .ok (.if_icmp .ne 104, 3) := by decide +kernel
theorem dL_isSo_486 : decode cL_isSo 486 = .ok (.aload_n 0, 1) := by decide +kernel
theorem dL_isSo_487 : decode cL_isSo 487 = .ok (.iload 14, 2) := by decide +kernel
theorem dL_isSo_489 : decode cL_isSo 489 = .ok (.iconst 1, 1) := by decide +kernel
theorem dL_isSo_490 : decode cL_isSo 490 = .ok (.invokevirtual 93, 3) := by decide +kernel
theorem dL_isSo_493 : decode cL_isSo 493 = .ok (.iload 14, 2) := by decide +kernel
theorem dL_isSo_495 : decode cL_isSo 495 = .ok (.aload_n 2, 1) := by decide +kernel
theorem dL_isSo_496 : decode cL_isSo 496 = .ok (.bipush 16, 2) := by decide +kernel
theorem dL_isSo_498 : decode cL_isSo 498 = .ok (.iaload, 1) := by decide +kernel
theorem dL_isSo_499 : decode cL_isSo 499 = .ok (.if_icmp .ge 20, 3) := by decide +kernel
theorem dL_isSo_502 : decode cL_isSo 502 = .ok (.aload_n 2, 1) := by decide +kernel
theorem dL_isSo_503 : decode cL_isSo 503 = .ok (.bipush 7, 2) := by decide +kernel
theorem dL_isSo_505 : decode cL_isSo 505 = .ok (.iaload, 1) := by decide +kernel
theorem dL_isSo_506 : decode cL_isSo 506 = .ok (.aload 8, 2) := by decide +kernel
theorem dL_isSo_508 : decode cL_isSo 508 = .ok (.iconst 2, 1) := by decide +kernel
theorem dL_isSo_509 : decode cL_isSo 509 = .ok (.iload 14, 2) := by decide +kernel
theorem dL_isSo_511 : decode cL_isSo 511 = .ok (.imul, 1) := by decide +kernel
theorem dL_isSo_512 : decode cL_isSo 512 = .ok (.iconst 1, 1) := by decide +kernel
theorem dL_isSo_513 : decode cL_isSo 513 = .ok (.iadd, 1) := by decide +kernel
theorem dL_isSo_514 : decode cL_isSo 514 = .ok (.iaload, 1) := by decide +kernel
theorem dL_isSo_515 : decode cL_isSo 515 = .ok (.isub, 1) := by decide +kernel
theorem dL_isSo_516 : decode cL_isSo 516 = .ok (.goto 4, 3) := by decide +kernel
theorem dL_isSo_519 : decode cL_isSo 519 = .ok (.iconst (-1), 1) := by decide +kernel
theorem dL_isSo_520 : decode cL_isSo 520 = .ok (.if_icmp .ne 67, 3) := by decide +kernel
theorem dL_isSo_523 : decode cL_isSo 523 = .ok (.aload_n 0, 1) := by decide +kernel
theorem dL_isSo_524 : decode cL_isSo 524 = .ok (.iload 14, 2) := by decide +kernel
theorem dL_isSo_526 : decode cL_isSo 526 = .ok (.iload 13, 2) := by decide +kernel
theorem dL_isSo_528 : decode cL_isSo 528 = .ok (.iconst 4, 1) := by decide +kernel
theorem dL_isSo_529 : decode cL_isSo 529 = .ok (.irem, 1) := by decide +kernel
theorem dL_isSo_530 : decode cL_isSo 530 = .ok (.invokevirtual 96, 3) := by decide +kernel
theorem dL_isSo_533 : decode cL_isSo 533 = .ok (.iload 14, 2) := by decide +kernel
theorem dL_isSo_535 : decode cL_isSo 535 = .ok (.aload_n 2, 1) := by decide +kernel
theorem dL_isSo_536 : decode cL_isSo 536 = .ok (.bipush 18, 2) := by decide +kernel
theorem dL_isSo_538 : decode cL_isSo 538 = .ok (.iaload, 1) := by decide +kernel
theorem dL_isSo_539 : decode cL_isSo 539 = .ok (.if_icmp .ge 18, 3) := by decide +kernel
theorem dL_isSo_542 : decode cL_isSo 542 = .ok (.aload 10, 2) := by decide +kernel
theorem dL_isSo_544 : decode cL_isSo 544 = .ok (.iconst 4, 1) := by decide +kernel
theorem dL_isSo_545 : decode cL_isSo 545 = .ok (.iload 14, 2) := by decide +kernel
theorem dL_isSo_547 : decode cL_isSo 547 = .ok (.imul, 1) := by decide +kernel
theorem dL_isSo_548 : decode cL_isSo 548 = .ok (.iload 13, 2) := by decide +kernel
theorem dL_isSo_550 : decode cL_isSo 550 = .ok (.iconst 4, 1) := by decide +kernel
theorem dL_isSo_551 : decode cL_isSo 551 = .ok (.irem, 1) := by decide +kernel
theorem dL_isSo_552 : decode cL_isSo 552 = .ok (.iadd, 1) := by decide +kernel
theorem dL_isSo_553 : decode cL_isSo 553 = .ok (.iaload, 1) := by decide +kernel
theorem dL_isSo_554 : decode cL_isSo 554 = .ok (.goto 4, 3) := by decide +kernel
theorem dL_isSo_557 : decode cL_isSo 557 = .ok (.iconst (-1), 1) := by decide +kernel
theorem dL_isSo_558 : decode cL_isSo 558 = .ok (.if_icmp .ne 29, 3) := by decide +kernel
theorem dL_isSo_561 : decode cL_isSo 561 = .ok (.aload_n 0, 1) := by decide +kernel
theorem dL_isSo_562 : decode cL_isSo 562 = .ok (.iconst 1, 1) := by decide +kernel
theorem dL_isSo_563 : decode cL_isSo 563 = .ok (.iload 14, 2) := by decide +kernel
theorem dL_isSo_565 : decode cL_isSo 565 = .ok (.iadd, 1) := by decide +kernel
theorem dL_isSo_566 : decode cL_isSo 566 = .ok (.invokevirtual 99, 3) := by decide +kernel
theorem dL_isSo_569 : decode cL_isSo 569 = .ok (.iconst 0, 1) := by decide +kernel
theorem dL_isSo_570 : decode cL_isSo 570 = .ok (.iconst 1, 1) := by decide +kernel
theorem dL_isSo_571 : decode cL_isSo 571 = .ok (.iload 14, 2) := by decide +kernel
theorem dL_isSo_573 : decode cL_isSo 573 = .ok (.iadd, 1) := by decide +kernel
theorem dL_isSo_574 : decode cL_isSo 574 = .ok (.aload_n 3, 1) := by decide +kernel
theorem dL_isSo_575 : decode cL_isSo 575 = .ok (.aload 4, 2) := by decide +kernel
theorem dL_isSo_577 : decode cL_isSo 577 = .ok (.invokestatic 65, 3) := by decide +kernel
theorem dL_isSo_580 : decode cL_isSo 580 = .ok (.if_icmp .ne 7, 3) := by decide +kernel
theorem dL_isSo_583 : decode cL_isSo 583 = .ok (.iconst 1, 1) := by decide +kernel
theorem dL_isSo_584 : decode cL_isSo 584 = .ok (.goto 4, 3) := by decide +kernel
theorem dL_isSo_587 : decode cL_isSo 587 = .ok (.iconst 0, 1) := by decide +kernel
theorem dL_isSo_588 : decode cL_isSo 588 = .ok (.istore 12, 2) := by decide +kernel
theorem dL_isSo_590 : decode cL_isSo 590 = .ok (.iload_n 1, 1) := by decide +kernel
theorem dL_isSo_591 : decode cL_isSo 591 = .ok (.bipush 7, 2) := by decide +kernel
theorem dL_isSo_593 : decode cL_isSo 593 = .ok (.ishr, 1) := by decide +kernel
theorem dL_isSo_594 : decode cL_isSo 594 = .ok (.sipush 300, 3) := by decide +kernel
theorem dL_isSo_597 : decode cL_isSo 597 = .ok (.invokestatic 84, 3) := by decide +kernel
theorem dL_isSo_600 : decode cL_isSo 600 = .ok (.istore 17, 2) := by decide +kernel
theorem dL_isSo_602 : decode cL_isSo 602 = .ok (.iconst 0, 1) := by decide +kernel
theorem dL_isSo_603 : decode cL_isSo 603 = .ok (.istore 18, 2) := by decide +kernel
theorem dL_isSo_605 : decode cL_isSo 605 = .ok (.iconst 0, 1) := by decide +kernel
theorem dL_isSo_606 : decode cL_isSo 606 = .ok (.istore 19, 2) := by decide +kernel
theorem dL_isSo_608 : decode cL_isSo 608 = .ok (.aload_n 2, 1) := by decide +kernel
theorem dL_isSo_609 : decode cL_isSo 609 = .ok (.bipush 6, 2) := by decide +kernel
theorem dL_isSo_611 : decode cL_isSo 611 = .ok (.iaload, 1) := by decide +kernel
theorem dL_isSo_612 : decode cL_isSo 612 = .ok (.istore 20, 2) := by decide +kernel
theorem dL_isSo_614 : decode cL_isSo 614 = .ok (.iload 20, 2) := by decide +kernel
theorem dL_isSo_616 : decode cL_isSo 616 = .ok (.iload 17, 2) := by decide +kernel
theorem dL_isSo_618 : decode cL_isSo 618 = .ok (.if_icmp .le 17, 3) := by decide +kernel
theorem dL_isSo_621 : decode cL_isSo 621 = .ok (.iinc 18 1, 3) := by decide +kernel
theorem dL_isSo_624 : decode cL_isSo 624 = .ok (.iload 20, 2) := by decide +kernel
theorem dL_isSo_626 : decode cL_isSo 626 = .ok (.aload_n 2, 1) := by decide +kernel
theorem dL_isSo_627 : decode cL_isSo 627 = .ok (.invokestatic 16, 3) := by decide +kernel
theorem dL_isSo_630 : decode cL_isSo 630 = .ok (.istore 20, 2) := by decide +kernel
theorem dL_isSo_632 : decode cL_isSo 632 = .ok (.goto (-18), 3) := by decide +kernel
theorem dL_isSo_635 : decode cL_isSo 635 = .ok (.aload_n 2, 1) := by decide +kernel
theorem dL_isSo_636 : decode cL_isSo 636 = .ok (.bipush 6, 2) := by decide +kernel
theorem dL_isSo_638 : decode cL_isSo 638 = .ok (.iaload, 1) := by decide +kernel
theorem dL_isSo_639 : decode cL_isSo 639 = .ok (.istore 20, 2) := by decide +kernel
theorem dL_isSo_641 : decode cL_isSo 641 = .ok (.iload 20, 2) := by decide +kernel
theorem dL_isSo_643 : decode cL_isSo 643 = .ok (.aload_n 2, 1) := by decide +kernel
theorem dL_isSo_644 : decode cL_isSo 644 = .ok (.iconst 5, 1) := by decide +kernel
theorem dL_isSo_645 : decode cL_isSo 645 = .ok (.iaload, 1) := by decide +kernel
theorem dL_isSo_646 : decode cL_isSo 646 = .ok (.if_icmp .lt 15, 3) := by decide +kernel
theorem dL_isSo_649 : decode cL_isSo 649 = .ok (.iinc 19 1, 3) := by decide +kernel
theorem dL_isSo_652 : decode cL_isSo 652 = .ok (.iload 20, 2) := by decide +kernel
theorem dL_isSo_654 : decode cL_isSo 654 = .ok (.iconst 2, 1) := by decide +kernel
theorem dL_isSo_655 : decode cL_isSo 655 = .ok (.idiv, 1) := by decide +kernel
theorem dL_isSo_656 : decode cL_isSo 656 = .ok (.istore 20, 2) := by decide +kernel
theorem dL_isSo_658 : decode cL_isSo 658 = .ok (.goto (-17), 3) := by decide +kernel
theorem dL_isSo_661 : decode cL_isSo 661 = .ok (.iload 12, 2) := by decide +kernel
theorem dL_isSo_663 : decode cL_isSo 663 = .ok (.ifCond .eq 62, 3) := by decide +kernel
theorem dL_isSo_666 : decode cL_isSo 666 = .ok (.aload_n 0, 1) := by decide +kernel
theorem dL_isSo_667 : decode cL_isSo 667 = .ok (.iload 17, 2) := by decide +kernel
theorem dL_isSo_669 : decode cL_isSo 669 = .ok (.invokevirtual 102, 3) := by decide +kernel
theorem dL_isSo_672 : decode cL_isSo 672 = .ok (.iload 18, 2) := by decide +kernel
theorem dL_isSo_674 : decode cL_isSo 674 = .ok (.if_icmp .ne 51, 3) := by decide +kernel
theorem dL_isSo_677 : decode cL_isSo 677 = .ok (.aload_n 0, 1) := by decide +kernel
theorem dL_isSo_678 : decode cL_isSo 678 = .ok (.invokevirtual 105, 3) := by decide +kernel
theorem dL_isSo_681 : decode cL_isSo 681 = .ok (.iload 19, 2) := by decide +kernel
theorem dL_isSo_683 : decode cL_isSo 683 = .ok (.if_icmp .ne 42, 3) := by decide +kernel
theorem dL_isSo_686 : decode cL_isSo 686 = .ok (.aload_n 0, 1) := by decide +kernel
theorem dL_isSo_687 : decode cL_isSo 687 = .ok (.iload_n 1, 1) := by decide +kernel
theorem dL_isSo_688 : decode cL_isSo 688 = .ok (.bipush 15, 2) := by decide +kernel
theorem dL_isSo_690 : decode cL_isSo 690 = .ok (.ishr, 1) := by decide +kernel
theorem dL_isSo_691 : decode cL_isSo 691 = .ok (.bipush 30, 2) := by decide +kernel
theorem dL_isSo_693 : decode cL_isSo 693 = .ok (.invokestatic 84, 3) := by decide +kernel
theorem dL_isSo_696 : decode cL_isSo 696 = .ok (.iload_n 1, 1) := by decide +kernel
theorem dL_isSo_697 : decode cL_isSo 697 = .ok (.bipush 20, 2) := by decide +kernel
theorem dL_isSo_699 : decode cL_isSo 699 = .ok (.ishr, 1) := by decide +kernel
theorem dL_isSo_700 : decode cL_isSo 700 = .ok (.bipush 12, 2) := by decide +kernel
theorem dL_isSo_702 : decode cL_isSo 702 = .ok (.invokestatic 84, 3) := by decide +kernel
theorem dL_isSo_705 : decode cL_isSo 705 = .ok (.aload_n 2, 1) := by decide +kernel
theorem dL_isSo_706 : decode cL_isSo 706 = .ok (.aload_n 3, 1) := by decide +kernel
theorem dL_isSo_707 : decode cL_isSo 707 = .ok (.aload 4, 2) := by decide +kernel
theorem dL_isSo_709 : decode cL_isSo 709 = .ok (.aload 5, 2) := by decide +kernel
theorem dL_isSo_711 : decode cL_isSo 711 = .ok (.aload 6, 2) := by decide +kernel
theorem dL_isSo_713 : decode cL_isSo 713 = .ok (.aload 9, 2) := by decide +kernel
theorem dL_isSo_715 : decode cL_isSo 715 = .ok (.invokestatic 108, 3) := by decide +kernel
theorem dL_isSo_718 : decode cL_isSo 718 = .ok (.ifCond .eq 7, 3) := by decide +kernel
theorem dL_isSo_721 : decode cL_isSo 721 = .ok (.iconst 1, 1) := by decide +kernel
theorem dL_isSo_722 : decode cL_isSo 722 = .ok (.goto 4, 3) := by decide +kernel
theorem dL_isSo_725 : decode cL_isSo 725 = .ok (.iconst 0, 1) := by decide +kernel
theorem dL_isSo_726 : decode cL_isSo 726 = .ok (.ireturn, 1) := by decide +kernel
set_option maxRecDepth 20000 in
theorem ggL_told_X7_count : GoodIn wsL_told wsX7_count := goodIn_r _ [9, 10, 11, 12, 13, 14, 15, 16, 17, 18, 19, 20, 21, 22, 23, 24, 25, 26, 27, 28, 29, 30, 31, 32, 33, 34, 35, 36, 37, 38, 39, 40, 41, 42, 43, 44, 45, 46, 47, 48, 49, 50, 51, 52, 53, 54, 55, 56, 57, 58, 59, 131, 132, 133, 134, 135, 136, 137, 138, 139, 140, 141, 142, 143, 144, 145, 146, 147, 148, 149, 150, 151, 152, 153, 154, 155, 156, 157, 158, 159, 160, 161, 162, 163, 164, 165, 166] (by decide +kernel) (by decide +kernel)
set_option maxRecDepth 20000 in
theorem gL_told_X7_count : GoodIn wsL_told (wsV RL 78 RX7 yX7_count wsX7_count) := goodIn_app (goodIn_of _ (by decide +kernel)) ggL_told_X7_count
set_option maxRecDepth 20000 in
theorem ggL_told_X7_of : GoodIn wsL_told wsX7_of := goodIn_r _ [63, 12, 64, 65, 66, 28, 67, 37, 38, 68, 8, 69, 39, 40, 41, 42, 43, 44, 70, 71, 72, 56, 73, 74, 131, 132, 133, 134, 135, 141, 142, 143, 144, 145, 146, 147, 148, 149, 150, 151, 158, 159, 160, 161, 162, 163, 164, 165, 166] (by decide +kernel) (by decide +kernel)
set_option maxRecDepth 20000 in
theorem gL_told_X7_of : GoodIn wsL_told (wsV RL 69 RX7 yX7_of wsX7_of) := goodIn_app (goodIn_of _ (by decide +kernel)) ggL_told_X7_of
set_option maxRecDepth 20000 in
theorem ggL_told_X7_clapper : GoodIn wsL_told wsX7_clapper := goodIn_r _ [78, 12, 79, 80, 81, 56, 82, 83, 84, 59, 40, 41, 42, 43, 44, 131, 132, 133, 134, 135, 141, 142, 143, 144, 145, 146, 147, 148, 149, 150, 151, 158, 159, 160, 161, 162, 163, 164, 165, 166] (by decide +kernel) (by decide +kernel)
set_option maxRecDepth 20000 in
theorem gL_told_X7_clapper : GoodIn wsL_told (wsV RL 75 RX7 yX7_clapper wsX7_clapper) := goodIn_app (goodIn_of _ (by decide +kernel)) ggL_told_X7_clapper
set_option maxRecDepth 20000 in
theorem ggL_told_X7_performer : GoodIn wsL_told wsX7_performer := goodIn_r _ [88, 12, 89, 90, 91, 92, 93, 94, 95, 96, 97, 8, 98, 99, 100, 101, 102, 103, 104, 105, 40, 41, 42, 43, 44, 131, 132, 133, 134, 135, 141, 142, 143, 144, 145, 146, 147, 148, 149, 150, 151, 152, 153, 154, 155, 156, 157, 166] (by decide +kernel) (by decide +kernel)
set_option maxRecDepth 20000 in
theorem gL_told_X7_performer : GoodIn wsL_told (wsV RL 87 RX7 yX7_performer wsX7_performer) := goodIn_app (goodIn_of _ (by decide +kernel)) ggL_told_X7_performer
set_option maxRecDepth 20000 in
theorem ggL_told_X7_owed : GoodIn wsL_told wsX7_owed := goodIn_r _ [109, 12, 110, 111, 112, 92, 113, 103, 104, 114, 105, 40, 41, 42, 43, 44, 131, 132, 133, 134, 135, 141, 142, 143, 144, 145, 146, 147, 148, 149, 150, 151, 152, 153, 154, 155, 156, 157, 166] (by decide +kernel) (by decide +kernel)
set_option maxRecDepth 20000 in
theorem gL_told_X7_owed : GoodIn wsL_told (wsV RL 93 RX7 yX7_owed wsX7_owed) := goodIn_app (goodIn_of _ (by decide +kernel)) ggL_told_X7_owed
set_option maxRecDepth 20000 in
theorem ggL_told_X7_record : GoodIn wsL_told wsX7_record := goodIn_r _ [118, 12, 119, 120, 121, 28, 122, 32, 123, 124, 125, 126, 127, 128, 129, 130, 39, 40, 41, 42, 43, 44, 131, 132, 133, 134, 135, 141, 142, 143, 144, 145, 146, 147, 148, 149, 150, 151, 166] (by decide +kernel) (by decide +kernel)
set_option maxRecDepth 20000 in
theorem gL_told_X7_record : GoodIn wsL_told (wsV RL 96 RX7 yX7_record wsX7_record) := goodIn_app (goodIn_of _ (by decide +kernel)) ggL_told_X7_record
theorem dL_told_0 : decode cL_told 0 = .ok (.ldc2_w 112, 3) := by decide +kernel
theorem dL_told_3 : decode cL_told 3 = .ok (.lstore_n 1, 1) := by decide +kernel
theorem dL_told_4 : decode cL_told 4 = .ok (.iconst 0, 1) := by decide +kernel
theorem dL_told_5 : decode cL_told 5 = .ok (.istore_n 3, 1) := by decide +kernel
theorem dL_told_6 : decode cL_told 6 = .ok (.iload_n 3, 1) := by decide +kernel
theorem dL_told_7 : decode cL_told 7 = .ok (.bipush 19, 2) := by decide +kernel
theorem dL_told_9 : decode cL_told 9 = .ok (.if_icmp .ge 22, 3) := by decide +kernel
theorem dL_told_12 : decode cL_told 12 = .ok (.ldc2_w 114, 3) := by decide +kernel
theorem dL_told_15 : decode cL_told 15 = .ok (.lload_n 1, 1) := by decide +kernel
theorem dL_told_16 : decode cL_told 16 = .ok (.lmul, 1) := by decide +kernel
theorem dL_told_17 : decode cL_told 17 = .ok (.aload_n 0, 1) := by decide +kernel
theorem dL_told_18 : decode cL_told 18 = .ok (.iload_n 3, 1) := by decide +kernel
theorem dL_told_19 : decode cL_told 19 = .ok (.invokevirtual 78, 3) := by decide +kernel
theorem dL_told_22 : decode cL_told 22 = .ok (.i2l, 1) := by decide +kernel
theorem dL_told_23 : decode cL_told 23 = .ok (.ladd, 1) := by decide +kernel
theorem dL_told_24 : decode cL_told 24 = .ok (.lstore_n 1, 1) := by decide +kernel
theorem dL_told_25 : decode cL_told 25 = .ok (.iinc 3 1, 3) := by decide +kernel
theorem dL_told_28 : decode cL_told 28 = .ok (.goto (-22), 3) := by decide +kernel
theorem dL_told_31 : decode cL_told 31 = .ok (.iconst 0, 1) := by decide +kernel
theorem dL_told_32 : decode cL_told 32 = .ok (.istore_n 3, 1) := by decide +kernel
theorem dL_told_33 : decode cL_told 33 = .ok (.iload_n 3, 1) := by decide +kernel
theorem dL_told_34 : decode cL_told 34 = .ok (.bipush 30, 2) := by decide +kernel
theorem dL_told_36 : decode cL_told 36 = .ok (.if_icmp .ge 139, 3) := by decide +kernel
theorem dL_told_39 : decode cL_told 39 = .ok (.ldc2_w 114, 3) := by decide +kernel
theorem dL_told_42 : decode cL_told 42 = .ok (.ldc2_w 114, 3) := by decide +kernel
theorem dL_told_45 : decode cL_told 45 = .ok (.lload_n 1, 1) := by decide +kernel
theorem dL_told_46 : decode cL_told 46 = .ok (.lmul, 1) := by decide +kernel
theorem dL_told_47 : decode cL_told 47 = .ok (.aload_n 0, 1) := by decide +kernel
theorem dL_told_48 : decode cL_told 48 = .ok (.iload_n 3, 1) := by decide +kernel
theorem dL_told_49 : decode cL_told 49 = .ok (.iconst 0, 1) := by decide +kernel
theorem dL_told_50 : decode cL_told 50 = .ok (.invokevirtual 69, 3) := by decide +kernel
theorem dL_told_53 : decode cL_told 53 = .ok (.i2l, 1) := by decide +kernel
theorem dL_told_54 : decode cL_told 54 = .ok (.ladd, 1) := by decide +kernel
theorem dL_told_55 : decode cL_told 55 = .ok (.ldc2_w 116, 3) := by decide +kernel
theorem dL_told_58 : decode cL_told 58 = .ok (.aload_n 0, 1) := by decide +kernel
theorem dL_told_59 : decode cL_told 59 = .ok (.iload_n 3, 1) := by decide +kernel
theorem dL_told_60 : decode cL_told 60 = .ok (.iconst 3, 1) := by decide +kernel
theorem dL_told_61 : decode cL_told 61 = .ok (.invokevirtual 69, 3) := by decide +kernel
theorem dL_told_64 : decode cL_told 64 = .ok (.i2l, 1) := by decide +kernel
theorem dL_told_65 : decode cL_told 65 = .ok (.lmul, 1) := by decide +kernel
theorem dL_told_66 : decode cL_told 66 = .ok (.ladd, 1) := by decide +kernel
theorem dL_told_67 : decode cL_told 67 = .ok (.lmul, 1) := by decide +kernel
theorem dL_told_68 : decode cL_told 68 = .ok (.aload_n 0, 1) := by decide +kernel
theorem dL_told_69 : decode cL_told 69 = .ok (.iload_n 3, 1) := by decide +kernel
theorem dL_told_70 : decode cL_told 70 = .ok (.iconst 4, 1) := by decide +kernel
theorem dL_told_71 : decode cL_told 71 = .ok (.invokevirtual 69, 3) := by decide +kernel
theorem dL_told_74 : decode cL_told 74 = .ok (.i2l, 1) := by decide +kernel
theorem dL_told_75 : decode cL_told 75 = .ok (.ladd, 1) := by decide +kernel
theorem dL_told_76 : decode cL_told 76 = .ok (.ldc2_w 116, 3) := by decide +kernel
theorem dL_told_79 : decode cL_told 79 = .ok (.aload_n 0, 1) := by decide +kernel
theorem dL_told_80 : decode cL_told 80 = .ok (.iload_n 3, 1) := by decide +kernel
theorem dL_told_81 : decode cL_told 81 = .ok (.iconst 5, 1) := by decide +kernel
theorem dL_told_82 : decode cL_told 82 = .ok (.invokevirtual 69, 3) := by decide +kernel
theorem dL_told_85 : decode cL_told 85 = .ok (.i2l, 1) := by decide +kernel
theorem dL_told_86 : decode cL_told 86 = .ok (.lmul, 1) := by decide +kernel
theorem dL_told_87 : decode cL_told 87 = .ok (.ladd, 1) := by decide +kernel
theorem dL_told_88 : decode cL_told 88 = .ok (.ldc2_w 118, 3) := by decide +kernel
theorem dL_told_91 : decode cL_told 91 = .ok (.aload_n 0, 1) := by decide +kernel
theorem dL_told_92 : decode cL_told 92 = .ok (.iload_n 3, 1) := by decide +kernel
theorem dL_told_93 : decode cL_told 93 = .ok (.bipush 6, 2) := by decide +kernel
theorem dL_told_95 : decode cL_told 95 = .ok (.invokevirtual 69, 3) := by decide +kernel
theorem dL_told_98 : decode cL_told 98 = .ok (.i2l, 1) := by decide +kernel
theorem dL_told_99 : decode cL_told 99 = .ok (.lmul, 1) := by decide +kernel
theorem dL_told_100 : decode cL_told 100 = .ok (.ladd, 1) := by decide +kernel
theorem dL_told_101 : decode cL_told 101 = .ok (.lstore_n 1, 1) := by decide +kernel
theorem dL_told_102 : decode cL_told 102 = .ok (.ldc2_w 114, 3) := by decide +kernel
theorem dL_told_105 : decode cL_told 105 = .ok (.ldc2_w 114, 3) := by decide +kernel
theorem dL_told_108 : decode cL_told 108 = .ok (.lload_n 1, 1) := by decide +kernel
theorem dL_told_109 : decode cL_told 109 = .ok (.lmul, 1) := by decide +kernel
theorem dL_told_110 : decode cL_told 110 = .ok (.aload_n 0, 1) := by decide +kernel
theorem dL_told_111 : decode cL_told 111 = .ok (.iload_n 3, 1) := by decide +kernel
theorem dL_told_112 : decode cL_told 112 = .ok (.invokevirtual 75, 3) := by decide +kernel
theorem dL_told_115 : decode cL_told 115 = .ok (.i2l, 1) := by decide +kernel
theorem dL_told_116 : decode cL_told 116 = .ok (.ladd, 1) := by decide +kernel
theorem dL_told_117 : decode cL_told 117 = .ok (.lmul, 1) := by decide +kernel
theorem dL_told_118 : decode cL_told 118 = .ok (.aload_n 0, 1) := by decide +kernel
theorem dL_told_119 : decode cL_told 119 = .ok (.iload_n 3, 1) := by decide +kernel
theorem dL_told_120 : decode cL_told 120 = .ok (.bipush 6, 2) := by decide +kernel
theorem dL_told_122 : decode cL_told 122 = .ok (.irem, 1) := by decide +kernel
theorem dL_told_123 : decode cL_told 123 = .ok (.iload_n 3, 1) := by decide +kernel
theorem dL_told_124 : decode cL_told 124 = .ok (.bipush 6, 2) := by decide +kernel
theorem dL_told_126 : decode cL_told 126 = .ok (.idiv, 1) := by decide +kernel
theorem dL_told_127 : decode cL_told 127 = .ok (.iconst 4, 1) := by decide +kernel
theorem dL_told_128 : decode cL_told 128 = .ok (.irem, 1) := by decide +kernel
theorem dL_told_129 : decode cL_told 129 = .ok (.invokevirtual 87, 3) := by decide +kernel
theorem dL_told_132 : decode cL_told 132 = .ok (.i2l, 1) := by decide +kernel
theorem dL_told_133 : decode cL_told 133 = .ok (.ladd, 1) := by decide +kernel
theorem dL_told_134 : decode cL_told 134 = .ok (.lstore_n 1, 1) := by decide +kernel
theorem dL_told_135 : decode cL_told 135 = .ok (.ldc2_w 114, 3) := by decide +kernel
theorem dL_told_138 : decode cL_told 138 = .ok (.ldc2_w 114, 3) := by decide +kernel
theorem dL_told_141 : decode cL_told 141 = .ok (.lload_n 1, 1) := by decide +kernel
theorem dL_told_142 : decode cL_told 142 = .ok (.lmul, 1) := by decide +kernel
theorem dL_told_143 : decode cL_told 143 = .ok (.aload_n 0, 1) := by decide +kernel
theorem dL_told_144 : decode cL_told 144 = .ok (.iload_n 3, 1) := by decide +kernel
theorem dL_told_145 : decode cL_told 145 = .ok (.iconst 2, 1) := by decide +kernel
theorem dL_told_146 : decode cL_told 146 = .ok (.idiv, 1) := by decide +kernel
theorem dL_told_147 : decode cL_told 147 = .ok (.iload_n 3, 1) := by decide +kernel
theorem dL_told_148 : decode cL_told 148 = .ok (.iconst 2, 1) := by decide +kernel
theorem dL_told_149 : decode cL_told 149 = .ok (.irem, 1) := by decide +kernel
theorem dL_told_150 : decode cL_told 150 = .ok (.invokevirtual 93, 3) := by decide +kernel
theorem dL_told_153 : decode cL_told 153 = .ok (.i2l, 1) := by decide +kernel
theorem dL_told_154 : decode cL_told 154 = .ok (.ladd, 1) := by decide +kernel
theorem dL_told_155 : decode cL_told 155 = .ok (.lmul, 1) := by decide +kernel
theorem dL_told_156 : decode cL_told 156 = .ok (.aload_n 0, 1) := by decide +kernel
theorem dL_told_157 : decode cL_told 157 = .ok (.iload_n 3, 1) := by decide +kernel
theorem dL_told_158 : decode cL_told 158 = .ok (.iconst 4, 1) := by decide +kernel
theorem dL_told_159 : decode cL_told 159 = .ok (.idiv, 1) := by decide +kernel
theorem dL_told_160 : decode cL_told 160 = .ok (.iload_n 3, 1) := by decide +kernel
theorem dL_told_161 : decode cL_told 161 = .ok (.iconst 4, 1) := by decide +kernel
theorem dL_told_162 : decode cL_told 162 = .ok (.irem, 1) := by decide +kernel
theorem dL_told_163 : decode cL_told 163 = .ok (.invokevirtual 96, 3) := by decide +kernel
theorem dL_told_166 : decode cL_told 166 = .ok (.i2l, 1) := by decide +kernel
theorem dL_told_167 : decode cL_told 167 = .ok (.ladd, 1) := by decide +kernel
theorem dL_told_168 : decode cL_told 168 = .ok (.lstore_n 1, 1) := by decide +kernel
theorem dL_told_169 : decode cL_told 169 = .ok (.iinc 3 1, 3) := by decide +kernel
theorem dL_told_172 : decode cL_told 172 = .ok (.goto (-139), 3) := by decide +kernel
theorem dL_told_175 : decode cL_told 175 = .ok (.lload_n 1, 1) := by decide +kernel
theorem dL_told_176 : decode cL_told 176 = .ok (.lreturn, 1) := by decide +kernel
set_option maxRecDepth 20000 in
theorem ggL_law_X7_init : GoodIn wsL_law wsX7_init := goodIn_r _ [6, 7, 8, 9, 10, 11, 12, 13, 14, 15, 16, 17, 18, 19, 20, 21, 22, 23, 24, 25, 26, 27, 28, 29, 30, 31, 32, 33, 34, 35, 36, 37, 38, 39, 40, 41, 42, 43, 44, 45, 46, 47, 48, 49, 50, 51, 52, 53, 3, 54, 55, 56, 57, 58, 59, 60, 61, 62, 63, 64, 65, 66, 67, 68, 69, 70, 71, 72, 73, 74, 75, 76, 77, 78, 79, 80, 81, 82, 83, 84, 85, 86, 87, 88, 89, 90, 91, 92, 93, 94, 95, 96, 97, 98, 99, 482, 483, 484, 485, 486, 487, 488, 489, 490, 491, 492, 477, 478, 479, 480, 481, 493, 494, 495, 496, 497, 498, 499, 500, 501, 502, 503, 504, 505, 506, 507, 508, 509, 510, 511, 512, 513, 514, 515, 516, 517] (by decide +kernel) (by decide +kernel)
set_option maxRecDepth 20000 in
theorem gL_law_X7_init : GoodIn wsL_law (wsX7_init) := ggL_law_X7_init
set_option maxRecDepth 20000 in
theorem ggL_law_L_cell : GoodIn wsL_law wsL_cell := goodIn_r _ [103, 104, 105] (by decide +kernel) (by decide +kernel)
set_option maxRecDepth 20000 in
theorem gL_law_L_cell : GoodIn wsL_law (va_wsS RL 121 yL_cell wsL_cell) := goodIn_app (goodIn_of _ (by decide +kernel)) ggL_law_L_cell
set_option maxRecDepth 20000 in
theorem ggL_law_L_low : GoodIn wsL_law wsL_low := goodIn_r _ [108, 109] (by decide +kernel) (by decide +kernel)
set_option maxRecDepth 20000 in
theorem gL_law_L_low : GoodIn wsL_law (va_wsS RL 84 yL_low wsL_low) := goodIn_app (goodIn_of _ (by decide +kernel)) ggL_law_L_low
set_option maxRecDepth 20000 in
theorem ggL_law_L_told : GoodIn wsL_law wsL_told := goodIn_r _ [112, 113, 114, 115, 116, 117, 118, 119, 2, 120, 22, 17, 13, 121, 122, 123, 21, 124, 125, 126, 127, 128, 16, 129, 130, 131, 132, 133, 12, 134, 135, 136, 137, 43, 42, 45, 138, 38, 34, 139, 140, 141, 33, 142, 54, 143, 144, 145, 146, 147, 148, 149, 150, 151, 152, 153, 37, 154, 61, 155, 156, 157, 158, 159, 160, 161, 162, 163, 164, 165, 166, 167, 168, 169, 170, 171, 172, 173, 174, 175, 176, 177, 178, 179, 64, 180, 181, 182, 183, 184, 185, 186, 41, 187, 76, 77, 78, 188, 189, 190, 191, 192, 193, 194, 74, 195, 196, 197, 198, 199, 200, 201, 202, 203, 75, 204, 205, 206, 207, 208, 209, 210, 211, 212, 213, 52, 214, 44, 215, 216, 217, 477, 478, 479, 480, 481, 496, 497, 493, 494, 495, 482, 483, 484, 485, 486, 487, 488, 489, 490, 491, 492, 512, 513, 514, 515, 516, 517, 504, 505, 506, 507, 508, 509, 510, 511, 503] (by decide +kernel) (by decide +kernel)
set_option maxRecDepth 20000 in
theorem gL_law_L_told : GoodIn wsL_law (va_wsS RL 125 yL_told wsL_told) := goodIn_app (goodIn_of _ (by decide +kernel)) ggL_law_L_told
set_option maxRecDepth 20000 in
theorem ggL_law_L_call : GoodIn wsL_law wsL_call := goodIn_r _ [220, 221, 222, 223, 2, 224, 17, 13, 225, 226, 227, 16, 228, 229, 230, 231, 232, 233, 89, 234, 235, 236, 12, 237, 34, 38, 42, 43, 44, 135, 136, 137, 45, 138, 238, 239, 240, 241, 33, 242, 54, 243, 213, 52, 214, 244, 245, 246, 247, 248, 249, 250, 37, 251, 60, 61, 62, 63, 64, 179, 252, 170, 253, 254, 255, 256, 41, 257, 74, 75, 76, 77, 78, 194, 258, 259, 260, 261, 262, 212, 164, 165, 139, 140, 141, 142, 263, 264, 265, 266, 267, 167, 168, 169, 268, 269, 270, 271, 155, 272, 81, 82, 83, 273, 274, 275, 276, 277, 278, 279, 280, 281, 282, 283, 284, 285, 286, 287, 130, 288, 289, 290, 291, 292, 293, 294, 295, 296, 188, 189, 297, 298, 299, 300, 301, 302, 303, 304, 305, 306, 307, 308, 309, 310, 311, 312, 313, 314, 315, 316, 51, 53, 317, 318, 319, 320, 195, 321, 322, 323, 324, 325, 326, 327, 328, 329, 330, 331, 332, 333, 334, 335, 336, 337, 191, 192, 193, 338, 339, 340, 341, 342, 343, 344, 345, 346, 347, 348, 349, 350, 351, 352, 353, 215, 216, 217, 80, 354, 67, 68, 69, 355, 356, 357, 358, 66, 359, 360, 361, 362, 363, 364, 365, 366, 367, 368, 369, 370, 371, 372, 373, 374, 375, 376, 377, 378, 379, 380, 381, 382, 477, 478, 479, 480, 481, 493, 494, 495, 482, 483, 484, 485, 486, 487, 488, 489, 490, 491, 492, 503, 504, 505, 506, 507, 508, 509, 510, 511, 512, 513, 514, 515, 516, 517] (by decide +kernel) (by decide +kernel)
set_option maxRecDepth 20000 in
theorem gL_law_L_call : GoodIn wsL_law (va_wsS RL 129 yL_call wsL_call) := goodIn_app (goodIn_of _ (by decide +kernel)) ggL_law_L_call
set_option maxRecDepth 20000 in
theorem ggL_law_X7_undo : GoodIn wsL_law wsX7_undo := goodIn_r _ [386, 17, 13, 387, 388, 389, 16, 390, 229, 130, 230, 231, 232, 233, 89, 234, 235, 236, 12, 237, 34, 38, 42, 43, 44, 135, 136, 137, 45, 138, 238, 239, 240, 241, 33, 242, 54, 243, 213, 52, 214, 244, 245, 246, 247, 248, 249, 250, 37, 251, 60, 61, 62, 63, 64, 179, 252, 170, 253, 254, 255, 256, 41, 257, 74, 75, 76, 77, 78, 194, 258, 477, 478, 479, 480, 481, 493, 494, 495, 482, 483, 484, 485, 486, 487, 488, 489, 490, 491, 492, 503, 504, 505, 506, 507, 508, 509, 510, 511, 512, 513, 514, 515, 516, 517] (by decide +kernel) (by decide +kernel)
set_option maxRecDepth 20000 in
theorem gL_law_X7_undo : GoodIn wsL_law (wsV RL 132 RX7 yX7_undo wsX7_undo) := goodIn_app (goodIn_of _ (by decide +kernel)) ggL_law_X7_undo
set_option maxRecDepth 20000 in
theorem ggL_law_L_claps : GoodIn wsL_law wsL_claps := goodIn_r _ [393, 394, 395, 102, 396] (by decide +kernel) (by decide +kernel)
set_option maxRecDepth 20000 in
theorem gL_law_L_claps : GoodIn wsL_law (va_wsS RL 135 yL_claps wsL_claps) := goodIn_app (goodIn_of _ (by decide +kernel)) ggL_law_L_claps
set_option maxRecDepth 20000 in
theorem ggL_law_L_ends : GoodIn wsL_law wsL_ends := goodIn_r _ [399] (by decide +kernel) (by decide +kernel)
set_option maxRecDepth 20000 in
theorem gL_law_L_ends : GoodIn wsL_law (va_wsS RL 27 yL_ends wsL_ends) := goodIn_app (goodIn_of _ (by decide +kernel)) ggL_law_L_ends
set_option maxRecDepth 20000 in
theorem ggL_law_L_second : GoodIn wsL_law wsL_second := goodIn_r _ [402, 403, 404, 102, 405, 394, 395, 396, 406, 407, 408] (by decide +kernel) (by decide +kernel)
set_option maxRecDepth 20000 in
theorem gL_law_L_second : GoodIn wsL_law (va_wsS RL 139 yL_second wsL_second) := goodIn_app (goodIn_of _ (by decide +kernel)) ggL_law_L_second
set_option maxRecDepth 20000 in
theorem ggL_law_L_plays : GoodIn wsL_law wsL_plays := goodIn_r _ [411, 412, 413, 102, 414, 406, 407, 408, 397, 398, 399, 415, 416, 417] (by decide +kernel) (by decide +kernel)
set_option maxRecDepth 20000 in
theorem gL_law_L_plays : GoodIn wsL_law (va_wsS RL 143 yL_plays wsL_plays) := goodIn_app (goodIn_of _ (by decide +kernel)) ggL_law_L_plays
set_option maxRecDepth 20000 in
theorem ggL_law_L_nights : GoodIn wsL_law wsL_nights := goodIn_r _ [420, 394, 395, 102, 396] (by decide +kernel) (by decide +kernel)
set_option maxRecDepth 20000 in
theorem gL_law_L_nights : GoodIn wsL_law (va_wsS RL 147 yL_nights wsL_nights) := goodIn_app (goodIn_of _ (by decide +kernel)) ggL_law_L_nights
set_option maxRecDepth 20000 in
theorem ggL_law_L_ofRest : GoodIn wsL_law wsL_ofRest := goodIn_r _ [423, 424, 425, 102, 426] (by decide +kernel) (by decide +kernel)
set_option maxRecDepth 20000 in
theorem gL_law_L_ofRest : GoodIn wsL_law (va_wsS RL 151 yL_ofRest wsL_ofRest) := goodIn_app (goodIn_of _ (by decide +kernel)) ggL_law_L_ofRest
set_option maxRecDepth 20000 in
theorem il_big : Cond.code yL_isSo cL_isSo 21 (some .boolean) ∈ wsL_law := List.mem_append_left _ (List.mem_append_left _ (List.mem_append_left _ (List.mem_append_left _ (List.mem_append_left _ (List.mem_append_left _ (List.mem_append_left _ (List.mem_append_left _ (List.mem_append_left _ (List.mem_append_right _ (List.mem_append_right _ (List.mem_append_right _ (List.mem_append_right _ (List.mem_append_right _ (List.mem_append_right _ (List.mem_append_right _ (List.mem_append_right _ (List.mem_append_right _ (List.mem_append_right _ (List.mem_append_right _ (List.mem_append_right _ (List.mem_append_right _ (List.mem_append_right _ (List.mem_append_right _ (List.mem_append_right _ (List.mem_append_right _ (List.mem_append_left _ (List.mem_of_getElem? (i := 21) rfl)))))))))))))))))))))))))))
theorem goodIn_c {big a : List Cond} {c : Cond} (hm : c ∈ big) (hg : goodWord c = true) (ha : GoodIn big a) : GoodIn big (c :: a) := fun w h => (List.mem_cons.mp h).elim (fun e => e ▸ ⟨hm, good_of_word hg⟩) (ha w)
set_option maxRecDepth 20000 in
theorem ggL_law_L_isSo : GoodIn wsL_law wsL_isSo := show GoodIn wsL_law (Cond.code yL_isSo cL_isSo 21 (some .boolean) :: wsL_isSo.tail) from goodIn_c il_big rfl (goodIn_r _ [117, 118, 119, 2, 120, 22, 17, 13, 121, 122, 123, 21, 124, 125, 126, 127, 128, 16, 129, 130, 131, 132, 133, 12, 134, 135, 136, 137, 43, 42, 45, 138, 38, 34, 139, 140, 141, 33, 142, 54, 143, 144, 145, 146, 147, 148, 149, 150, 151, 152, 153, 37, 154, 61, 155, 430, 431, 102, 432, 424, 425, 426, 106, 107, 108, 109, 412, 413, 414, 180, 181, 182, 183, 184, 185, 186, 41, 187, 76, 77, 78, 188, 189, 190, 191, 192, 193, 194, 74, 195, 415, 416, 417, 433, 434, 435, 436, 437, 438, 439, 440, 441, 51, 52, 53, 442, 334, 335, 336, 196, 197, 198, 199, 200, 201, 202, 203, 75, 204, 205, 206, 207, 208, 209, 210, 211, 212, 213, 214, 44, 215, 216, 217, 443, 444, 445, 446, 447, 448, 449, 403, 404, 405, 450, 451, 452, 453, 454, 455, 456, 457, 314, 315, 316, 458, 459, 460, 461, 462, 463, 464, 465, 466, 467, 468, 156, 157, 158, 159, 160, 161, 162, 163, 164, 165, 166, 167, 168, 169, 170, 469, 470, 471, 472, 473, 474, 475, 476, 238, 171, 172, 173, 174, 175, 176, 177, 178, 179, 64, 477, 478, 479, 480, 481, 496, 497, 493, 494, 495, 482, 483, 484, 485, 486, 487, 488, 489, 490, 491, 492, 512, 513, 514, 515, 516, 517, 504, 505, 506, 507, 508, 509, 510, 511, 503] (by decide +kernel) (by decide +kernel))
set_option maxRecDepth 20000 in
theorem gL_law_L_isSo : GoodIn wsL_law (va_wsS RL 155 yL_isSo wsL_isSo) := goodIn_app (goodIn_of _ (by decide +kernel)) ggL_law_L_isSo
theorem dL_law_0 : decode cL_law 0 = .ok (.new 35, 3) := by decide +kernel
theorem dL_law_3 : decode cL_law 3 = .ok (.dup, 1) := by decide +kernel
theorem dL_law_4 : decode cL_law 4 = .ok (.invokespecial 120, 3) := by decide +kernel
theorem dL_law_7 : decode cL_law 7 = .ok (.astore_n 1, 1) := by decide +kernel
theorem dL_law_8 : decode cL_law 8 = .ok (.bipush 19, 2) := by decide +kernel
theorem dL_law_10 : decode cL_law 10 = .ok (.newarray .int, 2) := by decide +kernel
theorem dL_law_12 : decode cL_law 12 = .ok (.astore_n 2, 1) := by decide +kernel
theorem dL_law_13 : decode cL_law 13 = .ok (.bipush 30, 2) := by decide +kernel
theorem dL_law_15 : decode cL_law 15 = .ok (.newarray .int, 2) := by decide +kernel
theorem dL_law_17 : decode cL_law 17 = .ok (.astore_n 3, 1) := by decide +kernel
theorem dL_law_18 : decode cL_law 18 = .ok (.bipush 30, 2) := by decide +kernel
theorem dL_law_20 : decode cL_law 20 = .ok (.newarray .int, 2) := by decide +kernel
theorem dL_law_22 : decode cL_law 22 = .ok (.astore 4, 2) := by decide +kernel
theorem dL_law_24 : decode cL_law 24 = .ok (.bipush 30, 2) := by decide +kernel
theorem dL_law_26 : decode cL_law 26 = .ok (.newarray .int, 2) := by decide +kernel
theorem dL_law_28 : decode cL_law 28 = .ok (.astore 5, 2) := by decide +kernel
theorem dL_law_30 : decode cL_law 30 = .ok (.bipush 30, 2) := by decide +kernel
theorem dL_law_32 : decode cL_law 32 = .ok (.newarray .int, 2) := by decide +kernel
theorem dL_law_34 : decode cL_law 34 = .ok (.astore 6, 2) := by decide +kernel
theorem dL_law_36 : decode cL_law 36 = .ok (.bipush 18, 2) := by decide +kernel
theorem dL_law_38 : decode cL_law 38 = .ok (.newarray .int, 2) := by decide +kernel
theorem dL_law_40 : decode cL_law 40 = .ok (.astore 7, 2) := by decide +kernel
theorem dL_law_42 : decode cL_law 42 = .ok (.bipush 16, 2) := by decide +kernel
theorem dL_law_44 : decode cL_law 44 = .ok (.newarray .int, 2) := by decide +kernel
theorem dL_law_46 : decode cL_law 46 = .ok (.astore 8, 2) := by decide +kernel
theorem dL_law_48 : decode cL_law 48 = .ok (.bipush 30, 2) := by decide +kernel
theorem dL_law_50 : decode cL_law 50 = .ok (.newarray .int, 2) := by decide +kernel
theorem dL_law_52 : decode cL_law 52 = .ok (.astore 9, 2) := by decide +kernel
theorem dL_law_54 : decode cL_law 54 = .ok (.bipush 24, 2) := by decide +kernel
theorem dL_law_56 : decode cL_law 56 = .ok (.newarray .int, 2) := by decide +kernel
theorem dL_law_58 : decode cL_law 58 = .ok (.astore 10, 2) := by decide +kernel
theorem dL_law_60 : decode cL_law 60 = .ok (.aload_n 2, 1) := by decide +kernel
theorem dL_law_61 : decode cL_law 61 = .ok (.iconst 0, 1) := by decide +kernel
theorem dL_law_62 : decode cL_law 62 = .ok (.bipush 10, 2) := by decide +kernel
theorem dL_law_64 : decode cL_law 64 = .ok (.iastore, 1) := by decide +kernel
theorem dL_law_65 : decode cL_law 65 = .ok (.aload_n 2, 1) := by decide +kernel
theorem dL_law_66 : decode cL_law 66 = .ok (.iconst 1, 1) := by decide +kernel
theorem dL_law_67 : decode cL_law 67 = .ok (.sipush 200, 3) := by decide +kernel
theorem dL_law_70 : decode cL_law 70 = .ok (.iastore, 1) := by decide +kernel
theorem dL_law_71 : decode cL_law 71 = .ok (.aload_n 2, 1) := by decide +kernel
theorem dL_law_72 : decode cL_law 72 = .ok (.iconst 2, 1) := by decide +kernel
theorem dL_law_73 : decode cL_law 73 = .ok (.bipush 60, 2) := by decide +kernel
theorem dL_law_75 : decode cL_law 75 = .ok (.iastore, 1) := by decide +kernel
theorem dL_law_76 : decode cL_law 76 = .ok (.aload_n 2, 1) := by decide +kernel
theorem dL_law_77 : decode cL_law 77 = .ok (.iconst 3, 1) := by decide +kernel
theorem dL_law_78 : decode cL_law 78 = .ok (.iconst 2, 1) := by decide +kernel
theorem dL_law_79 : decode cL_law 79 = .ok (.iastore, 1) := by decide +kernel
theorem dL_law_80 : decode cL_law 80 = .ok (.aload_n 2, 1) := by decide +kernel
theorem dL_law_81 : decode cL_law 81 = .ok (.iconst 4, 1) := by decide +kernel
theorem dL_law_82 : decode cL_law 82 = .ok (.iconst 3, 1) := by decide +kernel
theorem dL_law_83 : decode cL_law 83 = .ok (.iastore, 1) := by decide +kernel
theorem dL_law_84 : decode cL_law 84 = .ok (.aload_n 2, 1) := by decide +kernel
theorem dL_law_85 : decode cL_law 85 = .ok (.iconst 5, 1) := by decide +kernel
theorem dL_law_86 : decode cL_law 86 = .ok (.bipush 50, 2) := by decide +kernel
theorem dL_law_88 : decode cL_law 88 = .ok (.iastore, 1) := by decide +kernel
theorem dL_law_89 : decode cL_law 89 = .ok (.aload_n 2, 1) := by decide +kernel
theorem dL_law_90 : decode cL_law 90 = .ok (.bipush 13, 2) := by decide +kernel
theorem dL_law_92 : decode cL_law 92 = .ok (.iconst (-1), 1) := by decide +kernel
theorem dL_law_93 : decode cL_law 93 = .ok (.iastore, 1) := by decide +kernel
theorem dL_law_94 : decode cL_law 94 = .ok (.iconst 0, 1) := by decide +kernel
theorem dL_law_95 : decode cL_law 95 = .ok (.istore 11, 2) := by decide +kernel
theorem dL_law_97 : decode cL_law 97 = .ok (.iload 11, 2) := by decide +kernel
theorem dL_law_99 : decode cL_law 99 = .ok (.bipush 30, 2) := by decide +kernel
theorem dL_law_101 : decode cL_law 101 = .ok (.if_icmp .ge 14, 3) := by decide +kernel
theorem dL_law_104 : decode cL_law 104 = .ok (.aload_n 3, 1) := by decide +kernel
theorem dL_law_105 : decode cL_law 105 = .ok (.iload 11, 2) := by decide +kernel
theorem dL_law_107 : decode cL_law 107 = .ok (.iconst 3, 1) := by decide +kernel
theorem dL_law_108 : decode cL_law 108 = .ok (.iastore, 1) := by decide +kernel
theorem dL_law_109 : decode cL_law 109 = .ok (.iinc 11 1, 3) := by decide +kernel
theorem dL_law_112 : decode cL_law 112 = .ok (.goto (-15), 3) := by decide +kernel
theorem dL_law_115 : decode cL_law 115 = .ok (.iconst 0, 1) := by decide +kernel
theorem dL_law_116 : decode cL_law 116 = .ok (.istore 11, 2) := by decide +kernel
theorem dL_law_118 : decode cL_law 118 = .ok (.iload 11, 2) := by decide +kernel
theorem dL_law_120 : decode cL_law 120 = .ok (.bipush 60, 2) := by decide +kernel
theorem dL_law_122 : decode cL_law 122 = .ok (.if_icmp .ge 606, 3) := by decide +kernel
theorem dL_law_125 : decode cL_law 125 = .ok (.aload_n 0, 1) := by decide +kernel
theorem dL_law_126 : decode cL_law 126 = .ok (.iconst 2, 1) := by decide +kernel
theorem dL_law_127 : decode cL_law 127 = .ok (.iload 11, 2) := by decide +kernel
theorem dL_law_129 : decode cL_law 129 = .ok (.imul, 1) := by decide +kernel
theorem dL_law_130 : decode cL_law 130 = .ok (.invokestatic 121, 3) := by decide +kernel
theorem dL_law_133 : decode cL_law 133 = .ok (.istore 12, 2) := by decide +kernel
theorem dL_law_135 : decode cL_law 135 = .ok (.aload_n 0, 1) := by decide +kernel
theorem dL_law_136 : decode cL_law 136 = .ok (.iconst 2, 1) := by decide +kernel
theorem dL_law_137 : decode cL_law 137 = .ok (.iload 11, 2) := by decide +kernel
theorem dL_law_139 : decode cL_law 139 = .ok (.imul, 1) := by decide +kernel
theorem dL_law_140 : decode cL_law 140 = .ok (.iconst 1, 1) := by decide +kernel
theorem dL_law_141 : decode cL_law 141 = .ok (.iadd, 1) := by decide +kernel
theorem dL_law_142 : decode cL_law 142 = .ok (.invokestatic 121, 3) := by decide +kernel
theorem dL_law_145 : decode cL_law 145 = .ok (.istore 13, 2) := by decide +kernel
theorem dL_law_147 : decode cL_law 147 = .ok (.iload 12, 2) := by decide +kernel
theorem dL_law_149 : decode cL_law 149 = .ok (.bipush 32, 2) := by decide +kernel
theorem dL_law_151 : decode cL_law 151 = .ok (.invokestatic 84, 3) := by decide +kernel
theorem dL_law_154 : decode cL_law 154 = .ok (.istore 14, 2) := by decide +kernel
theorem dL_law_156 : decode cL_law 156 = .ok (.iload 14, 2) := by decide +kernel
theorem dL_law_158 : decode cL_law 158 = .ok (.bipush 14, 2) := by decide +kernel
theorem dL_law_160 : decode cL_law 160 = .ok (.if_icmp .ge 7, 3) := by decide +kernel
theorem dL_law_163 : decode cL_law 163 = .ok (.iconst 0, 1) := by decide +kernel
theorem dL_law_164 : decode cL_law 164 = .ok (.goto 84, 3) := by decide +kernel
theorem dL_law_167 : decode cL_law 167 = .ok (.iload 14, 2) := by decide +kernel
theorem dL_law_169 : decode cL_law 169 = .ok (.bipush 18, 2) := by decide +kernel
theorem dL_law_171 : decode cL_law 171 = .ok (.if_icmp .ge 7, 3) := by decide +kernel
theorem dL_law_174 : decode cL_law 174 = .ok (.iconst 1, 1) := by decide +kernel
theorem dL_law_175 : decode cL_law 175 = .ok (.goto 73, 3) := by decide +kernel
theorem dL_law_178 : decode cL_law 178 = .ok (.iload 14, 2) := by decide +kernel
theorem dL_law_180 : decode cL_law 180 = .ok (.bipush 21, 2) := by decide +kernel
theorem dL_law_182 : decode cL_law 182 = .ok (.if_icmp .ge 7, 3) := by decide +kernel
theorem dL_law_185 : decode cL_law 185 = .ok (.iconst 2, 1) := by decide +kernel
theorem dL_law_186 : decode cL_law 186 = .ok (.goto 62, 3) := by decide +kernel
theorem dL_law_189 : decode cL_law 189 = .ok (.iload 14, 2) := by decide +kernel
theorem dL_law_191 : decode cL_law 191 = .ok (.bipush 24, 2) := by decide +kernel
theorem dL_law_193 : decode cL_law 193 = .ok (.if_icmp .ge 7, 3) := by decide +kernel
theorem dL_law_196 : decode cL_law 196 = .ok (.iconst 3, 1) := by decide +kernel
theorem dL_law_197 : decode cL_law 197 = .ok (.goto 51, 3) := by decide +kernel
theorem dL_law_200 : decode cL_law 200 = .ok (.iload 14, 2) := by decide +kernel
theorem dL_law_202 : decode cL_law 202 = .ok (.bipush 26, 2) := by decide +kernel
theorem dL_law_204 : decode cL_law 204 = .ok (.if_icmp .ge 7, 3) := by decide +kernel
theorem dL_law_207 : decode cL_law 207 = .ok (.iconst 4, 1) := by decide +kernel
theorem dL_law_208 : decode cL_law 208 = .ok (.goto 40, 3) := by decide +kernel
theorem dL_law_211 : decode cL_law 211 = .ok (.iload 14, 2) := by decide +kernel
theorem dL_law_213 : decode cL_law 213 = .ok (.bipush 26, 2) := by decide +kernel
theorem dL_law_215 : decode cL_law 215 = .ok (.if_icmp .ne 7, 3) := by decide +kernel
theorem dL_law_218 : decode cL_law 218 = .ok (.iconst 5, 1) := by decide +kernel
theorem dL_law_219 : decode cL_law 219 = .ok (.goto 29, 3) := by decide +kernel
theorem dL_law_222 : decode cL_law 222 = .ok (.iload 14, 2) := by decide +kernel
theorem dL_law_224 : decode cL_law 224 = .ok (.bipush 29, 2) := by decide +kernel
theorem dL_law_226 : decode cL_law 226 = .ok (.if_icmp .ge 8, 3) := by decide +kernel
theorem dL_law_229 : decode cL_law 229 = .ok (.bipush 6, 2) := by decide +kernel
theorem dL_law_231 : decode cL_law 231 = .ok (.goto 17, 3) := by decide +kernel
theorem dL_law_234 : decode cL_law 234 = .ok (.iload 14, 2) := by decide +kernel
theorem dL_law_236 : decode cL_law 236 = .ok (.bipush 29, 2) := by decide +kernel
theorem dL_law_238 : decode cL_law 238 = .ok (.if_icmp .ne 8, 3) := by decide +kernel
theorem dL_law_241 : decode cL_law 241 = .ok (.bipush 7, 2) := by decide +kernel
theorem dL_law_243 : decode cL_law 243 = .ok (.goto 5, 3) := by decide +kernel
theorem dL_law_246 : decode cL_law 246 = .ok (.bipush 8, 2) := by decide +kernel
theorem dL_law_248 : decode cL_law 248 = .ok (.istore 14, 2) := by decide +kernel
theorem dL_law_250 : decode cL_law 250 = .ok (.iload 14, 2) := by decide +kernel
theorem dL_law_252 : decode cL_law 252 = .ok (.ifCond .eq 17, 3) := by decide +kernel
theorem dL_law_255 : decode cL_law 255 = .ok (.iload 14, 2) := by decide +kernel
theorem dL_law_257 : decode cL_law 257 = .ok (.bipush 6, 2) := by decide +kernel
theorem dL_law_259 : decode cL_law 259 = .ok (.if_icmp .eq 10, 3) := by decide +kernel
theorem dL_law_262 : decode cL_law 262 = .ok (.iload 14, 2) := by decide +kernel
theorem dL_law_264 : decode cL_law 264 = .ok (.bipush 7, 2) := by decide +kernel
theorem dL_law_266 : decode cL_law 266 = .ok (.if_icmp .ne 13, 3) := by decide +kernel
theorem dL_law_269 : decode cL_law 269 = .ok (.iload 13, 2) := by decide +kernel
theorem dL_law_271 : decode cL_law 271 = .ok (.bipush 30, 2) := by decide +kernel
theorem dL_law_273 : decode cL_law 273 = .ok (.invokestatic 84, 3) := by decide +kernel
theorem dL_law_276 : decode cL_law 276 = .ok (.goto 44, 3) := by decide +kernel
theorem dL_law_279 : decode cL_law 279 = .ok (.iload 14, 2) := by decide +kernel
theorem dL_law_281 : decode cL_law 281 = .ok (.iconst 2, 1) := by decide +kernel
theorem dL_law_282 : decode cL_law 282 = .ok (.if_icmp .ne 31, 3) := by decide +kernel
theorem dL_law_285 : decode cL_law 285 = .ok (.iconst 1, 1) := by decide +kernel
theorem dL_law_286 : decode cL_law 286 = .ok (.iload 13, 2) := by decide +kernel
theorem dL_law_288 : decode cL_law 288 = .ok (.iload 13, 2) := by decide +kernel
theorem dL_law_290 : decode cL_law 290 = .ok (.bipush 20, 2) := by decide +kernel
theorem dL_law_292 : decode cL_law 292 = .ok (.ishr, 1) := by decide +kernel
theorem dL_law_293 : decode cL_law 293 = .ok (.iconst 4, 1) := by decide +kernel
theorem dL_law_294 : decode cL_law 294 = .ok (.invokestatic 84, 3) := by decide +kernel
theorem dL_law_297 : decode cL_law 297 = .ok (.ifCond .ne 8, 3) := by decide +kernel
theorem dL_law_300 : decode cL_law 300 = .ok (.bipush 99, 2) := by decide +kernel
theorem dL_law_302 : decode cL_law 302 = .ok (.goto 4, 3) := by decide +kernel
theorem dL_law_305 : decode cL_law 305 = .ok (.iconst 4, 1) := by decide +kernel
theorem dL_law_306 : decode cL_law 306 = .ok (.invokestatic 84, 3) := by decide +kernel
theorem dL_law_309 : decode cL_law 309 = .ok (.iadd, 1) := by decide +kernel
theorem dL_law_310 : decode cL_law 310 = .ok (.goto 10, 3) := by decide +kernel
theorem dL_law_313 : decode cL_law 313 = .ok (.iload 13, 2) := by decide +kernel
theorem dL_law_315 : decode cL_law 315 = .ok (.bipush 6, 2) := by decide +kernel
theorem dL_law_317 : decode cL_law 317 = .ok (.invokestatic 84, 3) := by decide +kernel
theorem dL_law_320 : decode cL_law 320 = .ok (.istore 15, 2) := by decide +kernel
theorem dL_law_322 : decode cL_law 322 = .ok (.iload 14, 2) := by decide +kernel
theorem dL_law_324 : decode cL_law 324 = .ok (.bipush 6, 2) := by decide +kernel
theorem dL_law_326 : decode cL_law 326 = .ok (.if_icmp .ne 17, 3) := by decide +kernel
theorem dL_law_329 : decode cL_law 329 = .ok (.iconst 1, 1) := by decide +kernel
theorem dL_law_330 : decode cL_law 330 = .ok (.iload 13, 2) := by decide +kernel
theorem dL_law_332 : decode cL_law 332 = .ok (.iconst 5, 1) := by decide +kernel
theorem dL_law_333 : decode cL_law 333 = .ok (.ishr, 1) := by decide +kernel
theorem dL_law_334 : decode cL_law 334 = .ok (.bipush 9, 2) := by decide +kernel
theorem dL_law_336 : decode cL_law 336 = .ok (.invokestatic 84, 3) := by decide +kernel
theorem dL_law_339 : decode cL_law 339 = .ok (.iadd, 1) := by decide +kernel
theorem dL_law_340 : decode cL_law 340 = .ok (.goto 112, 3) := by decide +kernel
theorem dL_law_343 : decode cL_law 343 = .ok (.iload 15, 2) := by decide +kernel
theorem dL_law_345 : decode cL_law 345 = .ok (.ifCond .ne 17, 3) := by decide +kernel
theorem dL_law_348 : decode cL_law 348 = .ok (.iconst 1, 1) := by decide +kernel
theorem dL_law_349 : decode cL_law 349 = .ok (.iload 13, 2) := by decide +kernel
theorem dL_law_351 : decode cL_law 351 = .ok (.iconst 5, 1) := by decide +kernel
theorem dL_law_352 : decode cL_law 352 = .ok (.ishr, 1) := by decide +kernel
theorem dL_law_353 : decode cL_law 353 = .ok (.bipush 50, 2) := by decide +kernel
theorem dL_law_355 : decode cL_law 355 = .ok (.invokestatic 84, 3) := by decide +kernel
theorem dL_law_358 : decode cL_law 358 = .ok (.iadd, 1) := by decide +kernel
theorem dL_law_359 : decode cL_law 359 = .ok (.goto 93, 3) := by decide +kernel
theorem dL_law_362 : decode cL_law 362 = .ok (.iload 15, 2) := by decide +kernel
theorem dL_law_364 : decode cL_law 364 = .ok (.iconst 1, 1) := by decide +kernel
theorem dL_law_365 : decode cL_law 365 = .ok (.if_icmp .ne 18, 3) := by decide +kernel
theorem dL_law_368 : decode cL_law 368 = .ok (.bipush 20, 2) := by decide +kernel
theorem dL_law_370 : decode cL_law 370 = .ok (.iload 13, 2) := by decide +kernel
theorem dL_law_372 : decode cL_law 372 = .ok (.iconst 5, 1) := by decide +kernel
theorem dL_law_373 : decode cL_law 373 = .ok (.ishr, 1) := by decide +kernel
theorem dL_law_374 : decode cL_law 374 = .ok (.bipush 100, 2) := by decide +kernel
theorem dL_law_376 : decode cL_law 376 = .ok (.invokestatic 84, 3) := by decide +kernel
theorem dL_law_379 : decode cL_law 379 = .ok (.iadd, 1) := by decide +kernel
theorem dL_law_380 : decode cL_law 380 = .ok (.goto 72, 3) := by decide +kernel
theorem dL_law_383 : decode cL_law 383 = .ok (.iload 15, 2) := by decide +kernel
theorem dL_law_385 : decode cL_law 385 = .ok (.iconst 2, 1) := by decide +kernel
theorem dL_law_386 : decode cL_law 386 = .ok (.if_icmp .ne 17, 3) := by decide +kernel
theorem dL_law_389 : decode cL_law 389 = .ok (.iconst 1, 1) := by decide +kernel
theorem dL_law_390 : decode cL_law 390 = .ok (.iload 13, 2) := by decide +kernel
theorem dL_law_392 : decode cL_law 392 = .ok (.iconst 5, 1) := by decide +kernel
theorem dL_law_393 : decode cL_law 393 = .ok (.ishr, 1) := by decide +kernel
theorem dL_law_394 : decode cL_law 394 = .ok (.bipush 60, 2) := by decide +kernel
theorem dL_law_396 : decode cL_law 396 = .ok (.invokestatic 84, 3) := by decide +kernel
theorem dL_law_399 : decode cL_law 399 = .ok (.iadd, 1) := by decide +kernel
theorem dL_law_400 : decode cL_law 400 = .ok (.goto 52, 3) := by decide +kernel
theorem dL_law_403 : decode cL_law 403 = .ok (.iload 15, 2) := by decide +kernel
theorem dL_law_405 : decode cL_law 405 = .ok (.iconst 3, 1) := by decide +kernel
theorem dL_law_406 : decode cL_law 406 = .ok (.if_icmp .ne 15, 3) := by decide +kernel
theorem dL_law_409 : decode cL_law 409 = .ok (.iload 13, 2) := by decide +kernel
theorem dL_law_411 : decode cL_law 411 = .ok (.iconst 5, 1) := by decide +kernel
theorem dL_law_412 : decode cL_law 412 = .ok (.ishr, 1) := by decide +kernel
theorem dL_law_413 : decode cL_law 413 = .ok (.bipush 10, 2) := by decide +kernel
theorem dL_law_415 : decode cL_law 415 = .ok (.invokestatic 84, 3) := by decide +kernel
theorem dL_law_418 : decode cL_law 418 = .ok (.goto 34, 3) := by decide +kernel
theorem dL_law_421 : decode cL_law 421 = .ok (.iload 15, 2) := by decide +kernel
theorem dL_law_423 : decode cL_law 423 = .ok (.iconst 4, 1) := by decide +kernel
theorem dL_law_424 : decode cL_law 424 = .ok (.if_icmp .ne 17, 3) := by decide +kernel
theorem dL_law_427 : decode cL_law 427 = .ok (.iconst 1, 1) := by decide +kernel
theorem dL_law_428 : decode cL_law 428 = .ok (.iload 13, 2) := by decide +kernel
theorem dL_law_430 : decode cL_law 430 = .ok (.iconst 5, 1) := by decide +kernel
theorem dL_law_431 : decode cL_law 431 = .ok (.ishr, 1) := by decide +kernel
theorem dL_law_432 : decode cL_law 432 = .ok (.bipush 9, 2) := by decide +kernel
theorem dL_law_434 : decode cL_law 434 = .ok (.invokestatic 84, 3) := by decide +kernel
theorem dL_law_437 : decode cL_law 437 = .ok (.iadd, 1) := by decide +kernel
theorem dL_law_438 : decode cL_law 438 = .ok (.goto 14, 3) := by decide +kernel
theorem dL_law_441 : decode cL_law 441 = .ok (.iconst 1, 1) := by decide +kernel
theorem dL_law_442 : decode cL_law 442 = .ok (.iload 13, 2) := by decide +kernel
theorem dL_law_444 : decode cL_law 444 = .ok (.iconst 5, 1) := by decide +kernel
theorem dL_law_445 : decode cL_law 445 = .ok (.ishr, 1) := by decide +kernel
theorem dL_law_446 : decode cL_law 446 = .ok (.bipush 100, 2) := by decide +kernel
theorem dL_law_448 : decode cL_law 448 = .ok (.invokestatic 84, 3) := by decide +kernel
theorem dL_law_451 : decode cL_law 451 = .ok (.iadd, 1) := by decide +kernel
theorem dL_law_452 : decode cL_law 452 = .ok (.istore 16, 2) := by decide +kernel
theorem dL_law_454 : decode cL_law 454 = .ok (.aload_n 1, 1) := by decide +kernel
theorem dL_law_455 : decode cL_law 455 = .ok (.invokestatic 125, 3) := by decide +kernel
theorem dL_law_458 : decode cL_law 458 = .ok (.lstore 17, 2) := by decide +kernel
theorem dL_law_460 : decode cL_law 460 = .ok (.aload_n 1, 1) := by decide +kernel
theorem dL_law_461 : decode cL_law 461 = .ok (.iload 14, 2) := by decide +kernel
theorem dL_law_463 : decode cL_law 463 = .ok (.iload 15, 2) := by decide +kernel
theorem dL_law_465 : decode cL_law 465 = .ok (.iload 16, 2) := by decide +kernel
theorem dL_law_467 : decode cL_law 467 = .ok (.invokestatic 129, 3) := by decide +kernel
theorem dL_law_470 : decode cL_law 470 = .ok (.istore 19, 2) := by decide +kernel
theorem dL_law_472 : decode cL_law 472 = .ok (.iload 19, 2) := by decide +kernel
theorem dL_law_474 : decode cL_law 474 = .ok (.ifCond .ge 16, 3) := by decide +kernel
theorem dL_law_477 : decode cL_law 477 = .ok (.aload_n 1, 1) := by decide +kernel
theorem dL_law_478 : decode cL_law 478 = .ok (.invokestatic 125, 3) := by decide +kernel
theorem dL_law_481 : decode cL_law 481 = .ok (.lload 17, 2) := by decide +kernel
theorem dL_law_483 : decode cL_law 483 = .ok (.lcmp, 1) := by decide +kernel
theorem dL_law_484 : decode cL_law 484 = .ok (.ifCond .eq 50, 3) := by decide +kernel
theorem dL_law_487 : decode cL_law 487 = .ok (.goto 45, 3) := by decide +kernel
theorem dL_law_490 : decode cL_law 490 = .ok (.iload 12, 2) := by decide +kernel
theorem dL_law_492 : decode cL_law 492 = .ok (.bipush 24, 2) := by decide +kernel
theorem dL_law_494 : decode cL_law 494 = .ok (.ishr, 1) := by decide +kernel
theorem dL_law_495 : decode cL_law 495 = .ok (.iconst 3, 1) := by decide +kernel
theorem dL_law_496 : decode cL_law 496 = .ok (.iand, 1) := by decide +kernel
theorem dL_law_497 : decode cL_law 497 = .ok (.ifCond .ne 37, 3) := by decide +kernel
theorem dL_law_500 : decode cL_law 500 = .ok (.aload_n 1, 1) := by decide +kernel
theorem dL_law_501 : decode cL_law 501 = .ok (.invokevirtual 132, 3) := by decide +kernel
theorem dL_law_504 : decode cL_law 504 = .ok (.ifCond .lt 28, 3) := by decide +kernel
theorem dL_law_507 : decode cL_law 507 = .ok (.aload_n 1, 1) := by decide +kernel
theorem dL_law_508 : decode cL_law 508 = .ok (.invokestatic 125, 3) := by decide +kernel
theorem dL_law_511 : decode cL_law 511 = .ok (.lload 17, 2) := by decide +kernel
theorem dL_law_513 : decode cL_law 513 = .ok (.lcmp, 1) := by decide +kernel
theorem dL_law_514 : decode cL_law 514 = .ok (.ifCond .ne 18, 3) := by decide +kernel
theorem dL_law_517 : decode cL_law 517 = .ok (.aload_n 1, 1) := by decide +kernel
theorem dL_law_518 : decode cL_law 518 = .ok (.iload 14, 2) := by decide +kernel
theorem dL_law_520 : decode cL_law 520 = .ok (.iload 15, 2) := by decide +kernel
theorem dL_law_522 : decode cL_law 522 = .ok (.iload 16, 2) := by decide +kernel
theorem dL_law_524 : decode cL_law 524 = .ok (.invokestatic 129, 3) := by decide +kernel
theorem dL_law_527 : decode cL_law 527 = .ok (.iload 19, 2) := by decide +kernel
theorem dL_law_529 : decode cL_law 529 = .ok (.if_icmp .eq 5, 3) := by decide +kernel
theorem dL_law_532 : decode cL_law 532 = .ok (.iconst 0, 1) := by decide +kernel
theorem dL_law_533 : decode cL_law 533 = .ok (.ireturn, 1) := by decide +kernel
theorem dL_law_534 : decode cL_law 534 = .ok (.iconst 0, 1) := by decide +kernel
theorem dL_law_535 : decode cL_law 535 = .ok (.istore 20, 2) := by decide +kernel
theorem dL_law_537 : decode cL_law 537 = .ok (.iload 14, 2) := by decide +kernel
theorem dL_law_539 : decode cL_law 539 = .ok (.ifCond .ne 27, 3) := by decide +kernel
theorem dL_law_542 : decode cL_law 542 = .ok (.iload 15, 2) := by decide +kernel
theorem dL_law_544 : decode cL_law 544 = .ok (.aload_n 2, 1) := by decide +kernel
theorem dL_law_545 : decode cL_law 545 = .ok (.aload_n 3, 1) := by decide +kernel
theorem dL_law_546 : decode cL_law 546 = .ok (.aload 4, 2) := by decide +kernel
theorem dL_law_548 : decode cL_law 548 = .ok (.aload 5, 2) := by decide +kernel
theorem dL_law_550 : decode cL_law 550 = .ok (.aload 6, 2) := by decide +kernel
theorem dL_law_552 : decode cL_law 552 = .ok (.aload 7, 2) := by decide +kernel
theorem dL_law_554 : decode cL_law 554 = .ok (.aload 8, 2) := by decide +kernel
theorem dL_law_556 : decode cL_law 556 = .ok (.aload 9, 2) := by decide +kernel
theorem dL_law_558 : decode cL_law 558 = .ok (.invokestatic 135, 3) := by decide +kernel
theorem dL_law_561 : decode cL_law 561 = .ok (.istore 20, 2) := by decide +kernel
theorem dL_law_563 : decode cL_law 563 = .ok (.goto 123, 3) := by decide +kernel
theorem dL_law_566 : decode cL_law 566 = .ok (.iload 14, 2) := by decide +kernel
theorem dL_law_568 : decode cL_law 568 = .ok (.iconst 1, 1) := by decide +kernel
theorem dL_law_569 : decode cL_law 569 = .ok (.if_icmp .ne 17, 3) := by decide +kernel
theorem dL_law_572 : decode cL_law 572 = .ok (.iload 15, 2) := by decide +kernel
theorem dL_law_574 : decode cL_law 574 = .ok (.aload_n 2, 1) := by decide +kernel
theorem dL_law_575 : decode cL_law 575 = .ok (.aload_n 3, 1) := by decide +kernel
theorem dL_law_576 : decode cL_law 576 = .ok (.aload 7, 2) := by decide +kernel
theorem dL_law_578 : decode cL_law 578 = .ok (.invokestatic 27, 3) := by decide +kernel
theorem dL_law_581 : decode cL_law 581 = .ok (.istore 20, 2) := by decide +kernel
theorem dL_law_583 : decode cL_law 583 = .ok (.goto 103, 3) := by decide +kernel
theorem dL_law_586 : decode cL_law 586 = .ok (.iload 14, 2) := by decide +kernel
theorem dL_law_588 : decode cL_law 588 = .ok (.iconst 2, 1) := by decide +kernel
theorem dL_law_589 : decode cL_law 589 = .ok (.if_icmp .ne 36, 3) := by decide +kernel
theorem dL_law_592 : decode cL_law 592 = .ok (.iconst 0, 1) := by decide +kernel
theorem dL_law_593 : decode cL_law 593 = .ok (.istore 21, 2) := by decide +kernel
theorem dL_law_595 : decode cL_law 595 = .ok (.iload 21, 2) := by decide +kernel
theorem dL_law_597 : decode cL_law 597 = .ok (.iload 15, 2) := by decide +kernel
theorem dL_law_599 : decode cL_law 599 = .ok (.if_icmp .ge 17, 3) := by decide +kernel
theorem dL_law_602 : decode cL_law 602 = .ok (.aload_n 2, 1) := by decide +kernel
theorem dL_law_603 : decode cL_law 603 = .ok (.aload 7, 2) := by decide +kernel
theorem dL_law_605 : decode cL_law 605 = .ok (.aload 8, 2) := by decide +kernel
theorem dL_law_607 : decode cL_law 607 = .ok (.invokestatic 139, 3) := by decide +kernel
theorem dL_law_610 : decode cL_law 610 = .ok (.iinc 21 1, 3) := by decide +kernel
theorem dL_law_613 : decode cL_law 613 = .ok (.goto (-18), 3) := by decide +kernel
theorem dL_law_616 : decode cL_law 616 = .ok (.aload_n 2, 1) := by decide +kernel
theorem dL_law_617 : decode cL_law 617 = .ok (.bipush 6, 2) := by decide +kernel
theorem dL_law_619 : decode cL_law 619 = .ok (.iaload, 1) := by decide +kernel
theorem dL_law_620 : decode cL_law 620 = .ok (.istore 20, 2) := by decide +kernel
theorem dL_law_622 : decode cL_law 622 = .ok (.goto 64, 3) := by decide +kernel
theorem dL_law_625 : decode cL_law 625 = .ok (.iload 14, 2) := by decide +kernel
theorem dL_law_627 : decode cL_law 627 = .ok (.iconst 3, 1) := by decide +kernel
theorem dL_law_628 : decode cL_law 628 = .ok (.if_icmp .ne 19, 3) := by decide +kernel
theorem dL_law_631 : decode cL_law 631 = .ok (.iload 15, 2) := by decide +kernel
theorem dL_law_633 : decode cL_law 633 = .ok (.aload_n 2, 1) := by decide +kernel
theorem dL_law_634 : decode cL_law 634 = .ok (.aload_n 3, 1) := by decide +kernel
theorem dL_law_635 : decode cL_law 635 = .ok (.aload 7, 2) := by decide +kernel
theorem dL_law_637 : decode cL_law 637 = .ok (.aload 8, 2) := by decide +kernel
theorem dL_law_639 : decode cL_law 639 = .ok (.invokestatic 143, 3) := by decide +kernel
theorem dL_law_642 : decode cL_law 642 = .ok (.istore 20, 2) := by decide +kernel
theorem dL_law_644 : decode cL_law 644 = .ok (.goto 42, 3) := by decide +kernel
theorem dL_law_647 : decode cL_law 647 = .ok (.iload 14, 2) := by decide +kernel
theorem dL_law_649 : decode cL_law 649 = .ok (.iconst 5, 1) := by decide +kernel
theorem dL_law_650 : decode cL_law 650 = .ok (.if_icmp .ne 21, 3) := by decide +kernel
theorem dL_law_653 : decode cL_law 653 = .ok (.aload_n 2, 1) := by decide +kernel
theorem dL_law_654 : decode cL_law 654 = .ok (.aload_n 3, 1) := by decide +kernel
theorem dL_law_655 : decode cL_law 655 = .ok (.aload 5, 2) := by decide +kernel
theorem dL_law_657 : decode cL_law 657 = .ok (.aload 7, 2) := by decide +kernel
theorem dL_law_659 : decode cL_law 659 = .ok (.aload 8, 2) := by decide +kernel
theorem dL_law_661 : decode cL_law 661 = .ok (.aload 10, 2) := by decide +kernel
theorem dL_law_663 : decode cL_law 663 = .ok (.invokestatic 147, 3) := by decide +kernel
theorem dL_law_666 : decode cL_law 666 = .ok (.istore 20, 2) := by decide +kernel
theorem dL_law_668 : decode cL_law 668 = .ok (.goto 18, 3) := by decide +kernel
theorem dL_law_671 : decode cL_law 671 = .ok (.iload 14, 2) := by decide +kernel
theorem dL_law_673 : decode cL_law 673 = .ok (.iload 15, 2) := by decide +kernel
theorem dL_law_675 : decode cL_law 675 = .ok (.iload 16, 2) := by decide +kernel
theorem dL_law_677 : decode cL_law 677 = .ok (.aload_n 2, 1) := by decide +kernel
theorem dL_law_678 : decode cL_law 678 = .ok (.aload_n 3, 1) := by decide +kernel
theorem dL_law_679 : decode cL_law 679 = .ok (.aload 4, 2) := by decide +kernel
theorem dL_law_681 : decode cL_law 681 = .ok (.invokestatic 151, 3) := by decide +kernel
theorem dL_law_684 : decode cL_law 684 = .ok (.istore 20, 2) := by decide +kernel
theorem dL_law_686 : decode cL_law 686 = .ok (.iload 19, 2) := by decide +kernel
theorem dL_law_688 : decode cL_law 688 = .ok (.iload 20, 2) := by decide +kernel
theorem dL_law_690 : decode cL_law 690 = .ok (.if_icmp .ne 30, 3) := by decide +kernel
theorem dL_law_693 : decode cL_law 693 = .ok (.aload_n 1, 1) := by decide +kernel
theorem dL_law_694 : decode cL_law 694 = .ok (.iload 12, 2) := by decide +kernel
theorem dL_law_696 : decode cL_law 696 = .ok (.iconst 5, 1) := by decide +kernel
theorem dL_law_697 : decode cL_law 697 = .ok (.ishr, 1) := by decide +kernel
theorem dL_law_698 : decode cL_law 698 = .ok (.aload_n 2, 1) := by decide +kernel
theorem dL_law_699 : decode cL_law 699 = .ok (.aload_n 3, 1) := by decide +kernel
theorem dL_law_700 : decode cL_law 700 = .ok (.aload 4, 2) := by decide +kernel
theorem dL_law_702 : decode cL_law 702 = .ok (.aload 5, 2) := by decide +kernel
theorem dL_law_704 : decode cL_law 704 = .ok (.aload 6, 2) := by decide +kernel
theorem dL_law_706 : decode cL_law 706 = .ok (.aload 7, 2) := by decide +kernel
theorem dL_law_708 : decode cL_law 708 = .ok (.aload 8, 2) := by decide +kernel
theorem dL_law_710 : decode cL_law 710 = .ok (.aload 9, 2) := by decide +kernel
theorem dL_law_712 : decode cL_law 712 = .ok (.aload 10, 2) := by decide +kernel
theorem dL_law_714 : decode cL_law 714 = .ok (.invokestatic 155, 3) := by decide +kernel
theorem dL_law_717 : decode cL_law 717 = .ok (.ifCond .ne 5, 3) := by decide +kernel
theorem dL_law_720 : decode cL_law 720 = .ok (.iconst 0, 1) := by decide +kernel
theorem dL_law_721 : decode cL_law 721 = .ok (.ireturn, 1) := by decide +kernel
theorem dL_law_722 : decode cL_law 722 = .ok (.iinc 11 1, 3) := by decide +kernel
theorem dL_law_725 : decode cL_law 725 = .ok (.goto (-607), 3) := by decide +kernel
theorem dL_law_728 : decode cL_law 728 = .ok (.iconst 1, 1) := by decide +kernel
theorem dL_law_729 : decode cL_law 729 = .ok (.ireturn, 1) := by decide +kernel
