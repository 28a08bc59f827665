theorem dX8_choose_20 : decode cX8_choose 20 = .ok (.bipush 22, 2) := by decide +kernel
theorem dX8_choose_22 : decode cX8_choose 22 = .ok (.irem, 1) := by decide +kernel
theorem dX8_choose_23 : decode cX8_choose 23 = .ok (.iastore, 1) := by decide +kernel
theorem dX8_choose_24 : decode cX8_choose 24 = .ok (.aload_n 0, 1) := by decide +kernel
theorem dX8_choose_25 : decode cX8_choose 25 = .ok (.getfield 47, 3) := by decide +kernel
theorem dX8_choose_28 : decode cX8_choose 28 = .ok (.iconst 2, 1) := by decide +kernel
theorem dX8_choose_29 : decode cX8_choose 29 = .ok (.iload_n 1, 1) := by decide +kernel
theorem dX8_choose_30 : decode cX8_choose 30 = .ok (.bipush 22, 2) := by decide +kernel
theorem dX8_choose_32 : decode cX8_choose 32 = .ok (.irem, 1) := by decide +kernel
theorem dX8_choose_33 : decode cX8_choose 33 = .ok (.iastore, 1) := by decide +kernel
theorem dX8_choose_34 : decode cX8_choose 34 = .ok (.iconst 0, 1) := by decide +kernel
theorem dX8_choose_35 : decode cX8_choose 35 = .ok (.istore_n 2, 1) := by decide +kernel
theorem dX8_choose_36 : decode cX8_choose 36 = .ok (.iconst 0, 1) := by decide +kernel
theorem dX8_choose_37 : decode cX8_choose 37 = .ok (.istore_n 3, 1) := by decide +kernel
theorem dX8_choose_38 : decode cX8_choose 38 = .ok (.iload_n 3, 1) := by decide +kernel
theorem dX8_choose_39 : decode cX8_choose 39 = .ok (.iconst 3, 1) := by decide +kernel
theorem dX8_choose_40 : decode cX8_choose 40 = .ok (.if_icmp .ge 139, 3) := by decide +kernel
theorem dX8_choose_43 : decode cX8_choose 43 = .ok (.aload_n 0, 1) := by decide +kernel
theorem dX8_choose_44 : decode cX8_choose 44 = .ok (.getfield 47, 3) := by decide +kernel
theorem dX8_choose_47 : decode cX8_choose 47 = .ok (.iload_n 3, 1) := by decide +kernel
theorem dX8_choose_48 : decode cX8_choose 48 = .ok (.iaload, 1) := by decide +kernel
theorem dX8_choose_49 : decode cX8_choose 49 = .ok (.istore 4, 2) := by decide +kernel
theorem dX8_choose_51 : decode cX8_choose 51 = .ok (.iload_n 3, 1) := by decide +kernel
theorem dX8_choose_52 : decode cX8_choose 52 = .ok (.ifCond .eq 23, 3) := by decide +kernel
theorem dX8_choose_55 : decode cX8_choose 55 = .ok (.iload 4, 2) := by decide +kernel
theorem dX8_choose_57 : decode cX8_choose 57 = .ok (.bipush 21, 2) := by decide +kernel
theorem dX8_choose_59 : decode cX8_choose 59 = .ok (.if_icmp .eq 16, 3) := by decide +kernel
theorem dX8_choose_62 : decode cX8_choose 62 = .ok (.aload_n 0, 1) := by decide +kernel
theorem dX8_choose_63 : decode cX8_choose 63 = .ok (.getfield 47, 3) := by decide +kernel
theorem dX8_choose_66 : decode cX8_choose 66 = .ok (.iload_n 3, 1) := by decide +kernel
theorem dX8_choose_67 : decode cX8_choose 67 = .ok (.iconst 1, 1) := by decide +kernel
theorem dX8_choose_68 : decode cX8_choose 68 = .ok (.isub, 1) := by decide +kernel
theorem dX8_choose_69 : decode cX8_choose 69 = .ok (.iaload, 1) := by decide +kernel
theorem dX8_choose_70 : decode cX8_choose 70 = .ok (.iload 4, 2) := by decide +kernel
theorem dX8_choose_72 : decode cX8_choose 72 = .ok (.if_icmp .ge 7, 3) := by decide +kernel
theorem dX8_choose_75 : decode cX8_choose 75 = .ok (.iconst 1, 1) := by decide +kernel
theorem dX8_choose_76 : decode cX8_choose 76 = .ok (.goto 4, 3) := by decide +kernel
theorem dX8_choose_79 : decode cX8_choose 79 = .ok (.iconst 0, 1) := by decide +kernel
theorem dX8_choose_80 : decode cX8_choose 80 = .ok (.istore 5, 2) := by decide +kernel
theorem dX8_choose_82 : decode cX8_choose 82 = .ok (.iload 4, 2) := by decide +kernel
theorem dX8_choose_84 : decode cX8_choose 84 = .ok (.bipush 21, 2) := by decide +kernel
theorem dX8_choose_86 : decode cX8_choose 86 = .ok (.if_icmp .ge 24, 3) := by decide +kernel
theorem dX8_choose_89 : decode cX8_choose 89 = .ok (.iload_n 3, 1) := by decide +kernel
theorem dX8_choose_90 : decode cX8_choose 90 = .ok (.ifCond .le 20, 3) := by decide +kernel
theorem dX8_choose_93 : decode cX8_choose 93 = .ok (.aload_n 0, 1) := by decide +kernel
theorem dX8_choose_94 : decode cX8_choose 94 = .ok (.getfield 47, 3) := by decide +kernel
theorem dX8_choose_97 : decode cX8_choose 97 = .ok (.iload_n 3, 1) := by decide +kernel
theorem dX8_choose_98 : decode cX8_choose 98 = .ok (.iconst 1, 1) := by decide +kernel
theorem dX8_choose_99 : decode cX8_choose 99 = .ok (.isub, 1) := by decide +kernel
theorem dX8_choose_100 : decode cX8_choose 100 = .ok (.iaload, 1) := by decide +kernel
theorem dX8_choose_101 : decode cX8_choose 101 = .ok (.bipush 21, 2) := by decide +kernel
theorem dX8_choose_103 : decode cX8_choose 103 = .ok (.if_icmp .ne 7, 3) := by decide +kernel
theorem dX8_choose_106 : decode cX8_choose 106 = .ok (.iconst 1, 1) := by decide +kernel
theorem dX8_choose_107 : decode cX8_choose 107 = .ok (.goto 4, 3) := by decide +kernel
theorem dX8_choose_110 : decode cX8_choose 110 = .ok (.iconst 0, 1) := by decide +kernel
theorem dX8_choose_111 : decode cX8_choose 111 = .ok (.istore 6, 2) := by decide +kernel
theorem dX8_choose_113 : decode cX8_choose 113 = .ok (.iload 5, 2) := by decide +kernel
theorem dX8_choose_115 : decode cX8_choose 115 = .ok (.ifCond .eq 47, 3) := by decide +kernel
theorem dX8_choose_118 : decode cX8_choose 118 = .ok (.iload 6, 2) := by decide +kernel
theorem dX8_choose_120 : decode cX8_choose 120 = .ok (.ifCond .ne 42, 3) := by decide +kernel
theorem dX8_choose_123 : decode cX8_choose 123 = .ok (.iload_n 2, 1) := by decide +kernel
theorem dX8_choose_124 : decode cX8_choose 124 = .ok (.aload_n 0, 1) := by decide +kernel
theorem dX8_choose_125 : decode cX8_choose 125 = .ok (.iload 4, 2) := by decide +kernel
theorem dX8_choose_127 : decode cX8_choose 127 = .ok (.invokevirtual 241, 3) := by decide +kernel
theorem dX8_choose_130 : decode cX8_choose 130 = .ok (.iand, 1) := by decide +kernel
theorem dX8_choose_131 : decode cX8_choose 131 = .ok (.ifCond .ne 31, 3) := by decide +kernel
theorem dX8_choose_134 : decode cX8_choose 134 = .ok (.iload 4, 2) := by decide +kernel
theorem dX8_choose_136 : decode cX8_choose 136 = .ok (.bipush 21, 2) := by decide +kernel
theorem dX8_choose_138 : decode cX8_choose 138 = .ok (.if_icmp .ge 26, 3) := by decide +kernel
theorem dX8_choose_141 : decode cX8_choose 141 = .ok (.aload_n 0, 1) := by decide +kernel
theorem dX8_choose_142 : decode cX8_choose 142 = .ok (.aload_n 0, 1) := by decide +kernel
theorem dX8_choose_143 : decode cX8_choose 143 = .ok (.getfield 19, 3) := by decide +kernel
theorem dX8_choose_146 : decode cX8_choose 146 = .ok (.iload 4, 2) := by decide +kernel
theorem dX8_choose_148 : decode cX8_choose 148 = .ok (.iaload, 1) := by decide +kernel
theorem dX8_choose_149 : decode cX8_choose 149 = .ok (.aload_n 0, 1) := by decide +kernel
theorem dX8_choose_150 : decode cX8_choose 150 = .ok (.getfield 22, 3) := by decide +kernel
theorem dX8_choose_153 : decode cX8_choose 153 = .ok (.iload 4, 2) := by decide +kernel
theorem dX8_choose_155 : decode cX8_choose 155 = .ok (.iaload, 1) := by decide +kernel
theorem dX8_choose_156 : decode cX8_choose 156 = .ok (.invokevirtual 162, 3) := by decide +kernel
theorem dX8_choose_159 : decode cX8_choose 159 = .ok (.ifCond .ne 5, 3) := by decide +kernel
theorem dX8_choose_162 : decode cX8_choose 162 = .ok (.iconst (-1), 1) := by decide +kernel
theorem dX8_choose_163 : decode cX8_choose 163 = .ok (.ireturn, 1) := by decide +kernel
theorem dX8_choose_164 : decode cX8_choose 164 = .ok (.iload_n 2, 1) := by decide +kernel
theorem dX8_choose_165 : decode cX8_choose 165 = .ok (.aload_n 0, 1) := by decide +kernel
theorem dX8_choose_166 : decode cX8_choose 166 = .ok (.iload 4, 2) := by decide +kernel
theorem dX8_choose_168 : decode cX8_choose 168 = .ok (.invokevirtual 241, 3) := by decide +kernel
theorem dX8_choose_171 : decode cX8_choose 171 = .ok (.ior, 1) := by decide +kernel
theorem dX8_choose_172 : decode cX8_choose 172 = .ok (.istore_n 2, 1) := by decide +kernel
theorem dX8_choose_173 : decode cX8_choose 173 = .ok (.iinc 3 1, 3) := by decide +kernel
theorem dX8_choose_176 : decode cX8_choose 176 = .ok (.goto (-138), 3) := by decide +kernel
theorem dX8_choose_179 : decode cX8_choose 179 = .ok (.iload_n 2, 1) := by decide +kernel
theorem dX8_choose_180 : decode cX8_choose 180 = .ok (.ireturn, 1) := by decide +kernel
theorem dX8_pairUp_0 : decode cX8_pairUp 0 = .ok (.iconst 1, 1) := by decide +kernel
theorem dX8_pairUp_1 : decode cX8_pairUp 1 = .ok (.istore_n 1, 1) := by decide +kernel
theorem dX8_pairUp_2 : decode cX8_pairUp 2 = .ok (.iconst 0, 1) := by decide +kernel
theorem dX8_pairUp_3 : decode cX8_pairUp 3 = .ok (.istore_n 2, 1) := by decide +kernel
theorem dX8_pairUp_4 : decode cX8_pairUp 4 = .ok (.iload_n 2, 1) := by decide +kernel
theorem dX8_pairUp_5 : decode cX8_pairUp 5 = .ok (.bipush 7, 2) := by decide +kernel
theorem dX8_pairUp_7 : decode cX8_pairUp 7 = .ok (.if_icmp .ge 17, 3) := by decide +kernel
theorem dX8_pairUp_10 : decode cX8_pairUp 10 = .ok (.aload_n 0, 1) := by decide +kernel
theorem dX8_pairUp_11 : decode cX8_pairUp 11 = .ok (.getfield 50, 3) := by decide +kernel
theorem dX8_pairUp_14 : decode cX8_pairUp 14 = .ok (.iload_n 2, 1) := by decide +kernel
theorem dX8_pairUp_15 : decode cX8_pairUp 15 = .ok (.bipush 7, 2) := by decide +kernel
theorem dX8_pairUp_17 : decode cX8_pairUp 17 = .ok (.iastore, 1) := by decide +kernel
theorem dX8_pairUp_18 : decode cX8_pairUp 18 = .ok (.iinc 2 1, 3) := by decide +kernel
theorem dX8_pairUp_21 : decode cX8_pairUp 21 = .ok (.goto (-17), 3) := by decide +kernel
theorem dX8_pairUp_24 : decode cX8_pairUp 24 = .ok (.iconst 0, 1) := by decide +kernel
theorem dX8_pairUp_25 : decode cX8_pairUp 25 = .ok (.istore_n 2, 1) := by decide +kernel
theorem dX8_pairUp_26 : decode cX8_pairUp 26 = .ok (.iload_n 2, 1) := by decide +kernel
theorem dX8_pairUp_27 : decode cX8_pairUp 27 = .ok (.iconst 3, 1) := by decide +kernel
theorem dX8_pairUp_28 : decode cX8_pairUp 28 = .ok (.if_icmp .ge 85, 3) := by decide +kernel
theorem dX8_pairUp_31 : decode cX8_pairUp 31 = .ok (.aload_n 0, 1) := by decide +kernel
theorem dX8_pairUp_32 : decode cX8_pairUp 32 = .ok (.getfield 47, 3) := by decide +kernel
theorem dX8_pairUp_35 : decode cX8_pairUp 35 = .ok (.iload_n 2, 1) := by decide +kernel
theorem dX8_pairUp_36 : decode cX8_pairUp 36 = .ok (.iaload, 1) := by decide +kernel
theorem dX8_pairUp_37 : decode cX8_pairUp 37 = .ok (.istore_n 3, 1) := by decide +kernel
theorem dX8_pairUp_38 : decode cX8_pairUp 38 = .ok (.iload_n 3, 1) := by decide +kernel
theorem dX8_pairUp_39 : decode cX8_pairUp 39 = .ok (.bipush 21, 2) := by decide +kernel
theorem dX8_pairUp_41 : decode cX8_pairUp 41 = .ok (.if_icmp .ge 66, 3) := by decide +kernel
theorem dX8_pairUp_44 : decode cX8_pairUp 44 = .ok (.aload_n 0, 1) := by decide +kernel
theorem dX8_pairUp_45 : decode cX8_pairUp 45 = .ok (.getfield 50, 3) := by decide +kernel
theorem dX8_pairUp_48 : decode cX8_pairUp 48 = .ok (.aload_n 0, 1) := by decide +kernel
theorem dX8_pairUp_49 : decode cX8_pairUp 49 = .ok (.getfield 19, 3) := by decide +kernel
theorem dX8_pairUp_52 : decode cX8_pairUp 52 = .ok (.iload_n 3, 1) := by decide +kernel
theorem dX8_pairUp_53 : decode cX8_pairUp 53 = .ok (.iaload, 1) := by decide +kernel
theorem dX8_pairUp_54 : decode cX8_pairUp 54 = .ok (.aload_n 0, 1) := by decide +kernel
theorem dX8_pairUp_55 : decode cX8_pairUp 55 = .ok (.getfield 22, 3) := by decide +kernel
theorem dX8_pairUp_58 : decode cX8_pairUp 58 = .ok (.iload_n 3, 1) := by decide +kernel
theorem dX8_pairUp_59 : decode cX8_pairUp 59 = .ok (.iaload, 1) := by decide +kernel
theorem dX8_pairUp_60 : decode cX8_pairUp 60 = .ok (.iastore, 1) := by decide +kernel
theorem dX8_pairUp_61 : decode cX8_pairUp 61 = .ok (.aload_n 0, 1) := by decide +kernel
theorem dX8_pairUp_62 : decode cX8_pairUp 62 = .ok (.getfield 50, 3) := by decide +kernel
theorem dX8_pairUp_65 : decode cX8_pairUp 65 = .ok (.aload_n 0, 1) := by decide +kernel
theorem dX8_pairUp_66 : decode cX8_pairUp 66 = .ok (.getfield 22, 3) := by decide +kernel
theorem dX8_pairUp_69 : decode cX8_pairUp 69 = .ok (.iload_n 3, 1) := by decide +kernel
theorem dX8_pairUp_70 : decode cX8_pairUp 70 = .ok (.iaload, 1) := by decide +kernel
theorem dX8_pairUp_71 : decode cX8_pairUp 71 = .ok (.aload_n 0, 1) := by decide +kernel
theorem dX8_pairUp_72 : decode cX8_pairUp 72 = .ok (.getfield 19, 3) := by decide +kernel
theorem dX8_pairUp_75 : decode cX8_pairUp 75 = .ok (.iload_n 3, 1) := by decide +kernel
theorem dX8_pairUp_76 : decode cX8_pairUp 76 = .ok (.iaload, 1) := by decide +kernel
theorem dX8_pairUp_77 : decode cX8_pairUp 77 = .ok (.iastore, 1) := by decide +kernel
theorem dX8_pairUp_78 : decode cX8_pairUp 78 = .ok (.iload_n 1, 1) := by decide +kernel
theorem dX8_pairUp_79 : decode cX8_pairUp 79 = .ok (.ifCond .eq 26, 3) := by decide +kernel
theorem dX8_pairUp_82 : decode cX8_pairUp 82 = .ok (.aload_n 0, 1) := by decide +kernel
theorem dX8_pairUp_83 : decode cX8_pairUp 83 = .ok (.aload_n 0, 1) := by decide +kernel
theorem dX8_pairUp_84 : decode cX8_pairUp 84 = .ok (.getfield 19, 3) := by decide +kernel
theorem dX8_pairUp_87 : decode cX8_pairUp 87 = .ok (.iload_n 3, 1) := by decide +kernel
theorem dX8_pairUp_88 : decode cX8_pairUp 88 = .ok (.iaload, 1) := by decide +kernel
theorem dX8_pairUp_89 : decode cX8_pairUp 89 = .ok (.aload_n 0, 1) := by decide +kernel
theorem dX8_pairUp_90 : decode cX8_pairUp 90 = .ok (.getfield 22, 3) := by decide +kernel
theorem dX8_pairUp_93 : decode cX8_pairUp 93 = .ok (.iload_n 3, 1) := by decide +kernel
theorem dX8_pairUp_94 : decode cX8_pairUp 94 = .ok (.iaload, 1) := by decide +kernel
theorem dX8_pairUp_95 : decode cX8_pairUp 95 = .ok (.invokevirtual 166, 3) := by decide +kernel
theorem dX8_pairUp_98 : decode cX8_pairUp 98 = .ok (.ifCond .eq 7, 3) := by decide +kernel
theorem dX8_pairUp_101 : decode cX8_pairUp 101 = .ok (.iconst 1, 1) := by decide +kernel
theorem dX8_pairUp_102 : decode cX8_pairUp 102 = .ok (.goto 4, 3) := by decide +kernel
theorem dX8_pairUp_105 : decode cX8_pairUp 105 = .ok (.iconst 0, 1) := by decide +kernel
theorem dX8_pairUp_106 : decode cX8_pairUp 106 = .ok (.istore_n 1, 1) := by decide +kernel
theorem dX8_pairUp_107 : decode cX8_pairUp 107 = .ok (.iinc 2 1, 3) := by decide +kernel
theorem dX8_pairUp_110 : decode cX8_pairUp 110 = .ok (.goto (-84), 3) := by decide +kernel
theorem dX8_pairUp_113 : decode cX8_pairUp 113 = .ok (.iload_n 1, 1) := by decide +kernel
theorem dX8_pairUp_114 : decode cX8_pairUp 114 = .ok (.ireturn, 1) := by decide +kernel
theorem dX8_isFirst_0 : decode cX8_isFirst 0 = .ok (.iconst 0, 1) := by decide +kernel
theorem dX8_isFirst_1 : decode cX8_isFirst 1 = .ok (.istore_n 1, 1) := by decide +kernel
theorem dX8_isFirst_2 : decode cX8_isFirst 2 = .ok (.iload_n 1, 1) := by decide +kernel
theorem dX8_isFirst_3 : decode cX8_isFirst 3 = .ok (.aload_n 0, 1) := by decide +kernel
theorem dX8_isFirst_4 : decode cX8_isFirst 4 = .ok (.getfield 94, 3) := by decide +kernel
theorem dX8_isFirst_7 : decode cX8_isFirst 7 = .ok (.if_icmp .ge 45, 3) := by decide +kernel
theorem dX8_isFirst_10 : decode cX8_isFirst 10 = .ok (.aload_n 0, 1) := by decide +kernel
theorem dX8_isFirst_11 : decode cX8_isFirst 11 = .ok (.getfield 50, 3) := by decide +kernel
theorem dX8_isFirst_14 : decode cX8_isFirst 14 = .ok (.iload_n 1, 1) := by decide +kernel
theorem dX8_isFirst_15 : decode cX8_isFirst 15 = .ok (.iaload, 1) := by decide +kernel
theorem dX8_isFirst_16 : decode cX8_isFirst 16 = .ok (.aload_n 0, 1) := by decide +kernel
theorem dX8_isFirst_17 : decode cX8_isFirst 17 = .ok (.getfield 53, 3) := by decide +kernel
theorem dX8_isFirst_20 : decode cX8_isFirst 20 = .ok (.iload_n 1, 1) := by decide +kernel
theorem dX8_isFirst_21 : decode cX8_isFirst 21 = .ok (.iaload, 1) := by decide +kernel
theorem dX8_isFirst_22 : decode cX8_isFirst 22 = .ok (.if_icmp .eq 24, 3) := by decide +kernel
theorem dX8_isFirst_25 : decode cX8_isFirst 25 = .ok (.aload_n 0, 1) := by decide +kernel
theorem dX8_isFirst_26 : decode cX8_isFirst 26 = .ok (.getfield 50, 3) := by decide +kernel
theorem dX8_isFirst_29 : decode cX8_isFirst 29 = .ok (.iload_n 1, 1) := by decide +kernel
theorem dX8_isFirst_30 : decode cX8_isFirst 30 = .ok (.iaload, 1) := by decide +kernel
theorem dX8_isFirst_31 : decode cX8_isFirst 31 = .ok (.aload_n 0, 1) := by decide +kernel
theorem dX8_isFirst_32 : decode cX8_isFirst 32 = .ok (.getfield 53, 3) := by decide +kernel
theorem dX8_isFirst_35 : decode cX8_isFirst 35 = .ok (.iload_n 1, 1) := by decide +kernel
theorem dX8_isFirst_36 : decode cX8_isFirst 36 = .ok (.iaload, 1) := by decide +kernel
theorem dX8_isFirst_37 : decode cX8_isFirst 37 = .ok (.if_icmp .ge 7, 3) := by decide +kernel
theorem dX8_isFirst_40 : decode cX8_isFirst 40 = .ok (.iconst 1, 1) := by decide +kernel
theorem dX8_isFirst_41 : decode cX8_isFirst 41 = .ok (.goto 4, 3) := by decide +kernel
theorem dX8_isFirst_44 : decode cX8_isFirst 44 = .ok (.iconst 0, 1) := by decide +kernel
theorem dX8_isFirst_45 : decode cX8_isFirst 45 = .ok (.ireturn, 1) := by decide +kernel
theorem dX8_isFirst_46 : decode cX8_isFirst 46 = .ok (.iinc 1 1, 3) := by decide +kernel
theorem dX8_isFirst_49 : decode cX8_isFirst 49 = .ok (.goto (-47), 3) := by decide +kernel
theorem dX8_isFirst_52 : decode cX8_isFirst 52 = .ok (.iconst 0, 1) := by decide +kernel
theorem dX8_isFirst_53 : decode cX8_isFirst 53 = .ok (.ireturn, 1) := by decide +kernel
theorem dX8_findAtOnce_0 : decode cX8_findAtOnce 0 = .ok (.aload_n 0, 1) := by decide +kernel
theorem dX8_findAtOnce_1 : decode cX8_findAtOnce 1 = .ok (.iconst (-1), 1) := by decide +kernel
theorem dX8_findAtOnce_2 : decode cX8_findAtOnce 2 = .ok (.putfield 244, 3) := by decide +kernel
theorem dX8_findAtOnce_5 : decode cX8_findAtOnce 5 = .ok (.aload_n 0, 1) := by decide +kernel
theorem dX8_findAtOnce_6 : decode cX8_findAtOnce 6 = .ok (.iconst 0, 1) := by decide +kernel
theorem dX8_findAtOnce_7 : decode cX8_findAtOnce 7 = .ok (.putfield 247, 3) := by decide +kernel
theorem dX8_findAtOnce_10 : decode cX8_findAtOnce 10 = .ok (.aload_n 0, 1) := by decide +kernel
theorem dX8_findAtOnce_11 : decode cX8_findAtOnce 11 = .ok (.invokevirtual 250, 3) := by decide +kernel
theorem dX8_findAtOnce_14 : decode cX8_findAtOnce 14 = .ok (.istore_n 1, 1) := by decide +kernel
theorem dX8_findAtOnce_15 : decode cX8_findAtOnce 15 = .ok (.iconst 0, 1) := by decide +kernel
theorem dX8_findAtOnce_16 : decode cX8_findAtOnce 16 = .ok (.istore_n 2, 1) := by decide +kernel
theorem dX8_findAtOnce_17 : decode cX8_findAtOnce 17 = .ok (.iload_n 2, 1) := by decide +kernel
theorem dX8_findAtOnce_18 : decode cX8_findAtOnce 18 = .ok (.sipush 10648, 3) := by decide +kernel
theorem dX8_findAtOnce_21 : decode cX8_findAtOnce 21 = .ok (.if_icmp .ge 206, 3) := by decide +kernel
theorem dX8_findAtOnce_24 : decode cX8_findAtOnce 24 = .ok (.aload_n 0, 1) := by decide +kernel
theorem dX8_findAtOnce_25 : decode cX8_findAtOnce 25 = .ok (.iload_n 2, 1) := by decide +kernel
theorem dX8_findAtOnce_26 : decode cX8_findAtOnce 26 = .ok (.invokevirtual 253, 3) := by decide +kernel
theorem dX8_findAtOnce_29 : decode cX8_findAtOnce 29 = .ok (.istore_n 3, 1) := by decide +kernel
theorem dX8_findAtOnce_30 : decode cX8_findAtOnce 30 = .ok (.iload_n 3, 1) := by decide +kernel
theorem dX8_findAtOnce_31 : decode cX8_findAtOnce 31 = .ok (.ifCond .ge 7, 3) := by decide +kernel
theorem dX8_findAtOnce_34 : decode cX8_findAtOnce 34 = .ok (.iconst (-1), 1) := by decide +kernel
theorem dX8_findAtOnce_35 : decode cX8_findAtOnce 35 = .ok (.goto 9, 3) := by decide +kernel
theorem dX8_findAtOnce_38 : decode cX8_findAtOnce 38 = .ok (.iload_n 3, 1) := by decide +kernel
theorem dX8_findAtOnce_39 : decode cX8_findAtOnce 39 = .ok (.invokestatic 238, 3) := by decide +kernel
theorem dX8_findAtOnce_42 : decode cX8_findAtOnce 42 = .ok (.iconst 2, 1) := by decide +kernel
theorem dX8_findAtOnce_43 : decode cX8_findAtOnce 43 = .ok (.idiv, 1) := by decide +kernel
theorem dX8_findAtOnce_44 : decode cX8_findAtOnce 44 = .ok (.istore 4, 2) := by decide +kernel
theorem dX8_findAtOnce_46 : decode cX8_findAtOnce 46 = .ok (.iload 4, 2) := by decide +kernel
theorem dX8_findAtOnce_48 : decode cX8_findAtOnce 48 = .ok (.ifCond .lt 173, 3) := by decide +kernel
theorem dX8_findAtOnce_51 : decode cX8_findAtOnce 51 = .ok (.iload 4, 2) := by decide +kernel
theorem dX8_findAtOnce_53 : decode cX8_findAtOnce 53 = .ok (.iload_n 1, 1) := by decide +kernel
theorem dX8_findAtOnce_54 : decode cX8_findAtOnce 54 = .ok (.if_icmp .gt 167, 3) := by decide +kernel
theorem dX8_findAtOnce_57 : decode cX8_findAtOnce 57 = .ok (.iload 4, 2) := by decide +kernel
theorem dX8_findAtOnce_59 : decode cX8_findAtOnce 59 = .ok (.aload_n 0, 1) := by decide +kernel
theorem dX8_findAtOnce_60 : decode cX8_findAtOnce 60 = .ok (.getfield 244, 3) := by decide +kernel
theorem dX8_findAtOnce_63 : decode cX8_findAtOnce 63 = .ok (.if_icmp .lt 158, 3) := by decide +kernel
theorem dX8_findAtOnce_66 : decode cX8_findAtOnce 66 = .ok (.aload_n 0, 1) := by decide +kernel
theorem dX8_findAtOnce_67 : decode cX8_findAtOnce 67 = .ok (.invokevirtual 256, 3) := by decide +kernel
theorem dX8_findAtOnce_70 : decode cX8_findAtOnce 70 = .ok (.ifCond .eq 151, 3) := by decide +kernel
theorem dX8_findAtOnce_73 : decode cX8_findAtOnce 73 = .ok (.iconst 0, 1) := by decide +kernel
theorem dX8_findAtOnce_74 : decode cX8_findAtOnce 74 = .ok (.istore 5, 2) := by decide +kernel
theorem dX8_findAtOnce_76 : decode cX8_findAtOnce 76 = .ok (.iconst 0, 1) := by decide +kernel
theorem dX8_findAtOnce_77 : decode cX8_findAtOnce 77 = .ok (.istore 6, 2) := by decide +kernel
theorem dX8_findAtOnce_79 : decode cX8_findAtOnce 79 = .ok (.iload 6, 2) := by decide +kernel
theorem dX8_findAtOnce_81 : decode cX8_findAtOnce 81 = .ok (.aload_n 0, 1) := by decide +kernel
theorem dX8_findAtOnce_82 : decode cX8_findAtOnce 82 = .ok (.getfield 94, 3) := by decide +kernel
theorem dX8_findAtOnce_85 : decode cX8_findAtOnce 85 = .ok (.if_icmp .ge 48, 3) := by decide +kernel
theorem dX8_findAtOnce_88 : decode cX8_findAtOnce 88 = .ok (.iload 5, 2) := by decide +kernel
theorem dX8_findAtOnce_90 : decode cX8_findAtOnce 90 = .ok (.aload_n 0, 1) := by decide +kernel
theorem dX8_findAtOnce_91 : decode cX8_findAtOnce 91 = .ok (.getfield 50, 3) := by decide +kernel
theorem dX8_findAtOnce_94 : decode cX8_findAtOnce 94 = .ok (.iload 6, 2) := by decide +kernel
theorem dX8_findAtOnce_96 : decode cX8_findAtOnce 96 = .ok (.iaload, 1) := by decide +kernel
theorem dX8_findAtOnce_97 : decode cX8_findAtOnce 97 = .ok (.bipush 7, 2) := by decide +kernel
theorem dX8_findAtOnce_99 : decode cX8_findAtOnce 99 = .ok (.if_icmp .ge 24, 3) := by decide +kernel
theorem dX8_findAtOnce_102 : decode cX8_findAtOnce 102 = .ok (.aload_n 0, 1) := by decide +kernel
theorem dX8_findAtOnce_103 : decode cX8_findAtOnce 103 = .ok (.getfield 13, 3) := by decide +kernel
theorem dX8_findAtOnce_106 : decode cX8_findAtOnce 106 = .ok (.bipush 7, 2) := by decide +kernel
theorem dX8_findAtOnce_108 : decode cX8_findAtOnce 108 = .ok (.iload 6, 2) := by decide +kernel
theorem dX8_findAtOnce_110 : decode cX8_findAtOnce 110 = .ok (.imul, 1) := by decide +kernel
theorem dX8_findAtOnce_111 : decode cX8_findAtOnce 111 = .ok (.aload_n 0, 1) := by decide +kernel
theorem dX8_findAtOnce_112 : decode cX8_findAtOnce 112 = .ok (.getfield 50, 3) := by decide +kernel
theorem dX8_findAtOnce_115 : decode cX8_findAtOnce 115 = .ok (.iload 6, 2) := by decide +kernel
theorem dX8_findAtOnce_117 : decode cX8_findAtOnce 117 = .ok (.iaload, 1) := by decide +kernel
theorem dX8_findAtOnce_118 : decode cX8_findAtOnce 118 = .ok (.iadd, 1) := by decide +kernel
theorem dX8_findAtOnce_119 : decode cX8_findAtOnce 119 = .ok (.iaload, 1) := by decide +kernel
theorem dX8_findAtOnce_120 : decode cX8_findAtOnce 120 = .ok (.goto 4, 3) := by decide +kernel
theorem dX8_findAtOnce_123 : decode cX8_findAtOnce 123 = .ok (.iconst 0, 1) := by decide +kernel
theorem dX8_findAtOnce_124 : decode cX8_findAtOnce 124 = .ok (.iadd, 1) := by decide +kernel
theorem dX8_findAtOnce_125 : decode cX8_findAtOnce 125 = .ok (.istore 5, 2) := by decide +kernel
theorem dX8_findAtOnce_127 : decode cX8_findAtOnce 127 = .ok (.iinc 6 1, 3) := by decide +kernel
theorem dX8_findAtOnce_130 : decode cX8_findAtOnce 130 = .ok (.goto (-51), 3) := by decide +kernel
theorem dX8_findAtOnce_133 : decode cX8_findAtOnce 133 = .ok (.iload 4, 2) := by decide +kernel
theorem dX8_findAtOnce_135 : decode cX8_findAtOnce 135 = .ok (.aload_n 0, 1) := by decide +kernel
theorem dX8_findAtOnce_136 : decode cX8_findAtOnce 136 = .ok (.getfield 244, 3) := by decide +kernel
theorem dX8_findAtOnce_139 : decode cX8_findAtOnce 139 = .ok (.if_icmp .gt 12, 3) := by decide +kernel
theorem dX8_findAtOnce_142 : decode cX8_findAtOnce 142 = .ok (.iload 5, 2) := by decide +kernel
theorem dX8_findAtOnce_144 : decode cX8_findAtOnce 144 = .ok (.aload_n 0, 1) := by decide +kernel
theorem dX8_findAtOnce_145 : decode cX8_findAtOnce 145 = .ok (.getfield 247, 3) := by decide +kernel
theorem dX8_findAtOnce_148 : decode cX8_findAtOnce 148 = .ok (.if_icmp .le 7, 3) := by decide +kernel
theorem dX8_findAtOnce_151 : decode cX8_findAtOnce 151 = .ok (.iconst 1, 1) := by decide +kernel
theorem dX8_findAtOnce_152 : decode cX8_findAtOnce 152 = .ok (.goto 4, 3) := by decide +kernel
theorem dX8_findAtOnce_155 : decode cX8_findAtOnce 155 = .ok (.iconst 0, 1) := by decide +kernel
theorem dX8_findAtOnce_156 : decode cX8_findAtOnce 156 = .ok (.istore 6, 2) := by decide +kernel
theorem dX8_findAtOnce_158 : decode cX8_findAtOnce 158 = .ok (.iload 6, 2) := by decide +kernel
theorem dX8_findAtOnce_160 : decode cX8_findAtOnce 160 = .ok (.ifCond .ne 19, 3) := by decide +kernel
theorem dX8_findAtOnce_163 : decode cX8_findAtOnce 163 = .ok (.iload 5, 2) := by decide +kernel
theorem dX8_findAtOnce_165 : decode cX8_findAtOnce 165 = .ok (.aload_n 0, 1) := by decide +kernel
theorem dX8_findAtOnce_166 : decode cX8_findAtOnce 166 = .ok (.getfield 247, 3) := by decide +kernel
theorem dX8_findAtOnce_169 : decode cX8_findAtOnce 169 = .ok (.if_icmp .ne 52, 3) := by decide +kernel
theorem dX8_findAtOnce_172 : decode cX8_findAtOnce 172 = .ok (.aload_n 0, 1) := by decide +kernel
theorem dX8_findAtOnce_173 : decode cX8_findAtOnce 173 = .ok (.invokevirtual 260, 3) := by decide +kernel
theorem dX8_findAtOnce_176 : decode cX8_findAtOnce 176 = .ok (.ifCond .eq 45, 3) := by decide +kernel
theorem dX8_findAtOnce_179 : decode cX8_findAtOnce 179 = .ok (.aload_n 0, 1) := by decide +kernel
theorem dX8_findAtOnce_180 : decode cX8_findAtOnce 180 = .ok (.iload 4, 2) := by decide +kernel
theorem dX8_findAtOnce_182 : decode cX8_findAtOnce 182 = .ok (.putfield 244, 3) := by decide +kernel
theorem dX8_findAtOnce_185 : decode cX8_findAtOnce 185 = .ok (.aload_n 0, 1) := by decide +kernel
theorem dX8_findAtOnce_186 : decode cX8_findAtOnce 186 = .ok (.iload 5, 2) := by decide +kernel
theorem dX8_findAtOnce_188 : decode cX8_findAtOnce 188 = .ok (.putfield 247, 3) := by decide +kernel
theorem dX8_findAtOnce_191 : decode cX8_findAtOnce 191 = .ok (.iconst 0, 1) := by decide +kernel
theorem dX8_findAtOnce_192 : decode cX8_findAtOnce 192 = .ok (.istore 7, 2) := by decide +kernel
theorem dX8_findAtOnce_194 : decode cX8_findAtOnce 194 = .ok (.iload 7, 2) := by decide +kernel
theorem dX8_findAtOnce_196 : decode cX8_findAtOnce 196 = .ok (.bipush 7, 2) := by decide +kernel
theorem dX8_findAtOnce_198 : decode cX8_findAtOnce 198 = .ok (.if_icmp .ge 23, 3) := by decide +kernel
theorem dX8_findAtOnce_201 : decode cX8_findAtOnce 201 = .ok (.aload_n 0, 1) := by decide +kernel
theorem dX8_findAtOnce_202 : decode cX8_findAtOnce 202 = .ok (.getfield 53, 3) := by decide +kernel
theorem dX8_findAtOnce_205 : decode cX8_findAtOnce 205 = .ok (.iload 7, 2) := by decide +kernel
theorem dX8_findAtOnce_207 : decode cX8_findAtOnce 207 = .ok (.aload_n 0, 1) := by decide +kernel
theorem dX8_findAtOnce_208 : decode cX8_findAtOnce 208 = .ok (.getfield 50, 3) := by decide +kernel
theorem dX8_findAtOnce_211 : decode cX8_findAtOnce 211 = .ok (.iload 7, 2) := by decide +kernel
theorem dX8_findAtOnce_213 : decode cX8_findAtOnce 213 = .ok (.iaload, 1) := by decide +kernel
theorem dX8_findAtOnce_214 : decode cX8_findAtOnce 214 = .ok (.iastore, 1) := by decide +kernel
theorem dX8_findAtOnce_215 : decode cX8_findAtOnce 215 = .ok (.iinc 7 1, 3) := by decide +kernel
theorem dX8_findAtOnce_218 : decode cX8_findAtOnce 218 = .ok (.goto (-24), 3) := by decide +kernel
theorem dX8_findAtOnce_221 : decode cX8_findAtOnce 221 = .ok (.iinc 2 1, 3) := by decide +kernel
theorem dX8_findAtOnce_224 : decode cX8_findAtOnce 224 = .ok (.goto (-207), 3) := by decide +kernel
theorem dX8_findAtOnce_227 : decode cX8_findAtOnce 227 = .ok (.return_, 1) := by decide +kernel
theorem dX8_atOnce_0 : decode cX8_atOnce 0 = .ok (.iload_n 1, 1) := by decide +kernel
theorem dX8_atOnce_1 : decode cX8_atOnce 1 = .ok (.iconst (-1), 1) := by decide +kernel
theorem dX8_atOnce_2 : decode cX8_atOnce 2 = .ok (.if_icmp .eq 20, 3) := by decide +kernel
theorem dX8_atOnce_5 : decode cX8_atOnce 5 = .ok (.iload_n 1, 1) := by decide +kernel
theorem dX8_atOnce_6 : decode cX8_atOnce 6 = .ok (.bipush (-2), 2) := by decide +kernel
theorem dX8_atOnce_8 : decode cX8_atOnce 8 = .ok (.if_icmp .eq 14, 3) := by decide +kernel
theorem dX8_atOnce_11 : decode cX8_atOnce 11 = .ok (.aload_n 0, 1) := by decide +kernel
theorem dX8_atOnce_12 : decode cX8_atOnce 12 = .ok (.iload_n 1, 1) := by decide +kernel
theorem dX8_atOnce_13 : decode cX8_atOnce 13 = .ok (.invokevirtual 187, 3) := by decide +kernel
theorem dX8_atOnce_16 : decode cX8_atOnce 16 = .ok (.ifCond .ne 6, 3) := by decide +kernel
theorem dX8_atOnce_19 : decode cX8_atOnce 19 = .ok (.ldc 183, 2) := by decide +kernel
theorem dX8_atOnce_21 : decode cX8_atOnce 21 = .ok (.ireturn, 1) := by decide +kernel
theorem dX8_atOnce_22 : decode cX8_atOnce 22 = .ok (.aload_n 0, 1) := by decide +kernel
theorem dX8_atOnce_23 : decode cX8_atOnce 23 = .ok (.invokevirtual 263, 3) := by decide +kernel
theorem dX8_atOnce_26 : decode cX8_atOnce 26 = .ok (.iload_n 1, 1) := by decide +kernel
theorem dX8_atOnce_27 : decode cX8_atOnce 27 = .ok (.iconst (-1), 1) := by decide +kernel
theorem dX8_atOnce_28 : decode cX8_atOnce 28 = .ok (.if_icmp .ne 10, 3) := by decide +kernel
theorem dX8_atOnce_31 : decode cX8_atOnce 31 = .ok (.aload_n 0, 1) := by decide +kernel
theorem dX8_atOnce_32 : decode cX8_atOnce 32 = .ok (.getfield 244, 3) := by decide +kernel
theorem dX8_atOnce_35 : decode cX8_atOnce 35 = .ok (.goto 37, 3) := by decide +kernel
theorem dX8_atOnce_38 : decode cX8_atOnce 38 = .ok (.iload_n 1, 1) := by decide +kernel
theorem dX8_atOnce_39 : decode cX8_atOnce 39 = .ok (.bipush (-2), 2) := by decide +kernel
theorem dX8_atOnce_41 : decode cX8_atOnce 41 = .ok (.if_icmp .ne 10, 3) := by decide +kernel
theorem dX8_atOnce_44 : decode cX8_atOnce 44 = .ok (.aload_n 0, 1) := by decide +kernel
theorem dX8_atOnce_45 : decode cX8_atOnce 45 = .ok (.getfield 247, 3) := by decide +kernel
theorem dX8_atOnce_48 : decode cX8_atOnce 48 = .ok (.goto 24, 3) := by decide +kernel
theorem dX8_atOnce_51 : decode cX8_atOnce 51 = .ok (.aload_n 0, 1) := by decide +kernel
theorem dX8_atOnce_52 : decode cX8_atOnce 52 = .ok (.getfield 53, 3) := by decide +kernel
theorem dX8_atOnce_55 : decode cX8_atOnce 55 = .ok (.iload_n 1, 1) := by decide +kernel
theorem dX8_atOnce_56 : decode cX8_atOnce 56 = .ok (.iaload, 1) := by decide +kernel
theorem dX8_atOnce_57 : decode cX8_atOnce 57 = .ok (.bipush 7, 2) := by decide +kernel
theorem dX8_atOnce_59 : decode cX8_atOnce 59 = .ok (.if_icmp .ne 7, 3) := by decide +kernel
theorem dX8_atOnce_62 : decode cX8_atOnce 62 = .ok (.iconst (-1), 1) := by decide +kernel
theorem dX8_atOnce_63 : decode cX8_atOnce 63 = .ok (.goto 9, 3) := by decide +kernel
theorem dX8_atOnce_66 : decode cX8_atOnce 66 = .ok (.aload_n 0, 1) := by decide +kernel
theorem dX8_atOnce_67 : decode cX8_atOnce 67 = .ok (.getfield 53, 3) := by decide +kernel
theorem dX8_atOnce_70 : decode cX8_atOnce 70 = .ok (.iload_n 1, 1) := by decide +kernel
theorem dX8_atOnce_71 : decode cX8_atOnce 71 = .ok (.iaload, 1) := by decide +kernel
theorem dX8_atOnce_72 : decode cX8_atOnce 72 = .ok (.ireturn, 1) := by decide +kernel
theorem dX8_findMasks_0 : decode cX8_findMasks 0 = .ok (.aload_n 0, 1) := by decide +kernel
theorem dX8_findMasks_1 : decode cX8_findMasks 1 = .ok (.iconst 0, 1) := by decide +kernel
theorem dX8_findMasks_2 : decode cX8_findMasks 2 = .ok (.putfield 266, 3) := by decide +kernel
theorem dX8_findMasks_5 : decode cX8_findMasks 5 = .ok (.aload_n 0, 1) := by decide +kernel
theorem dX8_findMasks_6 : decode cX8_findMasks 6 = .ok (.invokevirtual 250, 3) := by decide +kernel
theorem dX8_findMasks_9 : decode cX8_findMasks 9 = .ok (.istore_n 1, 1) := by decide +kernel
theorem dX8_findMasks_10 : decode cX8_findMasks 10 = .ok (.iconst 0, 1) := by decide +kernel
theorem dX8_findMasks_11 : decode cX8_findMasks 11 = .ok (.istore_n 2, 1) := by decide +kernel
theorem dX8_findMasks_12 : decode cX8_findMasks 12 = .ok (.iload_n 2, 1) := by decide +kernel
theorem dX8_findMasks_13 : decode cX8_findMasks 13 = .ok (.sipush 10648, 3) := by decide +kernel
theorem dX8_findMasks_16 : decode cX8_findMasks 16 = .ok (.if_icmp .ge 59, 3) := by decide +kernel
theorem dX8_findMasks_19 : decode cX8_findMasks 19 = .ok (.aload_n 0, 1) := by decide +kernel
theorem dX8_findMasks_20 : decode cX8_findMasks 20 = .ok (.iload_n 2, 1) := by decide +kernel
theorem dX8_findMasks_21 : decode cX8_findMasks 21 = .ok (.invokevirtual 253, 3) := by decide +kernel
theorem dX8_findMasks_24 : decode cX8_findMasks 24 = .ok (.istore_n 3, 1) := by decide +kernel
theorem dX8_findMasks_25 : decode cX8_findMasks 25 = .ok (.iload_n 3, 1) := by decide +kernel
theorem dX8_findMasks_26 : decode cX8_findMasks 26 = .ok (.ifCond .le 43, 3) := by decide +kernel
theorem dX8_findMasks_29 : decode cX8_findMasks 29 = .ok (.iload_n 3, 1) := by decide +kernel
theorem dX8_findMasks_30 : decode cX8_findMasks 30 = .ok (.invokestatic 238, 3) := by decide +kernel
theorem dX8_findMasks_33 : decode cX8_findMasks 33 = .ok (.iconst 2, 1) := by decide +kernel
theorem dX8_findMasks_34 : decode cX8_findMasks 34 = .ok (.idiv, 1) := by decide +kernel
theorem dX8_findMasks_35 : decode cX8_findMasks 35 = .ok (.iload_n 1, 1) := by decide +kernel
theorem dX8_findMasks_36 : decode cX8_findMasks 36 = .ok (.if_icmp .gt 33, 3) := by decide +kernel
theorem dX8_findMasks_39 : decode cX8_findMasks 39 = .ok (.aload_n 0, 1) := by decide +kernel
theorem dX8_findMasks_40 : decode cX8_findMasks 40 = .ok (.getfield 56, 3) := by decide +kernel
theorem dX8_findMasks_43 : decode cX8_findMasks 43 = .ok (.aload_n 0, 1) := by decide +kernel
theorem dX8_findMasks_44 : decode cX8_findMasks 44 = .ok (.getfield 266, 3) := by decide +kernel
theorem dX8_findMasks_47 : decode cX8_findMasks 47 = .ok (.iload_n 3, 1) := by decide +kernel
theorem dX8_findMasks_48 : decode cX8_findMasks 48 = .ok (.iastore, 1) := by decide +kernel
theorem dX8_findMasks_49 : decode cX8_findMasks 49 = .ok (.aload_n 0, 1) := by decide +kernel
theorem dX8_findMasks_50 : decode cX8_findMasks 50 = .ok (.getfield 59, 3) := by decide +kernel
theorem dX8_findMasks_53 : decode cX8_findMasks 53 = .ok (.aload_n 0, 1) := by decide +kernel
theorem dX8_findMasks_54 : decode cX8_findMasks 54 = .ok (.getfield 266, 3) := by decide +kernel
theorem dX8_findMasks_57 : decode cX8_findMasks 57 = .ok (.iload_n 2, 1) := by decide +kernel
theorem dX8_findMasks_58 : decode cX8_findMasks 58 = .ok (.iastore, 1) := by decide +kernel
theorem dX8_findMasks_59 : decode cX8_findMasks 59 = .ok (.aload_n 0, 1) := by decide +kernel
theorem dX8_findMasks_60 : decode cX8_findMasks 60 = .ok (.dup, 1) := by decide +kernel
theorem dX8_findMasks_61 : decode cX8_findMasks 61 = .ok (.getfield 266, 3) := by decide +kernel
theorem dX8_findMasks_64 : decode cX8_findMasks 64 = .ok (.iconst 1, 1) := by decide +kernel
theorem dX8_findMasks_65 : decode cX8_findMasks 65 = .ok (.iadd, 1) := by decide +kernel
theorem dX8_findMasks_66 : decode cX8_findMasks 66 = .ok (.putfield 266, 3) := by decide +kernel
theorem dX8_findMasks_69 : decode cX8_findMasks 69 = .ok (.iinc 2 1, 3) := by decide +kernel
theorem dX8_findMasks_72 : decode cX8_findMasks 72 = .ok (.goto (-60), 3) := by decide +kernel
theorem dX8_findMasks_75 : decode cX8_findMasks 75 = .ok (.return_, 1) := by decide +kernel
theorem dX8_apart_0 : decode cX8_apart 0 = .ok (.iload_n 0, 1) := by decide +kernel
theorem dX8_apart_1 : decode cX8_apart 1 = .ok (.iload_n 1, 1) := by decide +kernel
theorem dX8_apart_2 : decode cX8_apart 2 = .ok (.invokestatic 269, 3) := by decide +kernel
theorem dX8_apart_5 : decode cX8_apart 5 = .ok (.iload_n 0, 1) := by decide +kernel
theorem dX8_apart_6 : decode cX8_apart 6 = .ok (.iload_n 2, 1) := by decide +kernel
theorem dX8_apart_7 : decode cX8_apart 7 = .ok (.invokestatic 269, 3) := by decide +kernel
theorem dX8_apart_10 : decode cX8_apart 10 = .ok (.if_icmp .eq 7, 3) := by decide +kernel
theorem dX8_apart_13 : decode cX8_apart 13 = .ok (.iconst 1, 1) := by decide +kernel
theorem dX8_apart_14 : decode cX8_apart 14 = .ok (.goto 4, 3) := by decide +kernel
theorem dX8_apart_17 : decode cX8_apart 17 = .ok (.iconst 0, 1) := by decide +kernel
theorem dX8_apart_18 : decode cX8_apart 18 = .ok (.ireturn, 1) := by decide +kernel
theorem dX8_canMeet_0 : decode cX8_canMeet 0 = .ok (.aload_n 0, 1) := by decide +kernel
theorem dX8_canMeet_1 : decode cX8_canMeet 1 = .ok (.iload_n 2, 1) := by decide +kernel
theorem dX8_canMeet_2 : decode cX8_canMeet 2 = .ok (.invokevirtual 253, 3) := by decide +kernel
theorem dX8_canMeet_5 : decode cX8_canMeet 5 = .ok (.istore_n 3, 1) := by decide +kernel
theorem dX8_canMeet_6 : decode cX8_canMeet 6 = .ok (.iload_n 3, 1) := by decide +kernel
theorem dX8_canMeet_7 : decode cX8_canMeet 7 = .ok (.ifCond .lt 7, 3) := by decide +kernel
theorem dX8_canMeet_10 : decode cX8_canMeet 10 = .ok (.iconst 1, 1) := by decide +kernel
theorem dX8_canMeet_11 : decode cX8_canMeet 11 = .ok (.goto 4, 3) := by decide +kernel
theorem dX8_canMeet_14 : decode cX8_canMeet 14 = .ok (.iconst 0, 1) := by decide +kernel
theorem dX8_canMeet_15 : decode cX8_canMeet 15 = .ok (.istore 4, 2) := by decide +kernel
theorem dX8_canMeet_17 : decode cX8_canMeet 17 = .ok (.iconst 0, 1) := by decide +kernel
theorem dX8_canMeet_18 : decode cX8_canMeet 18 = .ok (.istore 5, 2) := by decide +kernel
theorem dX8_canMeet_20 : decode cX8_canMeet 20 = .ok (.iload 5, 2) := by decide +kernel
theorem dX8_canMeet_22 : decode cX8_canMeet 22 = .ok (.iconst 3, 1) := by decide +kernel
theorem dX8_canMeet_23 : decode cX8_canMeet 23 = .ok (.if_icmp .ge 58, 3) := by decide +kernel
theorem dX8_canMeet_26 : decode cX8_canMeet 26 = .ok (.aload_n 0, 1) := by decide +kernel
theorem dX8_canMeet_27 : decode cX8_canMeet 27 = .ok (.getfield 47, 3) := by decide +kernel
theorem dX8_canMeet_30 : decode cX8_canMeet 30 = .ok (.iload 5, 2) := by decide +kernel
theorem dX8_canMeet_32 : decode cX8_canMeet 32 = .ok (.iaload, 1) := by decide +kernel
theorem dX8_canMeet_33 : decode cX8_canMeet 33 = .ok (.istore 6, 2) := by decide +kernel
theorem dX8_canMeet_35 : decode cX8_canMeet 35 = .ok (.iload 4, 2) := by decide +kernel
theorem dX8_canMeet_37 : decode cX8_canMeet 37 = .ok (.ifCond .eq 35, 3) := by decide +kernel
theorem dX8_canMeet_40 : decode cX8_canMeet 40 = .ok (.iload 6, 2) := by decide +kernel
theorem dX8_canMeet_42 : decode cX8_canMeet 42 = .ok (.bipush 21, 2) := by decide +kernel
theorem dX8_canMeet_44 : decode cX8_canMeet 44 = .ok (.if_icmp .eq 24, 3) := by decide +kernel
theorem dX8_canMeet_47 : decode cX8_canMeet 47 = .ok (.iload_n 1, 1) := by decide +kernel
theorem dX8_canMeet_48 : decode cX8_canMeet 48 = .ok (.aload_n 0, 1) := by decide +kernel
theorem dX8_canMeet_49 : decode cX8_canMeet 49 = .ok (.getfield 19, 3) := by decide +kernel
theorem dX8_canMeet_52 : decode cX8_canMeet 52 = .ok (.iload 6, 2) := by decide +kernel
theorem dX8_canMeet_54 : decode cX8_canMeet 54 = .ok (.iaload, 1) := by decide +kernel
theorem dX8_canMeet_55 : decode cX8_canMeet 55 = .ok (.aload_n 0, 1) := by decide +kernel
theorem dX8_canMeet_56 : decode cX8_canMeet 56 = .ok (.getfield 22, 3) := by decide +kernel
theorem dX8_canMeet_59 : decode cX8_canMeet 59 = .ok (.iload 6, 2) := by decide +kernel
theorem dX8_canMeet_61 : decode cX8_canMeet 61 = .ok (.iaload, 1) := by decide +kernel
theorem dX8_canMeet_62 : decode cX8_canMeet 62 = .ok (.invokestatic 272, 3) := by decide +kernel
theorem dX8_canMeet_65 : decode cX8_canMeet 65 = .ok (.ifCond .eq 7, 3) := by decide +kernel
theorem dX8_canMeet_68 : decode cX8_canMeet 68 = .ok (.iconst 1, 1) := by decide +kernel
theorem dX8_canMeet_69 : decode cX8_canMeet 69 = .ok (.goto 4, 3) := by decide +kernel
theorem dX8_canMeet_72 : decode cX8_canMeet 72 = .ok (.iconst 0, 1) := by decide +kernel
theorem dX8_canMeet_73 : decode cX8_canMeet 73 = .ok (.istore 4, 2) := by decide +kernel
theorem dX8_canMeet_75 : decode cX8_canMeet 75 = .ok (.iinc 5 1, 3) := by decide +kernel
theorem dX8_canMeet_78 : decode cX8_canMeet 78 = .ok (.goto (-58), 3) := by decide +kernel
theorem dX8_canMeet_81 : decode cX8_canMeet 81 = .ok (.iload 4, 2) := by decide +kernel
theorem dX8_canMeet_83 : decode cX8_canMeet 83 = .ok (.ireturn, 1) := by decide +kernel
theorem dX8_isThere_0 : decode cX8_isThere 0 = .ok (.iconst 0, 1) := by decide +kernel
theorem dX8_isThere_1 : decode cX8_isThere 1 = .ok (.istore_n 3, 1) := by decide +kernel
theorem dX8_isThere_2 : decode cX8_isThere 2 = .ok (.iload_n 3, 1) := by decide +kernel
theorem dX8_isThere_3 : decode cX8_isThere 3 = .ok (.sipush 128, 3) := by decide +kernel
theorem dX8_isThere_6 : decode cX8_isThere 6 = .ok (.if_icmp .ge 29, 3) := by decide +kernel
theorem dX8_isThere_9 : decode cX8_isThere 9 = .ok (.aload_n 0, 1) := by decide +kernel
theorem dX8_isThere_10 : decode cX8_isThere 10 = .ok (.getfield 62, 3) := by decide +kernel
theorem dX8_isThere_13 : decode cX8_isThere 13 = .ok (.iload_n 3, 1) := by decide +kernel
theorem dX8_isThere_14 : decode cX8_isThere 14 = .ok (.baload, 1) := by decide +kernel
theorem dX8_isThere_15 : decode cX8_isThere 15 = .ok (.ifCond .eq 14, 3) := by decide +kernel
theorem dX8_isThere_18 : decode cX8_isThere 18 = .ok (.iload_n 3, 1) := by decide +kernel
theorem dX8_isThere_19 : decode cX8_isThere 19 = .ok (.iload_n 1, 1) := by decide +kernel
theorem dX8_isThere_20 : decode cX8_isThere 20 = .ok (.iand, 1) := by decide +kernel
theorem dX8_isThere_21 : decode cX8_isThere 21 = .ok (.iload_n 2, 1) := by decide +kernel
theorem dX8_isThere_22 : decode cX8_isThere 22 = .ok (.iload_n 1, 1) := by decide +kernel
theorem dX8_isThere_23 : decode cX8_isThere 23 = .ok (.iand, 1) := by decide +kernel
theorem dX8_isThere_24 : decode cX8_isThere 24 = .ok (.if_icmp .ne 5, 3) := by decide +kernel
theorem dX8_isThere_27 : decode cX8_isThere 27 = .ok (.iconst 1, 1) := by decide +kernel
theorem dX8_isThere_28 : decode cX8_isThere 28 = .ok (.ireturn, 1) := by decide +kernel
theorem dX8_isThere_29 : decode cX8_isThere 29 = .ok (.iinc 3 1, 3) := by decide +kernel
theorem dX8_isThere_32 : decode cX8_isThere 32 = .ok (.goto (-30), 3) := by decide +kernel
theorem dX8_isThere_35 : decode cX8_isThere 35 = .ok (.iconst 0, 1) := by decide +kernel
theorem dX8_isThere_36 : decode cX8_isThere 36 = .ok (.ireturn, 1) := by decide +kernel
theorem dX8_anHour_0 : decode cX8_anHour 0 = .ok (.iconst 0, 1) := by decide +kernel
theorem dX8_anHour_1 : decode cX8_anHour 1 = .ok (.istore_n 1, 1) := by decide +kernel
theorem dX8_anHour_2 : decode cX8_anHour 2 = .ok (.iload_n 1, 1) := by decide +kernel
theorem dX8_anHour_3 : decode cX8_anHour 3 = .ok (.sipush 128, 3) := by decide +kernel
theorem dX8_anHour_6 : decode cX8_anHour 6 = .ok (.if_icmp .ge 21, 3) := by decide +kernel
theorem dX8_anHour_9 : decode cX8_anHour 9 = .ok (.aload_n 0, 1) := by decide +kernel
theorem dX8_anHour_10 : decode cX8_anHour 10 = .ok (.getfield 66, 3) := by decide +kernel
theorem dX8_anHour_13 : decode cX8_anHour 13 = .ok (.iload_n 1, 1) := by decide +kernel
theorem dX8_anHour_14 : decode cX8_anHour 14 = .ok (.aload_n 0, 1) := by decide +kernel
theorem dX8_anHour_15 : decode cX8_anHour 15 = .ok (.getfield 62, 3) := by decide +kernel
theorem dX8_anHour_18 : decode cX8_anHour 18 = .ok (.iload_n 1, 1) := by decide +kernel
theorem dX8_anHour_19 : decode cX8_anHour 19 = .ok (.baload, 1) := by decide +kernel
theorem dX8_anHour_20 : decode cX8_anHour 20 = .ok (.bastore, 1) := by decide +kernel
theorem dX8_anHour_21 : decode cX8_anHour 21 = .ok (.iinc 1 1, 3) := by decide +kernel
theorem dX8_anHour_24 : decode cX8_anHour 24 = .ok (.goto (-22), 3) := by decide +kernel
theorem dX8_anHour_27 : decode cX8_anHour 27 = .ok (.iconst 0, 1) := by decide +kernel
theorem dX8_anHour_28 : decode cX8_anHour 28 = .ok (.istore_n 1, 1) := by decide +kernel
theorem dX8_anHour_29 : decode cX8_anHour 29 = .ok (.iload_n 1, 1) := by decide +kernel
theorem dX8_anHour_30 : decode cX8_anHour 30 = .ok (.sipush 128, 3) := by decide +kernel
theorem dX8_anHour_33 : decode cX8_anHour 33 = .ok (.if_icmp .ge 88, 3) := by decide +kernel
theorem dX8_anHour_36 : decode cX8_anHour 36 = .ok (.iconst 0, 1) := by decide +kernel
theorem dX8_anHour_37 : decode cX8_anHour 37 = .ok (.istore_n 2, 1) := by decide +kernel
theorem dX8_anHour_38 : decode cX8_anHour 38 = .ok (.iload_n 2, 1) := by decide +kernel
theorem dX8_anHour_39 : decode cX8_anHour 39 = .ok (.aload_n 0, 1) := by decide +kernel
theorem dX8_anHour_40 : decode cX8_anHour 40 = .ok (.getfield 266, 3) := by decide +kernel
theorem dX8_anHour_43 : decode cX8_anHour 43 = .ok (.if_icmp .ge 72, 3) := by decide +kernel
theorem dX8_anHour_46 : decode cX8_anHour 46 = .ok (.aload_n 0, 1) := by decide +kernel
theorem dX8_anHour_47 : decode cX8_anHour 47 = .ok (.getfield 62, 3) := by decide +kernel
theorem dX8_anHour_50 : decode cX8_anHour 50 = .ok (.iload_n 1, 1) := by decide +kernel
theorem dX8_anHour_51 : decode cX8_anHour 51 = .ok (.baload, 1) := by decide +kernel
theorem dX8_anHour_52 : decode cX8_anHour 52 = .ok (.ifCond .eq 63, 3) := by decide +kernel
theorem dX8_anHour_55 : decode cX8_anHour 55 = .ok (.aload_n 0, 1) := by decide +kernel
theorem dX8_anHour_56 : decode cX8_anHour 56 = .ok (.getfield 66, 3) := by decide +kernel
theorem dX8_anHour_59 : decode cX8_anHour 59 = .ok (.iload_n 1, 1) := by decide +kernel
theorem dX8_anHour_60 : decode cX8_anHour 60 = .ok (.aload_n 0, 1) := by decide +kernel
theorem dX8_anHour_61 : decode cX8_anHour 61 = .ok (.getfield 56, 3) := by decide +kernel
theorem dX8_anHour_64 : decode cX8_anHour 64 = .ok (.iload_n 2, 1) := by decide +kernel
theorem dX8_anHour_65 : decode cX8_anHour 65 = .ok (.iaload, 1) := by decide +kernel
theorem dX8_anHour_66 : decode cX8_anHour 66 = .ok (.ixor, 1) := by decide +kernel
theorem dX8_anHour_67 : decode cX8_anHour 67 = .ok (.baload, 1) := by decide +kernel
theorem dX8_anHour_68 : decode cX8_anHour 68 = .ok (.ifCond .ne 7, 3) := by decide +kernel
theorem dX8_anHour_71 : decode cX8_anHour 71 = .ok (.iconst 1, 1) := by decide +kernel
theorem dX8_anHour_72 : decode cX8_anHour 72 = .ok (.goto 4, 3) := by decide +kernel
theorem dX8_anHour_75 : decode cX8_anHour 75 = .ok (.iconst 0, 1) := by decide +kernel
theorem dX8_anHour_76 : decode cX8_anHour 76 = .ok (.istore_n 3, 1) := by decide +kernel
theorem dX8_anHour_77 : decode cX8_anHour 77 = .ok (.iload_n 3, 1) := by decide +kernel
theorem dX8_anHour_78 : decode cX8_anHour 78 = .ok (.ifCond .eq 31, 3) := by decide +kernel
theorem dX8_anHour_81 : decode cX8_anHour 81 = .ok (.aload_n 0, 1) := by decide +kernel
theorem dX8_anHour_82 : decode cX8_anHour 82 = .ok (.iload_n 1, 1) := by decide +kernel
theorem dX8_anHour_83 : decode cX8_anHour 83 = .ok (.aload_n 0, 1) := by decide +kernel
theorem dX8_anHour_84 : decode cX8_anHour 84 = .ok (.getfield 59, 3) := by decide +kernel
theorem dX8_anHour_87 : decode cX8_anHour 87 = .ok (.iload_n 2, 1) := by decide +kernel
theorem dX8_anHour_88 : decode cX8_anHour 88 = .ok (.iaload, 1) := by decide +kernel
theorem dX8_anHour_89 : decode cX8_anHour 89 = .ok (.invokevirtual 276, 3) := by decide +kernel
theorem dX8_anHour_92 : decode cX8_anHour 92 = .ok (.ifCond .eq 17, 3) := by decide +kernel
theorem dX8_anHour_95 : decode cX8_anHour 95 = .ok (.aload_n 0, 1) := by decide +kernel
theorem dX8_anHour_96 : decode cX8_anHour 96 = .ok (.getfield 66, 3) := by decide +kernel
theorem dX8_anHour_99 : decode cX8_anHour 99 = .ok (.iload_n 1, 1) := by decide +kernel
theorem dX8_anHour_100 : decode cX8_anHour 100 = .ok (.aload_n 0, 1) := by decide +kernel
theorem dX8_anHour_101 : decode cX8_anHour 101 = .ok (.getfield 56, 3) := by decide +kernel
theorem dX8_anHour_104 : decode cX8_anHour 104 = .ok (.iload_n 2, 1) := by decide +kernel
theorem dX8_anHour_105 : decode cX8_anHour 105 = .ok (.iaload, 1) := by decide +kernel
theorem dX8_anHour_106 : decode cX8_anHour 106 = .ok (.ixor, 1) := by decide +kernel
theorem dX8_anHour_107 : decode cX8_anHour 107 = .ok (.iconst 1, 1) := by decide +kernel
theorem dX8_anHour_108 : decode cX8_anHour 108 = .ok (.bastore, 1) := by decide +kernel
theorem dX8_anHour_109 : decode cX8_anHour 109 = .ok (.iinc 2 1, 3) := by decide +kernel
theorem dX8_anHour_112 : decode cX8_anHour 112 = .ok (.goto (-74), 3) := by decide +kernel
theorem dX8_anHour_115 : decode cX8_anHour 115 = .ok (.iinc 1 1, 3) := by decide +kernel
theorem dX8_anHour_118 : decode cX8_anHour 118 = .ok (.goto (-89), 3) := by decide +kernel
theorem dX8_anHour_121 : decode cX8_anHour 121 = .ok (.iconst 0, 1) := by decide +kernel
theorem dX8_anHour_122 : decode cX8_anHour 122 = .ok (.istore_n 1, 1) := by decide +kernel
theorem dX8_anHour_123 : decode cX8_anHour 123 = .ok (.iload_n 1, 1) := by decide +kernel
theorem dX8_anHour_124 : decode cX8_anHour 124 = .ok (.sipush 128, 3) := by decide +kernel
theorem dX8_anHour_127 : decode cX8_anHour 127 = .ok (.if_icmp .ge 21, 3) := by decide +kernel
theorem dX8_anHour_130 : decode cX8_anHour 130 = .ok (.aload_n 0, 1) := by decide +kernel
theorem dX8_anHour_131 : decode cX8_anHour 131 = .ok (.getfield 62, 3) := by decide +kernel
theorem dX8_anHour_134 : decode cX8_anHour 134 = .ok (.iload_n 1, 1) := by decide +kernel
theorem dX8_anHour_135 : decode cX8_anHour 135 = .ok (.aload_n 0, 1) := by decide +kernel
theorem dX8_anHour_136 : decode cX8_anHour 136 = .ok (.getfield 66, 3) := by decide +kernel
theorem dX8_anHour_139 : decode cX8_anHour 139 = .ok (.iload_n 1, 1) := by decide +kernel
theorem dX8_anHour_140 : decode cX8_anHour 140 = .ok (.baload, 1) := by decide +kernel
theorem dX8_anHour_141 : decode cX8_anHour 141 = .ok (.bastore, 1) := by decide +kernel
theorem dX8_anHour_142 : decode cX8_anHour 142 = .ok (.iinc 1 1, 3) := by decide +kernel
theorem dX8_anHour_145 : decode cX8_anHour 145 = .ok (.goto (-22), 3) := by decide +kernel
theorem dX8_anHour_148 : decode cX8_anHour 148 = .ok (.return_, 1) := by decide +kernel
theorem dX8_sides_0 : decode cX8_sides 0 = .ok (.aload_n 0, 1) := by decide +kernel
theorem dX8_sides_1 : decode cX8_sides 1 = .ok (.iload_n 1, 1) := by decide +kernel
theorem dX8_sides_2 : decode cX8_sides 2 = .ok (.invokevirtual 279, 3) := by decide +kernel
theorem dX8_sides_5 : decode cX8_sides 5 = .ok (.ifCond .eq 11, 3) := by decide +kernel
theorem dX8_sides_8 : decode cX8_sides 8 = .ok (.aload_n 0, 1) := by decide +kernel
theorem dX8_sides_9 : decode cX8_sides 9 = .ok (.iload_n 2, 1) := by decide +kernel
theorem dX8_sides_10 : decode cX8_sides 10 = .ok (.invokevirtual 279, 3) := by decide +kernel
theorem dX8_sides_13 : decode cX8_sides 13 = .ok (.ifCond .ne 6, 3) := by decide +kernel
theorem dX8_sides_16 : decode cX8_sides 16 = .ok (.ldc 183, 2) := by decide +kernel
theorem dX8_sides_18 : decode cX8_sides 18 = .ok (.ireturn, 1) := by decide +kernel
theorem dX8_sides_19 : decode cX8_sides 19 = .ok (.aload_n 0, 1) := by decide +kernel
theorem dX8_sides_20 : decode cX8_sides 20 = .ok (.invokevirtual 282, 3) := by decide +kernel
theorem dX8_sides_23 : decode cX8_sides 23 = .ok (.iconst 0, 1) := by decide +kernel
theorem dX8_sides_24 : decode cX8_sides 24 = .ok (.istore_n 3, 1) := by decide +kernel
theorem dX8_sides_25 : decode cX8_sides 25 = .ok (.iload_n 3, 1) := by decide +kernel
theorem dX8_sides_26 : decode cX8_sides 26 = .ok (.sipush 128, 3) := by decide +kernel
theorem dX8_sides_29 : decode cX8_sides 29 = .ok (.if_icmp .ge 29, 3) := by decide +kernel
theorem dX8_sides_32 : decode cX8_sides 32 = .ok (.aload_n 0, 1) := by decide +kernel
theorem dX8_sides_33 : decode cX8_sides 33 = .ok (.getfield 62, 3) := by decide +kernel
theorem dX8_sides_36 : decode cX8_sides 36 = .ok (.iload_n 3, 1) := by decide +kernel
theorem dX8_sides_37 : decode cX8_sides 37 = .ok (.iload_n 3, 1) := by decide +kernel
theorem dX8_sides_38 : decode cX8_sides 38 = .ok (.aload_n 0, 1) := by decide +kernel
theorem dX8_sides_39 : decode cX8_sides 39 = .ok (.iconst 0, 1) := by decide +kernel
theorem dX8_sides_40 : decode cX8_sides 40 = .ok (.invokevirtual 169, 3) := by decide +kernel
theorem dX8_sides_43 : decode cX8_sides 43 = .ok (.if_icmp .ne 7, 3) := by decide +kernel
theorem dX8_sides_46 : decode cX8_sides 46 = .ok (.iconst 1, 1) := by decide +kernel
theorem dX8_sides_47 : decode cX8_sides 47 = .ok (.goto 4, 3) := by decide +kernel
theorem dX8_sides_50 : decode cX8_sides 50 = .ok (.iconst 0, 1) := by decide +kernel
theorem dX8_sides_51 : decode cX8_sides 51 = .ok (.bastore, 1) := by decide +kernel
theorem dX8_sides_52 : decode cX8_sides 52 = .ok (.iinc 3 1, 3) := by decide +kernel
theorem dX8_sides_55 : decode cX8_sides 55 = .ok (.goto (-30), 3) := by decide +kernel
theorem dX8_sides_58 : decode cX8_sides 58 = .ok (.iconst 0, 1) := by decide +kernel
theorem dX8_sides_59 : decode cX8_sides 59 = .ok (.istore_n 3, 1) := by decide +kernel
theorem dX8_sides_60 : decode cX8_sides 60 = .ok (.aload_n 0, 1) := by decide +kernel
theorem dX8_sides_61 : decode cX8_sides 61 = .ok (.iload_n 1, 1) := by decide +kernel
theorem dX8_sides_62 : decode cX8_sides 62 = .ok (.iload_n 2, 1) := by decide +kernel
theorem dX8_sides_63 : decode cX8_sides 63 = .ok (.invokevirtual 285, 3) := by decide +kernel
theorem dX8_sides_66 : decode cX8_sides 66 = .ok (.istore 4, 2) := by decide +kernel
theorem dX8_sides_68 : decode cX8_sides 68 = .ok (.iload 4, 2) := by decide +kernel
theorem dX8_sides_70 : decode cX8_sides 70 = .ok (.ifCond .ne 27, 3) := by decide +kernel
theorem dX8_sides_73 : decode cX8_sides 73 = .ok (.iload_n 3, 1) := by decide +kernel
theorem dX8_sides_74 : decode cX8_sides 74 = .ok (.bipush 40, 2) := by decide +kernel
theorem dX8_sides_76 : decode cX8_sides 76 = .ok (.if_icmp .ge 21, 3) := by decide +kernel
theorem dX8_sides_79 : decode cX8_sides 79 = .ok (.aload_n 0, 1) := by decide +kernel
theorem dX8_sides_80 : decode cX8_sides 80 = .ok (.invokevirtual 288, 3) := by decide +kernel
theorem dX8_sides_83 : decode cX8_sides 83 = .ok (.iinc 3 1, 3) := by decide +kernel
theorem dX8_sides_86 : decode cX8_sides 86 = .ok (.aload_n 0, 1) := by decide +kernel
theorem dX8_sides_87 : decode cX8_sides 87 = .ok (.iload_n 1, 1) := by decide +kernel
theorem dX8_sides_88 : decode cX8_sides 88 = .ok (.iload_n 2, 1) := by decide +kernel
theorem dX8_sides_89 : decode cX8_sides 89 = .ok (.invokevirtual 285, 3) := by decide +kernel
theorem dX8_sides_92 : decode cX8_sides 92 = .ok (.istore 4, 2) := by decide +kernel
theorem dX8_sides_94 : decode cX8_sides 94 = .ok (.goto (-26), 3) := by decide +kernel
theorem dX8_sides_97 : decode cX8_sides 97 = .ok (.iload 4, 2) := by decide +kernel
theorem dX8_sides_99 : decode cX8_sides 99 = .ok (.ifCond .eq 7, 3) := by decide +kernel
theorem dX8_sides_102 : decode cX8_sides 102 = .ok (.iload_n 3, 1) := by decide +kernel
theorem dX8_sides_103 : decode cX8_sides 103 = .ok (.goto 4, 3) := by decide +kernel
theorem dX8_sides_106 : decode cX8_sides 106 = .ok (.iconst (-1), 1) := by decide +kernel
theorem dX8_sides_107 : decode cX8_sides 107 = .ok (.ireturn, 1) := by decide +kernel
theorem dX8_likesNow_0 : decode cX8_likesNow 0 = .ok (.aload_n 0, 1) := by decide +kernel
theorem dX8_likesNow_1 : decode cX8_likesNow 1 = .ok (.getfield 53, 3) := by decide +kernel
theorem dX8_likesNow_4 : decode cX8_likesNow 4 = .ok (.iload_n 1, 1) := by decide +kernel
theorem dX8_likesNow_5 : decode cX8_likesNow 5 = .ok (.iaload, 1) := by decide +kernel
theorem dX8_likesNow_6 : decode cX8_likesNow 6 = .ok (.bipush 7, 2) := by decide +kernel
theorem dX8_likesNow_8 : decode cX8_likesNow 8 = .ok (.if_icmp .ne 7, 3) := by decide +kernel
theorem dX8_likesNow_11 : decode cX8_likesNow 11 = .ok (.iconst 0, 1) := by decide +kernel
theorem dX8_likesNow_12 : decode cX8_likesNow 12 = .ok (.goto 19, 3) := by decide +kernel
theorem dX8_likesNow_15 : decode cX8_likesNow 15 = .ok (.aload_n 0, 1) := by decide +kernel
theorem dX8_likesNow_16 : decode cX8_likesNow 16 = .ok (.getfield 13, 3) := by decide +kernel
theorem dX8_likesNow_19 : decode cX8_likesNow 19 = .ok (.bipush 7, 2) := by decide +kernel
theorem dX8_likesNow_21 : decode cX8_likesNow 21 = .ok (.iload_n 1, 1) := by decide +kernel
theorem dX8_likesNow_22 : decode cX8_likesNow 22 = .ok (.imul, 1) := by decide +kernel
theorem dX8_likesNow_23 : decode cX8_likesNow 23 = .ok (.aload_n 0, 1) := by decide +kernel
theorem dX8_likesNow_24 : decode cX8_likesNow 24 = .ok (.getfield 53, 3) := by decide +kernel
theorem dX8_likesNow_27 : decode cX8_likesNow 27 = .ok (.iload_n 1, 1) := by decide +kernel
theorem dX8_likesNow_28 : decode cX8_likesNow 28 = .ok (.iaload, 1) := by decide +kernel
theorem dX8_likesNow_29 : decode cX8_likesNow 29 = .ok (.iadd, 1) := by decide +kernel
theorem dX8_likesNow_30 : decode cX8_likesNow 30 = .ok (.iaload, 1) := by decide +kernel
theorem dX8_likesNow_31 : decode cX8_likesNow 31 = .ok (.ireturn, 1) := by decide +kernel
theorem dX8_steady_0 : decode cX8_steady 0 = .ok (.aload_n 0, 1) := by decide +kernel
theorem dX8_steady_1 : decode cX8_steady 1 = .ok (.invokevirtual 263, 3) := by decide +kernel
theorem dX8_steady_4 : decode cX8_steady 4 = .ok (.iconst 0, 1) := by decide +kernel
theorem dX8_steady_5 : decode cX8_steady 5 = .ok (.istore_n 1, 1) := by decide +kernel
theorem dX8_steady_6 : decode cX8_steady 6 = .ok (.iload_n 1, 1) := by decide +kernel
theorem dX8_steady_7 : decode cX8_steady 7 = .ok (.bipush 21, 2) := by decide +kernel
theorem dX8_steady_9 : decode cX8_steady 9 = .ok (.if_icmp .ge 72, 3) := by decide +kernel
theorem dX8_steady_12 : decode cX8_steady 12 = .ok (.aload_n 0, 1) := by decide +kernel
theorem dX8_steady_13 : decode cX8_steady 13 = .ok (.getfield 19, 3) := by decide +kernel
theorem dX8_steady_16 : decode cX8_steady 16 = .ok (.iload_n 1, 1) := by decide +kernel
theorem dX8_steady_17 : decode cX8_steady 17 = .ok (.iaload, 1) := by decide +kernel
theorem dX8_steady_18 : decode cX8_steady 18 = .ok (.istore_n 2, 1) := by decide +kernel
theorem dX8_steady_19 : decode cX8_steady 19 = .ok (.aload_n 0, 1) := by decide +kernel
theorem dX8_steady_20 : decode cX8_steady 20 = .ok (.getfield 22, 3) := by decide +kernel
theorem dX8_steady_23 : decode cX8_steady 23 = .ok (.iload_n 1, 1) := by decide +kernel
theorem dX8_steady_24 : decode cX8_steady 24 = .ok (.iaload, 1) := by decide +kernel
theorem dX8_steady_25 : decode cX8_steady 25 = .ok (.istore_n 3, 1) := by decide +kernel
theorem dX8_steady_26 : decode cX8_steady 26 = .ok (.aload_n 0, 1) := by decide +kernel
theorem dX8_steady_27 : decode cX8_steady 27 = .ok (.iload_n 2, 1) := by decide +kernel
theorem dX8_steady_28 : decode cX8_steady 28 = .ok (.iload_n 3, 1) := by decide +kernel
theorem dX8_steady_29 : decode cX8_steady 29 = .ok (.invokevirtual 166, 3) := by decide +kernel
theorem dX8_steady_32 : decode cX8_steady 32 = .ok (.ifCond .eq 43, 3) := by decide +kernel
theorem dX8_steady_35 : decode cX8_steady 35 = .ok (.aload_n 0, 1) := by decide +kernel
theorem dX8_steady_36 : decode cX8_steady 36 = .ok (.getfield 13, 3) := by decide +kernel
theorem dX8_steady_39 : decode cX8_steady 39 = .ok (.bipush 7, 2) := by decide +kernel
theorem dX8_steady_41 : decode cX8_steady 41 = .ok (.iload_n 2, 1) := by decide +kernel
theorem dX8_steady_42 : decode cX8_steady 42 = .ok (.imul, 1) := by decide +kernel
theorem dX8_steady_43 : decode cX8_steady 43 = .ok (.iload_n 3, 1) := by decide +kernel
theorem dX8_steady_44 : decode cX8_steady 44 = .ok (.iadd, 1) := by decide +kernel
theorem dX8_steady_45 : decode cX8_steady 45 = .ok (.iaload, 1) := by decide +kernel
theorem dX8_steady_46 : decode cX8_steady 46 = .ok (.aload_n 0, 1) := by decide +kernel
theorem dX8_steady_47 : decode cX8_steady 47 = .ok (.iload_n 2, 1) := by decide +kernel
theorem dX8_steady_48 : decode cX8_steady 48 = .ok (.invokevirtual 291, 3) := by decide +kernel
theorem dX8_steady_51 : decode cX8_steady 51 = .ok (.if_icmp .le 24, 3) := by decide +kernel
theorem dX8_steady_54 : decode cX8_steady 54 = .ok (.aload_n 0, 1) := by decide +kernel
theorem dX8_steady_55 : decode cX8_steady 55 = .ok (.getfield 13, 3) := by decide +kernel
theorem dX8_steady_58 : decode cX8_steady 58 = .ok (.bipush 7, 2) := by decide +kernel
theorem dX8_steady_60 : decode cX8_steady 60 = .ok (.iload_n 3, 1) := by decide +kernel
theorem dX8_steady_61 : decode cX8_steady 61 = .ok (.imul, 1) := by decide +kernel
theorem dX8_steady_62 : decode cX8_steady 62 = .ok (.iload_n 2, 1) := by decide +kernel
theorem dX8_steady_63 : decode cX8_steady 63 = .ok (.iadd, 1) := by decide +kernel
theorem dX8_steady_64 : decode cX8_steady 64 = .ok (.iaload, 1) := by decide +kernel
theorem dX8_steady_65 : decode cX8_steady 65 = .ok (.aload_n 0, 1) := by decide +kernel
theorem dX8_steady_66 : decode cX8_steady 66 = .ok (.iload_n 3, 1) := by decide +kernel
theorem dX8_steady_67 : decode cX8_steady 67 = .ok (.invokevirtual 291, 3) := by decide +kernel
theorem dX8_steady_70 : decode cX8_steady 70 = .ok (.if_icmp .le 5, 3) := by decide +kernel
theorem dX8_steady_73 : decode cX8_steady 73 = .ok (.iconst 0, 1) := by decide +kernel
theorem dX8_steady_74 : decode cX8_steady 74 = .ok (.ireturn, 1) := by decide +kernel
theorem dX8_steady_75 : decode cX8_steady 75 = .ok (.iinc 1 1, 3) := by decide +kernel
theorem dX8_steady_78 : decode cX8_steady 78 = .ok (.goto (-72), 3) := by decide +kernel
theorem dX8_steady_81 : decode cX8_steady 81 = .ok (.iconst 1, 1) := by decide +kernel
theorem dX8_steady_82 : decode cX8_steady 82 = .ok (.ireturn, 1) := by decide +kernel
theorem dX8_mostLiked_0 : decode cX8_mostLiked 0 = .ok (.iconst 0, 1) := by decide +kernel
theorem dX8_mostLiked_1 : decode cX8_mostLiked 1 = .ok (.istore_n 2, 1) := by decide +kernel
theorem dX8_mostLiked_2 : decode cX8_mostLiked 2 = .ok (.iconst 0, 1) := by decide +kernel
theorem dX8_mostLiked_3 : decode cX8_mostLiked 3 = .ok (.istore_n 3, 1) := by decide +kernel
theorem dX8_mostLiked_4 : decode cX8_mostLiked 4 = .ok (.iload_n 3, 1) := by decide +kernel
theorem dX8_mostLiked_5 : decode cX8_mostLiked 5 = .ok (.aload_n 0, 1) := by decide +kernel
theorem dX8_mostLiked_6 : decode cX8_mostLiked 6 = .ok (.getfield 94, 3) := by decide +kernel
theorem dX8_mostLiked_9 : decode cX8_mostLiked 9 = .ok (.if_icmp .ge 40, 3) := by decide +kernel
theorem dX8_mostLiked_12 : decode cX8_mostLiked 12 = .ok (.aload_n 0, 1) := by decide +kernel
theorem dX8_mostLiked_13 : decode cX8_mostLiked 13 = .ok (.getfield 13, 3) := by decide +kernel
theorem dX8_mostLiked_16 : decode cX8_mostLiked 16 = .ok (.bipush 7, 2) := by decide +kernel
theorem dX8_mostLiked_18 : decode cX8_mostLiked 18 = .ok (.iload_n 1, 1) := by decide +kernel
theorem dX8_mostLiked_19 : decode cX8_mostLiked 19 = .ok (.imul, 1) := by decide +kernel
theorem dX8_mostLiked_20 : decode cX8_mostLiked 20 = .ok (.iload_n 3, 1) := by decide +kernel
theorem dX8_mostLiked_21 : decode cX8_mostLiked 21 = .ok (.iadd, 1) := by decide +kernel
theorem dX8_mostLiked_22 : decode cX8_mostLiked 22 = .ok (.iaload, 1) := by decide +kernel
theorem dX8_mostLiked_23 : decode cX8_mostLiked 23 = .ok (.iload_n 2, 1) := by decide +kernel
theorem dX8_mostLiked_24 : decode cX8_mostLiked 24 = .ok (.if_icmp .le 17, 3) := by decide +kernel
theorem dX8_mostLiked_27 : decode cX8_mostLiked 27 = .ok (.aload_n 0, 1) := by decide +kernel
theorem dX8_mostLiked_28 : decode cX8_mostLiked 28 = .ok (.getfield 13, 3) := by decide +kernel
theorem dX8_mostLiked_31 : decode cX8_mostLiked 31 = .ok (.bipush 7, 2) := by decide +kernel
theorem dX8_mostLiked_33 : decode cX8_mostLiked 33 = .ok (.iload_n 1, 1) := by decide +kernel
theorem dX8_mostLiked_34 : decode cX8_mostLiked 34 = .ok (.imul, 1) := by decide +kernel
theorem dX8_mostLiked_35 : decode cX8_mostLiked 35 = .ok (.iload_n 3, 1) := by decide +kernel
theorem dX8_mostLiked_36 : decode cX8_mostLiked 36 = .ok (.iadd, 1) := by decide +kernel
theorem dX8_mostLiked_37 : decode cX8_mostLiked 37 = .ok (.iaload, 1) := by decide +kernel
theorem dX8_mostLiked_38 : decode cX8_mostLiked 38 = .ok (.goto 4, 3) := by decide +kernel
theorem dX8_mostLiked_41 : decode cX8_mostLiked 41 = .ok (.iload_n 2, 1) := by decide +kernel
theorem dX8_mostLiked_42 : decode cX8_mostLiked 42 = .ok (.istore_n 2, 1) := by decide +kernel
theorem dX8_mostLiked_43 : decode cX8_mostLiked 43 = .ok (.iinc 3 1, 3) := by decide +kernel
theorem dX8_mostLiked_46 : decode cX8_mostLiked 46 = .ok (.goto (-42), 3) := by decide +kernel
theorem dX8_mostLiked_49 : decode cX8_mostLiked 49 = .ok (.iload_n 2, 1) := by decide +kernel
theorem dX8_mostLiked_50 : decode cX8_mostLiked 50 = .ok (.ireturn, 1) := by decide +kernel
theorem dX8_loves_0 : decode cX8_loves 0 = .ok (.iconst 0, 1) := by decide +kernel
theorem dX8_loves_1 : decode cX8_loves 1 = .ok (.istore_n 2, 1) := by decide +kernel
theorem dX8_loves_2 : decode cX8_loves 2 = .ok (.iconst 0, 1) := by decide +kernel
theorem dX8_loves_3 : decode cX8_loves 3 = .ok (.istore_n 3, 1) := by decide +kernel
theorem dX8_loves_4 : decode cX8_loves 4 = .ok (.iload_n 3, 1) := by decide +kernel
theorem dX8_loves_5 : decode cX8_loves 5 = .ok (.bipush 21, 2) := by decide +kernel
theorem dX8_loves_7 : decode cX8_loves 7 = .ok (.if_icmp .ge 97, 3) := by decide +kernel
theorem dX8_loves_10 : decode cX8_loves 10 = .ok (.aload_n 0, 1) := by decide +kernel
theorem dX8_loves_11 : decode cX8_loves 11 = .ok (.getfield 19, 3) := by decide +kernel
theorem dX8_loves_14 : decode cX8_loves 14 = .ok (.iload_n 3, 1) := by decide +kernel
theorem dX8_loves_15 : decode cX8_loves 15 = .ok (.iaload, 1) := by decide +kernel
theorem dX8_loves_16 : decode cX8_loves 16 = .ok (.istore 4, 2) := by decide +kernel
theorem dX8_loves_18 : decode cX8_loves 18 = .ok (.aload_n 0, 1) := by decide +kernel
theorem dX8_loves_19 : decode cX8_loves 19 = .ok (.getfield 22, 3) := by decide +kernel
theorem dX8_loves_22 : decode cX8_loves 22 = .ok (.iload_n 3, 1) := by decide +kernel
theorem dX8_loves_23 : decode cX8_loves 23 = .ok (.iaload, 1) := by decide +kernel
theorem dX8_loves_24 : decode cX8_loves 24 = .ok (.istore 5, 2) := by decide +kernel
theorem dX8_loves_26 : decode cX8_loves 26 = .ok (.aload_n 0, 1) := by decide +kernel
theorem dX8_loves_27 : decode cX8_loves 27 = .ok (.iload 4, 2) := by decide +kernel
theorem dX8_loves_29 : decode cX8_loves 29 = .ok (.iload 5, 2) := by decide +kernel
theorem dX8_loves_31 : decode cX8_loves 31 = .ok (.invokevirtual 162, 3) := by decide +kernel
theorem dX8_loves_34 : decode cX8_loves 34 = .ok (.ifCond .eq 64, 3) := by decide +kernel
theorem dX8_loves_37 : decode cX8_loves 37 = .ok (.aload_n 0, 1) := by decide +kernel
theorem dX8_loves_38 : decode cX8_loves 38 = .ok (.getfield 13, 3) := by decide +kernel
theorem dX8_loves_41 : decode cX8_loves 41 = .ok (.bipush 7, 2) := by decide +kernel
theorem dX8_loves_43 : decode cX8_loves 43 = .ok (.iload 4, 2) := by decide +kernel
theorem dX8_loves_45 : decode cX8_loves 45 = .ok (.imul, 1) := by decide +kernel
theorem dX8_loves_46 : decode cX8_loves 46 = .ok (.iload 5, 2) := by decide +kernel
theorem dX8_loves_48 : decode cX8_loves 48 = .ok (.iadd, 1) := by decide +kernel
theorem dX8_loves_49 : decode cX8_loves 49 = .ok (.iaload, 1) := by decide +kernel
theorem dX8_loves_50 : decode cX8_loves 50 = .ok (.aload_n 0, 1) := by decide +kernel
theorem dX8_loves_51 : decode cX8_loves 51 = .ok (.iload 4, 2) := by decide +kernel
theorem dX8_loves_53 : decode cX8_loves 53 = .ok (.invokevirtual 294, 3) := by decide +kernel
theorem dX8_loves_56 : decode cX8_loves 56 = .ok (.if_icmp .ne 42, 3) := by decide +kernel
theorem dX8_loves_59 : decode cX8_loves 59 = .ok (.aload_n 0, 1) := by decide +kernel
theorem dX8_loves_60 : decode cX8_loves 60 = .ok (.getfield 13, 3) := by decide +kernel
theorem dX8_loves_63 : decode cX8_loves 63 = .ok (.bipush 7, 2) := by decide +kernel
theorem dX8_loves_65 : decode cX8_loves 65 = .ok (.iload 5, 2) := by decide +kernel
theorem dX8_loves_67 : decode cX8_loves 67 = .ok (.imul, 1) := by decide +kernel
theorem dX8_loves_68 : decode cX8_loves 68 = .ok (.iload 4, 2) := by decide +kernel
theorem dX8_loves_70 : decode cX8_loves 70 = .ok (.iadd, 1) := by decide +kernel
theorem dX8_loves_71 : decode cX8_loves 71 = .ok (.iaload, 1) := by decide +kernel
theorem dX8_loves_72 : decode cX8_loves 72 = .ok (.aload_n 0, 1) := by decide +kernel
theorem dX8_loves_73 : decode cX8_loves 73 = .ok (.iload 5, 2) := by decide +kernel
theorem dX8_loves_75 : decode cX8_loves 75 = .ok (.invokevirtual 294, 3) := by decide +kernel
theorem dX8_loves_78 : decode cX8_loves 78 = .ok (.if_icmp .ne 20, 3) := by decide +kernel
theorem dX8_loves_81 : decode cX8_loves 81 = .ok (.iload_n 2, 1) := by decide +kernel
theorem dX8_loves_82 : decode cX8_loves 82 = .ok (.iload_n 1, 1) := by decide +kernel
theorem dX8_loves_83 : decode cX8_loves 83 = .ok (.if_icmp .ne 12, 3) := by decide +kernel
theorem dX8_loves_86 : decode cX8_loves 86 = .ok (.bipush 10, 2) := by decide +kernel
theorem dX8_loves_88 : decode cX8_loves 88 = .ok (.iload 4, 2) := by decide +kernel
theorem dX8_loves_90 : decode cX8_loves 90 = .ok (.imul, 1) := by decide +kernel
theorem dX8_loves_91 : decode cX8_loves 91 = .ok (.iload 5, 2) := by decide +kernel
theorem dX8_loves_93 : decode cX8_loves 93 = .ok (.iadd, 1) := by decide +kernel
theorem dX8_loves_94 : decode cX8_loves 94 = .ok (.ireturn, 1) := by decide +kernel
theorem dX8_loves_95 : decode cX8_loves 95 = .ok (.iinc 2 1, 3) := by decide +kernel
theorem dX8_loves_98 : decode cX8_loves 98 = .ok (.iinc 3 1, 3) := by decide +kernel
theorem dX8_loves_101 : decode cX8_loves 101 = .ok (.goto (-97), 3) := by decide +kernel
theorem dX8_loves_104 : decode cX8_loves 104 = .ok (.iload_n 1, 1) := by decide +kernel
theorem dX8_loves_105 : decode cX8_loves 105 = .ok (.iconst (-1), 1) := by decide +kernel
theorem dX8_loves_106 : decode cX8_loves 106 = .ok (.if_icmp .ne 7, 3) := by decide +kernel
theorem dX8_loves_109 : decode cX8_loves 109 = .ok (.iload_n 2, 1) := by decide +kernel
theorem dX8_loves_110 : decode cX8_loves 110 = .ok (.goto 4, 3) := by decide +kernel
theorem dX8_loves_113 : decode cX8_loves 113 = .ok (.iconst (-1), 1) := by decide +kernel
theorem dX8_loves_114 : decode cX8_loves 114 = .ok (.ireturn, 1) := by decide +kernel
theorem dX8_madeIll_0 : decode cX8_madeIll 0 = .ok (.iconst 1, 1) := by decide +kernel
theorem dX8_madeIll_1 : decode cX8_madeIll 1 = .ok (.iload_n 1, 1) := by decide +kernel
theorem dX8_madeIll_2 : decode cX8_madeIll 2 = .ok (.ishl, 1) := by decide +kernel
theorem dX8_madeIll_3 : decode cX8_madeIll 3 = .ok (.istore_n 2, 1) := by decide +kernel
theorem dX8_madeIll_4 : decode cX8_madeIll 4 = .ok (.iconst 0, 1) := by decide +kernel
theorem dX8_madeIll_5 : decode cX8_madeIll 5 = .ok (.istore_n 3, 1) := by decide +kernel
theorem dX8_madeIll_6 : decode cX8_madeIll 6 = .ok (.iload_n 3, 1) := by decide +kernel
theorem dX8_madeIll_7 : decode cX8_madeIll 7 = .ok (.aload_n 0, 1) := by decide +kernel
theorem dX8_madeIll_8 : decode cX8_madeIll 8 = .ok (.getfield 16, 3) := by decide +kernel
theorem dX8_madeIll_11 : decode cX8_madeIll 11 = .ok (.bipush 34, 2) := by decide +kernel
theorem dX8_madeIll_13 : decode cX8_madeIll 13 = .ok (.iaload, 1) := by decide +kernel
theorem dX8_madeIll_14 : decode cX8_madeIll 14 = .ok (.if_icmp .ge 56, 3) := by decide +kernel
theorem dX8_madeIll_17 : decode cX8_madeIll 17 = .ok (.iconst 1, 1) := by decide +kernel
theorem dX8_madeIll_18 : decode cX8_madeIll 18 = .ok (.aload_n 0, 1) := by decide +kernel
theorem dX8_madeIll_19 : decode cX8_madeIll 19 = .ok (.getfield 16, 3) := by decide +kernel
theorem dX8_madeIll_22 : decode cX8_madeIll 22 = .ok (.bipush 35, 2) := by decide +kernel
theorem dX8_madeIll_24 : decode cX8_madeIll 24 = .ok (.iload_n 3, 1) := by decide +kernel
theorem dX8_madeIll_25 : decode cX8_madeIll 25 = .ok (.iadd, 1) := by decide +kernel
theorem dX8_madeIll_26 : decode cX8_madeIll 26 = .ok (.iaload, 1) := by decide +kernel
theorem dX8_madeIll_27 : decode cX8_madeIll 27 = .ok (.bipush 10, 2) := by decide +kernel
theorem dX8_madeIll_29 : decode cX8_madeIll 29 = .ok (.idiv, 1) := by decide +kernel
theorem dX8_madeIll_30 : decode cX8_madeIll 30 = .ok (.ishl, 1) := by decide +kernel
theorem dX8_madeIll_31 : decode cX8_madeIll 31 = .ok (.iconst 1, 1) := by decide +kernel
theorem dX8_madeIll_32 : decode cX8_madeIll 32 = .ok (.aload_n 0, 1) := by decide +kernel
theorem dX8_madeIll_33 : decode cX8_madeIll 33 = .ok (.getfield 16, 3) := by decide +kernel
theorem dX8_madeIll_36 : decode cX8_madeIll 36 = .ok (.bipush 35, 2) := by decide +kernel
theorem dX8_madeIll_38 : decode cX8_madeIll 38 = .ok (.iload_n 3, 1) := by decide +kernel
theorem dX8_madeIll_39 : decode cX8_madeIll 39 = .ok (.iadd, 1) := by decide +kernel
theorem dX8_madeIll_40 : decode cX8_madeIll 40 = .ok (.iaload, 1) := by decide +kernel
theorem dX8_madeIll_41 : decode cX8_madeIll 41 = .ok (.bipush 10, 2) := by decide +kernel
theorem dX8_madeIll_43 : decode cX8_madeIll 43 = .ok (.irem, 1) := by decide +kernel
theorem dX8_madeIll_44 : decode cX8_madeIll 44 = .ok (.ishl, 1) := by decide +kernel
theorem dX8_madeIll_45 : decode cX8_madeIll 45 = .ok (.ior, 1) := by decide +kernel
theorem dX8_madeIll_46 : decode cX8_madeIll 46 = .ok (.istore 4, 2) := by decide +kernel
theorem dX8_madeIll_48 : decode cX8_madeIll 48 = .ok (.iload_n 2, 1) := by decide +kernel
theorem dX8_madeIll_49 : decode cX8_madeIll 49 = .ok (.iload_n 2, 1) := by decide +kernel
theorem dX8_madeIll_50 : decode cX8_madeIll 50 = .ok (.iload 4, 2) := by decide +kernel
theorem dX8_madeIll_52 : decode cX8_madeIll 52 = .ok (.iand, 1) := by decide +kernel
theorem dX8_madeIll_53 : decode cX8_madeIll 53 = .ok (.ifCond .eq 8, 3) := by decide +kernel
theorem dX8_madeIll_56 : decode cX8_madeIll 56 = .ok (.iload 4, 2) := by decide +kernel
theorem dX8_madeIll_58 : decode cX8_madeIll 58 = .ok (.goto 4, 3) := by decide +kernel
theorem dX8_madeIll_61 : decode cX8_madeIll 61 = .ok (.iconst 0, 1) := by decide +kernel
theorem dX8_madeIll_62 : decode cX8_madeIll 62 = .ok (.ior, 1) := by decide +kernel
theorem dX8_madeIll_63 : decode cX8_madeIll 63 = .ok (.istore_n 2, 1) := by decide +kernel
theorem dX8_madeIll_64 : decode cX8_madeIll 64 = .ok (.iinc 3 1, 3) := by decide +kernel
theorem dX8_madeIll_67 : decode cX8_madeIll 67 = .ok (.goto (-61), 3) := by decide +kernel
theorem dX8_madeIll_70 : decode cX8_madeIll 70 = .ok (.iload_n 2, 1) := by decide +kernel
theorem dX8_madeIll_71 : decode cX8_madeIll 71 = .ok (.ireturn, 1) := by decide +kernel
theorem dX8_first_0 : decode cX8_first 0 = .ok (.aload_n 0, 1) := by decide +kernel
theorem dX8_first_1 : decode cX8_first 1 = .ok (.bipush 14, 2) := by decide +kernel
theorem dX8_first_3 : decode cX8_first 3 = .ok (.invokevirtual 169, 3) := by decide +kernel
theorem dX8_first_6 : decode cX8_first 6 = .ok (.istore_n 1, 1) := by decide +kernel
theorem dX8_first_7 : decode cX8_first 7 = .ok (.iconst 0, 1) := by decide +kernel
theorem dX8_first_8 : decode cX8_first 8 = .ok (.istore_n 2, 1) := by decide +kernel
theorem dX8_first_9 : decode cX8_first 9 = .ok (.iconst 0, 1) := by decide +kernel
theorem dX8_first_10 : decode cX8_first 10 = .ok (.istore_n 3, 1) := by decide +kernel
theorem dX8_first_11 : decode cX8_first 11 = .ok (.iload_n 3, 1) := by decide +kernel
theorem dX8_first_12 : decode cX8_first 12 = .ok (.aload_n 0, 1) := by decide +kernel
theorem dX8_first_13 : decode cX8_first 13 = .ok (.getfield 94, 3) := by decide +kernel
theorem dX8_first_16 : decode cX8_first 16 = .ok (.if_icmp .ge 28, 3) := by decide +kernel
theorem dX8_first_19 : decode cX8_first 19 = .ok (.iload_n 2, 1) := by decide +kernel
theorem dX8_first_20 : decode cX8_first 20 = .ok (.aload_n 0, 1) := by decide +kernel
theorem dX8_first_21 : decode cX8_first 21 = .ok (.iload_n 3, 1) := by decide +kernel
theorem dX8_first_22 : decode cX8_first 22 = .ok (.invokevirtual 297, 3) := by decide +kernel
theorem dX8_first_25 : decode cX8_first 25 = .ok (.iload_n 1, 1) := by decide +kernel
theorem dX8_first_26 : decode cX8_first 26 = .ok (.if_icmp .ne 9, 3) := by decide +kernel
theorem dX8_first_29 : decode cX8_first 29 = .ok (.iconst 1, 1) := by decide +kernel
theorem dX8_first_30 : decode cX8_first 30 = .ok (.iload_n 3, 1) := by decide +kernel
theorem dX8_first_31 : decode cX8_first 31 = .ok (.ishl, 1) := by decide +kernel
theorem dX8_first_32 : decode cX8_first 32 = .ok (.goto 4, 3) := by decide +kernel
theorem dX8_first_35 : decode cX8_first 35 = .ok (.iconst 0, 1) := by decide +kernel
theorem dX8_first_36 : decode cX8_first 36 = .ok (.ior, 1) := by decide +kernel
theorem dX8_first_37 : decode cX8_first 37 = .ok (.istore_n 2, 1) := by decide +kernel
theorem dX8_first_38 : decode cX8_first 38 = .ok (.iinc 3 1, 3) := by decide +kernel
theorem dX8_first_41 : decode cX8_first 41 = .ok (.goto (-30), 3) := by decide +kernel
theorem dX8_first_44 : decode cX8_first 44 = .ok (.iload_n 2, 1) := by decide +kernel
theorem dX8_first_45 : decode cX8_first 45 = .ok (.ireturn, 1) := by decide +kernel
theorem dX8_dies_0 : decode cX8_dies 0 = .ok (.iload_n 1, 1) := by decide +kernel
theorem dX8_dies_1 : decode cX8_dies 1 = .ok (.i2l, 1) := by decide +kernel
theorem dX8_dies_2 : decode cX8_dies 2 = .ok (.lconst 0, 1) := by decide +kernel
theorem dX8_dies_3 : decode cX8_dies 3 = .ok (.lconst 1, 1) := by decide +kernel
theorem dX8_dies_4 : decode cX8_dies 4 = .ok (.invokestatic 90, 3) := by decide +kernel
theorem dX8_dies_7 : decode cX8_dies 7 = .ok (.ifCond .ne 6, 3) := by decide +kernel
theorem dX8_dies_10 : decode cX8_dies 10 = .ok (.ldc 99, 2) := by decide +kernel
theorem dX8_dies_12 : decode cX8_dies 12 = .ok (.ireturn, 1) := by decide +kernel
theorem dX8_dies_13 : decode cX8_dies 13 = .ok (.iconst (-1), 1) := by decide +kernel
theorem dX8_dies_14 : decode cX8_dies 14 = .ok (.istore_n 2, 1) := by decide +kernel
theorem dX8_dies_15 : decode cX8_dies 15 = .ok (.iconst 0, 1) := by decide +kernel
theorem dX8_dies_16 : decode cX8_dies 16 = .ok (.istore_n 3, 1) := by decide +kernel
theorem dX8_dies_17 : decode cX8_dies 17 = .ok (.iload_n 3, 1) := by decide +kernel
theorem dX8_dies_18 : decode cX8_dies 18 = .ok (.aload_n 0, 1) := by decide +kernel
theorem dX8_dies_19 : decode cX8_dies 19 = .ok (.getfield 87, 3) := by decide +kernel
theorem dX8_dies_22 : decode cX8_dies 22 = .ok (.if_icmp .ge 78, 3) := by decide +kernel
theorem dX8_dies_25 : decode cX8_dies 25 = .ok (.iload_n 2, 1) := by decide +kernel
theorem dX8_dies_26 : decode cX8_dies 26 = .ok (.ifCond .lt 38, 3) := by decide +kernel
theorem dX8_dies_29 : decode cX8_dies 29 = .ok (.aload_n 0, 1) := by decide +kernel
theorem dX8_dies_30 : decode cX8_dies 30 = .ok (.getfield 7, 3) := by decide +kernel
theorem dX8_dies_33 : decode cX8_dies 33 = .ok (.iload_n 3, 1) := by decide +kernel
theorem dX8_dies_34 : decode cX8_dies 34 = .ok (.iaload, 1) := by decide +kernel
theorem dX8_dies_35 : decode cX8_dies 35 = .ok (.aload_n 0, 1) := by decide +kernel
theorem dX8_dies_36 : decode cX8_dies 36 = .ok (.getfield 16, 3) := by decide +kernel
theorem dX8_dies_39 : decode cX8_dies 39 = .ok (.bipush 21, 2) := by decide +kernel
theorem dX8_dies_41 : decode cX8_dies 41 = .ok (.iload_n 3, 1) := by decide +kernel
theorem dX8_dies_42 : decode cX8_dies 42 = .ok (.iadd, 1) := by decide +kernel
theorem dX8_dies_43 : decode cX8_dies 43 = .ok (.iaload, 1) := by decide +kernel
theorem dX8_dies_44 : decode cX8_dies 44 = .ok (.isub, 1) := by decide +kernel
theorem dX8_dies_45 : decode cX8_dies 45 = .ok (.aload_n 0, 1) := by decide +kernel
theorem dX8_dies_46 : decode cX8_dies 46 = .ok (.getfield 7, 3) := by decide +kernel
theorem dX8_dies_49 : decode cX8_dies 49 = .ok (.iload_n 2, 1) := by decide +kernel
theorem dX8_dies_50 : decode cX8_dies 50 = .ok (.iaload, 1) := by decide +kernel
theorem dX8_dies_51 : decode cX8_dies 51 = .ok (.aload_n 0, 1) := by decide +kernel
theorem dX8_dies_52 : decode cX8_dies 52 = .ok (.getfield 16, 3) := by decide +kernel
theorem dX8_dies_55 : decode cX8_dies 55 = .ok (.bipush 21, 2) := by decide +kernel
theorem dX8_dies_57 : decode cX8_dies 57 = .ok (.iload_n 2, 1) := by decide +kernel
theorem dX8_dies_58 : decode cX8_dies 58 = .ok (.iadd, 1) := by decide +kernel
theorem dX8_dies_59 : decode cX8_dies 59 = .ok (.iaload, 1) := by decide +kernel
theorem dX8_dies_60 : decode cX8_dies 60 = .ok (.isub, 1) := by decide +kernel
theorem dX8_dies_61 : decode cX8_dies 61 = .ok (.if_icmp .ge 7, 3) := by decide +kernel
theorem dX8_dies_64 : decode cX8_dies 64 = .ok (.iconst 1, 1) := by decide +kernel
theorem dX8_dies_65 : decode cX8_dies 65 = .ok (.goto 4, 3) := by decide +kernel
theorem dX8_dies_68 : decode cX8_dies 68 = .ok (.iconst 0, 1) := by decide +kernel
theorem dX8_dies_69 : decode cX8_dies 69 = .ok (.istore 4, 2) := by decide +kernel
theorem dX8_dies_71 : decode cX8_dies 71 = .ok (.aload_n 0, 1) := by decide +kernel
theorem dX8_dies_72 : decode cX8_dies 72 = .ok (.getfield 16, 3) := by decide +kernel
theorem dX8_dies_75 : decode cX8_dies 75 = .ok (.bipush 26, 2) := by decide +kernel
theorem dX8_dies_77 : decode cX8_dies 77 = .ok (.iload_n 3, 1) := by decide +kernel
theorem dX8_dies_78 : decode cX8_dies 78 = .ok (.iadd, 1) := by decide +kernel
theorem dX8_dies_79 : decode cX8_dies 79 = .ok (.iaload, 1) := by decide +kernel
theorem dX8_dies_80 : decode cX8_dies 80 = .ok (.ifCond .ne 12, 3) := by decide +kernel
theorem dX8_dies_83 : decode cX8_dies 83 = .ok (.iload 4, 2) := by decide +kernel
theorem dX8_dies_85 : decode cX8_dies 85 = .ok (.ifCond .eq 7, 3) := by decide +kernel
theorem dX8_dies_88 : decode cX8_dies 88 = .ok (.iload_n 3, 1) := by decide +kernel
theorem dX8_dies_89 : decode cX8_dies 89 = .ok (.goto 4, 3) := by decide +kernel
theorem dX8_dies_92 : decode cX8_dies 92 = .ok (.iload_n 2, 1) := by decide +kernel
theorem dX8_dies_93 : decode cX8_dies 93 = .ok (.istore_n 2, 1) := by decide +kernel
theorem dX8_dies_94 : decode cX8_dies 94 = .ok (.iinc 3 1, 3) := by decide +kernel
theorem dX8_dies_97 : decode cX8_dies 97 = .ok (.goto (-80), 3) := by decide +kernel
theorem dX8_dies_100 : decode cX8_dies 100 = .ok (.iload_n 2, 1) := by decide +kernel
theorem dX8_dies_101 : decode cX8_dies 101 = .ok (.ifCond .lt 7, 3) := by decide +kernel
theorem dX8_dies_104 : decode cX8_dies 104 = .ok (.iload_n 1, 1) := by decide +kernel
theorem dX8_dies_105 : decode cX8_dies 105 = .ok (.ifCond .ne 7, 3) := by decide +kernel
theorem dX8_dies_108 : decode cX8_dies 108 = .ok (.iload_n 2, 1) := by decide +kernel
theorem dX8_dies_109 : decode cX8_dies 109 = .ok (.goto 19, 3) := by decide +kernel
theorem dX8_dies_112 : decode cX8_dies 112 = .ok (.aload_n 0, 1) := by decide +kernel
theorem dX8_dies_113 : decode cX8_dies 113 = .ok (.getfield 7, 3) := by decide +kernel
theorem dX8_dies_116 : decode cX8_dies 116 = .ok (.iload_n 2, 1) := by decide +kernel
theorem dX8_dies_117 : decode cX8_dies 117 = .ok (.iaload, 1) := by decide +kernel
theorem dX8_dies_118 : decode cX8_dies 118 = .ok (.aload_n 0, 1) := by decide +kernel
theorem dX8_dies_119 : decode cX8_dies 119 = .ok (.getfield 16, 3) := by decide +kernel
theorem dX8_dies_122 : decode cX8_dies 122 = .ok (.bipush 21, 2) := by decide +kernel
theorem dX8_dies_124 : decode cX8_dies 124 = .ok (.iload_n 2, 1) := by decide +kernel
theorem dX8_dies_125 : decode cX8_dies 125 = .ok (.iadd, 1) := by decide +kernel
theorem dX8_dies_126 : decode cX8_dies 126 = .ok (.iaload, 1) := by decide +kernel
theorem dX8_dies_127 : decode cX8_dies 127 = .ok (.isub, 1) := by decide +kernel
theorem dX8_dies_128 : decode cX8_dies 128 = .ok (.ireturn, 1) := by decide +kernel
theorem dX8_oilFor_0 : decode cX8_oilFor 0 = .ok (.iload_n 1, 1) := by decide +kernel
theorem dX8_oilFor_1 : decode cX8_oilFor 1 = .ok (.i2l, 1) := by decide +kernel
theorem dX8_oilFor_2 : decode cX8_oilFor 2 = .ok (.lconst 0, 1) := by decide +kernel
theorem dX8_oilFor_3 : decode cX8_oilFor 3 = .ok (.ldc2_w 300, 3) := by decide +kernel
theorem dX8_oilFor_6 : decode cX8_oilFor 6 = .ok (.invokestatic 90, 3) := by decide +kernel
theorem dX8_oilFor_9 : decode cX8_oilFor 9 = .ok (.ifCond .ne 6, 3) := by decide +kernel
theorem dX8_oilFor_12 : decode cX8_oilFor 12 = .ok (.ldc 99, 2) := by decide +kernel
theorem dX8_oilFor_14 : decode cX8_oilFor 14 = .ok (.ireturn, 1) := by decide +kernel
theorem dX8_oilFor_15 : decode cX8_oilFor 15 = .ok (.iconst 0, 1) := by decide +kernel
theorem dX8_oilFor_16 : decode cX8_oilFor 16 = .ok (.istore_n 2, 1) := by decide +kernel
theorem dX8_oilFor_17 : decode cX8_oilFor 17 = .ok (.iconst 0, 1) := by decide +kernel
theorem dX8_oilFor_18 : decode cX8_oilFor 18 = .ok (.istore_n 3, 1) := by decide +kernel
theorem dX8_oilFor_19 : decode cX8_oilFor 19 = .ok (.iload_n 3, 1) := by decide +kernel
theorem dX8_oilFor_20 : decode cX8_oilFor 20 = .ok (.aload_n 0, 1) := by decide +kernel
theorem dX8_oilFor_21 : decode cX8_oilFor 21 = .ok (.getfield 87, 3) := by decide +kernel
theorem dX8_oilFor_24 : decode cX8_oilFor 24 = .ok (.if_icmp .ge 101, 3) := by decide +kernel
theorem dX8_oilFor_27 : decode cX8_oilFor 27 = .ok (.aload_n 0, 1) := by decide +kernel
theorem dX8_oilFor_28 : decode cX8_oilFor 28 = .ok (.getfield 16, 3) := by decide +kernel
theorem dX8_oilFor_31 : decode cX8_oilFor 31 = .ok (.bipush 21, 2) := by decide +kernel
theorem dX8_oilFor_33 : decode cX8_oilFor 33 = .ok (.iload_n 3, 1) := by decide +kernel
theorem dX8_oilFor_34 : decode cX8_oilFor 34 = .ok (.iadd, 1) := by decide +kernel
theorem dX8_oilFor_35 : decode cX8_oilFor 35 = .ok (.iaload, 1) := by decide +kernel
theorem dX8_oilFor_36 : decode cX8_oilFor 36 = .ok (.istore 4, 2) := by decide +kernel
theorem dX8_oilFor_38 : decode cX8_oilFor 38 = .ok (.aload_n 0, 1) := by decide +kernel
theorem dX8_oilFor_39 : decode cX8_oilFor 39 = .ok (.getfield 16, 3) := by decide +kernel
theorem dX8_oilFor_42 : decode cX8_oilFor 42 = .ok (.bipush 26, 2) := by decide +kernel
theorem dX8_oilFor_44 : decode cX8_oilFor 44 = .ok (.iload_n 3, 1) := by decide +kernel
theorem dX8_oilFor_45 : decode cX8_oilFor 45 = .ok (.iadd, 1) := by decide +kernel
theorem dX8_oilFor_46 : decode cX8_oilFor 46 = .ok (.iaload, 1) := by decide +kernel
theorem dX8_oilFor_47 : decode cX8_oilFor 47 = .ok (.iconst 1, 1) := by decide +kernel
theorem dX8_oilFor_48 : decode cX8_oilFor 48 = .ok (.if_icmp .ne 7, 3) := by decide +kernel
theorem dX8_oilFor_51 : decode cX8_oilFor 51 = .ok (.iconst 1, 1) := by decide +kernel
theorem dX8_oilFor_52 : decode cX8_oilFor 52 = .ok (.goto 4, 3) := by decide +kernel
theorem dX8_oilFor_55 : decode cX8_oilFor 55 = .ok (.iconst 0, 1) := by decide +kernel
theorem dX8_oilFor_56 : decode cX8_oilFor 56 = .ok (.istore 5, 2) := by decide +kernel
theorem dX8_oilFor_58 : decode cX8_oilFor 58 = .ok (.iconst 0, 1) := by decide +kernel
theorem dX8_oilFor_59 : decode cX8_oilFor 59 = .ok (.istore 6, 2) := by decide +kernel
theorem dX8_oilFor_61 : decode cX8_oilFor 61 = .ok (.iload 6, 2) := by decide +kernel
theorem dX8_oilFor_63 : decode cX8_oilFor 63 = .ok (.iload_n 1, 1) := by decide +kernel
theorem dX8_oilFor_64 : decode cX8_oilFor 64 = .ok (.if_icmp .ge 55, 3) := by decide +kernel
theorem dX8_oilFor_67 : decode cX8_oilFor 67 = .ok (.iload_n 2, 1) := by decide +kernel
theorem dX8_oilFor_68 : decode cX8_oilFor 68 = .ok (.iload 5, 2) := by decide +kernel
theorem dX8_oilFor_70 : decode cX8_oilFor 70 = .ok (.ifCond .eq 7, 3) := by decide +kernel
theorem dX8_oilFor_73 : decode cX8_oilFor 73 = .ok (.iconst 1, 1) := by decide +kernel
theorem dX8_oilFor_74 : decode cX8_oilFor 74 = .ok (.goto 4, 3) := by decide +kernel
theorem dX8_oilFor_77 : decode cX8_oilFor 77 = .ok (.iconst 0, 1) := by decide +kernel
theorem dX8_oilFor_78 : decode cX8_oilFor 78 = .ok (.iadd, 1) := by decide +kernel
theorem dX8_oilFor_79 : decode cX8_oilFor 79 = .ok (.istore_n 2, 1) := by decide +kernel
theorem dX8_oilFor_80 : decode cX8_oilFor 80 = .ok (.iload 5, 2) := by decide +kernel
theorem dX8_oilFor_82 : decode cX8_oilFor 82 = .ok (.ifCond .eq 7, 3) := by decide +kernel
theorem dX8_oilFor_85 : decode cX8_oilFor 85 = .ok (.iconst 1, 1) := by decide +kernel
theorem dX8_oilFor_86 : decode cX8_oilFor 86 = .ok (.goto 7, 3) := by decide +kernel
theorem dX8_oilFor_89 : decode cX8_oilFor 89 = .ok (.iload 4, 2) := by decide +kernel
theorem dX8_oilFor_91 : decode cX8_oilFor 91 = .ok (.iconst 1, 1) := by decide +kernel
theorem dX8_oilFor_92 : decode cX8_oilFor 92 = .ok (.iadd, 1) := by decide +kernel
theorem dX8_oilFor_93 : decode cX8_oilFor 93 = .ok (.istore 4, 2) := by decide +kernel
theorem dX8_oilFor_95 : decode cX8_oilFor 95 = .ok (.iload 4, 2) := by decide +kernel
theorem dX8_oilFor_97 : decode cX8_oilFor 97 = .ok (.aload_n 0, 1) := by decide +kernel
theorem dX8_oilFor_98 : decode cX8_oilFor 98 = .ok (.getfield 7, 3) := by decide +kernel
theorem dX8_oilFor_101 : decode cX8_oilFor 101 = .ok (.iload_n 3, 1) := by decide +kernel
theorem dX8_oilFor_102 : decode cX8_oilFor 102 = .ok (.iaload, 1) := by decide +kernel
theorem dX8_oilFor_103 : decode cX8_oilFor 103 = .ok (.if_icmp .lt 7, 3) := by decide +kernel
theorem dX8_oilFor_106 : decode cX8_oilFor 106 = .ok (.iconst 1, 1) := by decide +kernel
theorem dX8_oilFor_107 : decode cX8_oilFor 107 = .ok (.goto 4, 3) := by decide +kernel
theorem dX8_oilFor_110 : decode cX8_oilFor 110 = .ok (.iconst 0, 1) := by decide +kernel
theorem dX8_oilFor_111 : decode cX8_oilFor 111 = .ok (.istore 5, 2) := by decide +kernel
theorem dX8_oilFor_113 : decode cX8_oilFor 113 = .ok (.iinc 6 1, 3) := by decide +kernel
theorem dX8_oilFor_116 : decode cX8_oilFor 116 = .ok (.goto (-55), 3) := by decide +kernel
theorem dX8_oilFor_119 : decode cX8_oilFor 119 = .ok (.iinc 3 1, 3) := by decide +kernel
theorem dX8_oilFor_122 : decode cX8_oilFor 122 = .ok (.goto (-103), 3) := by decide +kernel
theorem dX8_oilFor_125 : decode cX8_oilFor 125 = .ok (.iload_n 2, 1) := by decide +kernel
theorem dX8_oilFor_126 : decode cX8_oilFor 126 = .ok (.ireturn, 1) := by decide +kernel
theorem dX8_evening_0 : decode cX8_evening 0 = .ok (.aload_n 0, 1) := by decide +kernel
theorem dX8_evening_1 : decode cX8_evening 1 = .ok (.iload_n 1, 1) := by decide +kernel
theorem dX8_evening_2 : decode cX8_evening 2 = .ok (.invokevirtual 187, 3) := by decide +kernel
theorem dX8_evening_5 : decode cX8_evening 5 = .ok (.ifCond .ne 6, 3) := by decide +kernel
theorem dX8_evening_8 : decode cX8_evening 8 = .ok (.ldc 183, 2) := by decide +kernel
theorem dX8_evening_10 : decode cX8_evening 10 = .ok (.ireturn, 1) := by decide +kernel
theorem dX8_evening_11 : decode cX8_evening 11 = .ok (.aload_n 0, 1) := by decide +kernel
theorem dX8_evening_12 : decode cX8_evening 12 = .ok (.getfield 16, 3) := by decide +kernel
theorem dX8_evening_15 : decode cX8_evening 15 = .ok (.bipush 7, 2) := by decide +kernel
theorem dX8_evening_17 : decode cX8_evening 17 = .ok (.iload_n 1, 1) := by decide +kernel
theorem dX8_evening_18 : decode cX8_evening 18 = .ok (.iadd, 1) := by decide +kernel
theorem dX8_evening_19 : decode cX8_evening 19 = .ok (.iaload, 1) := by decide +kernel
theorem dX8_evening_20 : decode cX8_evening 20 = .ok (.ifCond .ge 6, 3) := by decide +kernel
theorem dX8_evening_23 : decode cX8_evening 23 = .ok (.ldc 209, 2) := by decide +kernel
theorem dX8_evening_25 : decode cX8_evening 25 = .ok (.ireturn, 1) := by decide +kernel
theorem dX8_evening_26 : decode cX8_evening 26 = .ok (.bipush 10, 2) := by decide +kernel
theorem dX8_evening_28 : decode cX8_evening 28 = .ok (.aload_n 0, 1) := by decide +kernel
theorem dX8_evening_29 : decode cX8_evening 29 = .ok (.iload_n 1, 1) := by decide +kernel
theorem dX8_evening_30 : decode cX8_evening 30 = .ok (.invokevirtual 190, 3) := by decide +kernel
theorem dX8_evening_33 : decode cX8_evening 33 = .ok (.aload_n 0, 1) := by decide +kernel
theorem dX8_evening_34 : decode cX8_evening 34 = .ok (.aload_n 0, 1) := by decide +kernel
theorem dX8_evening_35 : decode cX8_evening 35 = .ok (.getfield 16, 3) := by decide +kernel
theorem dX8_evening_38 : decode cX8_evening 38 = .ok (.bipush 7, 2) := by decide +kernel
theorem dX8_evening_40 : decode cX8_evening 40 = .ok (.iload_n 1, 1) := by decide +kernel
theorem dX8_evening_41 : decode cX8_evening 41 = .ok (.iadd, 1) := by decide +kernel
theorem dX8_evening_42 : decode cX8_evening 42 = .ok (.iaload, 1) := by decide +kernel
theorem dX8_evening_43 : decode cX8_evening 43 = .ok (.invokevirtual 184, 3) := by decide +kernel
theorem dX8_evening_46 : decode cX8_evening 46 = .ok (.iand, 1) := by decide +kernel
theorem dX8_evening_47 : decode cX8_evening 47 = .ok (.invokestatic 238, 3) := by decide +kernel
theorem dX8_evening_50 : decode cX8_evening 50 = .ok (.isub, 1) := by decide +kernel
theorem dX8_evening_51 : decode cX8_evening 51 = .ok (.ireturn, 1) := by decide +kernel
theorem dX8_dry_0 : decode cX8_dry 0 = .ok (.iload_n 1, 1) := by decide +kernel
theorem dX8_dry_1 : decode cX8_dry 1 = .ok (.i2l, 1) := by decide +kernel
theorem dX8_dry_2 : decode cX8_dry 2 = .ok (.lconst 0, 1) := by decide +kernel
theorem dX8_dry_3 : decode cX8_dry 3 = .ok (.ldc2_w 207, 3) := by decide +kernel
theorem dX8_dry_6 : decode cX8_dry 6 = .ok (.invokestatic 90, 3) := by decide +kernel
theorem dX8_dry_9 : decode cX8_dry 9 = .ok (.ifCond .eq 15, 3) := by decide +kernel
theorem dX8_dry_12 : decode cX8_dry 12 = .ok (.iload_n 2, 1) := by decide +kernel
theorem dX8_dry_13 : decode cX8_dry 13 = .ok (.i2l, 1) := by decide +kernel
theorem dX8_dry_14 : decode cX8_dry 14 = .ok (.lconst 0, 1) := by decide +kernel
theorem dX8_dry_15 : decode cX8_dry 15 = .ok (.ldc2_w 302, 3) := by decide +kernel
theorem dX8_dry_18 : decode cX8_dry 18 = .ok (.invokestatic 90, 3) := by decide +kernel
theorem dX8_dry_21 : decode cX8_dry 21 = .ok (.ifCond .ne 6, 3) := by decide +kernel
theorem dX8_dry_24 : decode cX8_dry 24 = .ok (.ldc 99, 2) := by decide +kernel
theorem dX8_dry_26 : decode cX8_dry 26 = .ok (.ireturn, 1) := by decide +kernel
theorem dX8_dry_27 : decode cX8_dry 27 = .ok (.ldc2_w 304, 3) := by decide +kernel
theorem dX8_dry_30 : decode cX8_dry 30 = .ok (.lstore_n 3, 1) := by decide +kernel
theorem dX8_dry_31 : decode cX8_dry 31 = .ok (.iconst 0, 1) := by decide +kernel
theorem dX8_dry_32 : decode cX8_dry 32 = .ok (.istore 5, 2) := by decide +kernel
theorem dX8_dry_34 : decode cX8_dry 34 = .ok (.iload 5, 2) := by decide +kernel
theorem dX8_dry_36 : decode cX8_dry 36 = .ok (.iload_n 1, 1) := by decide +kernel
theorem dX8_dry_37 : decode cX8_dry 37 = .ok (.if_icmp .ge 21, 3) := by decide +kernel
theorem dX8_dry_40 : decode cX8_dry 40 = .ok (.lload_n 3, 1) := by decide +kernel
theorem dX8_dry_41 : decode cX8_dry 41 = .ok (.bipush 100, 2) := by decide +kernel
theorem dX8_dry_43 : decode cX8_dry 43 = .ok (.iload_n 2, 1) := by decide +kernel
theorem dX8_dry_44 : decode cX8_dry 44 = .ok (.isub, 1) := by decide +kernel
theorem dX8_dry_45 : decode cX8_dry 45 = .ok (.i2l, 1) := by decide +kernel
theorem dX8_dry_46 : decode cX8_dry 46 = .ok (.lmul, 1) := by decide +kernel
theorem dX8_dry_47 : decode cX8_dry 47 = .ok (.ldc2_w 302, 3) := by decide +kernel
theorem dX8_dry_50 : decode cX8_dry 50 = .ok (.ldiv, 1) := by decide +kernel
theorem dX8_dry_51 : decode cX8_dry 51 = .ok (.lstore_n 3, 1) := by decide +kernel
theorem dX8_dry_52 : decode cX8_dry 52 = .ok (.iinc 5 1, 3) := by decide +kernel
theorem dX8_dry_55 : decode cX8_dry 55 = .ok (.goto (-21), 3) := by decide +kernel
theorem dX8_dry_58 : decode cX8_dry 58 = .ok (.lload_n 3, 1) := by decide +kernel
theorem dX8_dry_59 : decode cX8_dry 59 = .ok (.l2i, 1) := by decide +kernel
theorem dX8_dry_60 : decode cX8_dry 60 = .ok (.ireturn, 1) := by decide +kernel
theorem dX8_ill_0 : decode cX8_ill 0 = .ok (.aload_n 0, 1) := by decide +kernel
theorem dX8_ill_1 : decode cX8_ill 1 = .ok (.iload_n 1, 1) := by decide +kernel
theorem dX8_ill_2 : decode cX8_ill 2 = .ok (.invokevirtual 187, 3) := by decide +kernel
theorem dX8_ill_5 : decode cX8_ill 5 = .ok (.ifCond .ne 6, 3) := by decide +kernel
theorem dX8_ill_8 : decode cX8_ill 8 = .ok (.ldc 183, 2) := by decide +kernel
theorem dX8_ill_10 : decode cX8_ill 10 = .ok (.ireturn, 1) := by decide +kernel
theorem dX8_ill_11 : decode cX8_ill 11 = .ok (.aload_n 0, 1) := by decide +kernel
theorem dX8_ill_12 : decode cX8_ill 12 = .ok (.getfield 153, 3) := by decide +kernel
theorem dX8_ill_15 : decode cX8_ill 15 = .ok (.bipush 6, 2) := by decide +kernel
theorem dX8_ill_17 : decode cX8_ill 17 = .ok (.if_icmp .ne 6, 3) := by decide +kernel
theorem dX8_ill_20 : decode cX8_ill 20 = .ok (.ldc 103, 2) := by decide +kernel
theorem dX8_ill_22 : decode cX8_ill 22 = .ok (.ireturn, 1) := by decide +kernel
theorem dX8_ill_23 : decode cX8_ill 23 = .ok (.aload_n 0, 1) := by decide +kernel
theorem dX8_ill_24 : decode cX8_ill 24 = .ok (.getfield 69, 3) := by decide +kernel
theorem dX8_ill_27 : decode cX8_ill 27 = .ok (.aload_n 0, 1) := by decide +kernel
theorem dX8_ill_28 : decode cX8_ill 28 = .ok (.getfield 153, 3) := by decide +kernel
theorem dX8_ill_31 : decode cX8_ill 31 = .ok (.iload_n 1, 1) := by decide +kernel
theorem dX8_ill_32 : decode cX8_ill 32 = .ok (.iastore, 1) := by decide +kernel
theorem dX8_ill_33 : decode cX8_ill 33 = .ok (.aload_n 0, 1) := by decide +kernel
theorem dX8_ill_34 : decode cX8_ill 34 = .ok (.getfield 72, 3) := by decide +kernel
theorem dX8_ill_37 : decode cX8_ill 37 = .ok (.aload_n 0, 1) := by decide +kernel
theorem dX8_ill_38 : decode cX8_ill 38 = .ok (.getfield 153, 3) := by decide +kernel
theorem dX8_ill_41 : decode cX8_ill 41 = .ok (.iload_n 2, 1) := by decide +kernel
theorem dX8_ill_42 : decode cX8_ill 42 = .ok (.bastore, 1) := by decide +kernel
theorem dX8_ill_43 : decode cX8_ill 43 = .ok (.aload_n 0, 1) := by decide +kernel
theorem dX8_ill_44 : decode cX8_ill 44 = .ok (.dup, 1) := by decide +kernel
theorem dX8_ill_45 : decode cX8_ill 45 = .ok (.getfield 153, 3) := by decide +kernel
theorem dX8_ill_48 : decode cX8_ill 48 = .ok (.iconst 1, 1) := by decide +kernel
theorem dX8_ill_49 : decode cX8_ill 49 = .ok (.iadd, 1) := by decide +kernel
theorem dX8_ill_50 : decode cX8_ill 50 = .ok (.putfield 153, 3) := by decide +kernel
theorem dX8_ill_53 : decode cX8_ill 53 = .ok (.aload_n 0, 1) := by decide +kernel
theorem dX8_ill_54 : decode cX8_ill 54 = .ok (.getfield 153, 3) := by decide +kernel
theorem dX8_ill_57 : decode cX8_ill 57 = .ok (.ireturn, 1) := by decide +kernel
theorem dX8_couldBe_0 : decode cX8_couldBe 0 = .ok (.iconst 0, 1) := by decide +kernel
theorem dX8_couldBe_1 : decode cX8_couldBe 1 = .ok (.istore_n 1, 1) := by decide +kernel
theorem dX8_couldBe_2 : decode cX8_couldBe 2 = .ok (.iconst 0, 1) := by decide +kernel
theorem dX8_couldBe_3 : decode cX8_couldBe 3 = .ok (.istore_n 2, 1) := by decide +kernel
theorem dX8_couldBe_4 : decode cX8_couldBe 4 = .ok (.iload_n 2, 1) := by decide +kernel
theorem dX8_couldBe_5 : decode cX8_couldBe 5 = .ok (.aload_n 0, 1) := by decide +kernel
theorem dX8_couldBe_6 : decode cX8_couldBe 6 = .ok (.getfield 94, 3) := by decide +kernel
theorem dX8_couldBe_9 : decode cX8_couldBe 9 = .ok (.if_icmp .ge 78, 3) := by decide +kernel
theorem dX8_couldBe_12 : decode cX8_couldBe 12 = .ok (.iconst 1, 1) := by decide +kernel
theorem dX8_couldBe_13 : decode cX8_couldBe 13 = .ok (.istore_n 3, 1) := by decide +kernel
theorem dX8_couldBe_14 : decode cX8_couldBe 14 = .ok (.iconst 0, 1) := by decide +kernel
theorem dX8_couldBe_15 : decode cX8_couldBe 15 = .ok (.istore 4, 2) := by decide +kernel
theorem dX8_couldBe_17 : decode cX8_couldBe 17 = .ok (.iload 4, 2) := by decide +kernel
theorem dX8_couldBe_19 : decode cX8_couldBe 19 = .ok (.aload_n 0, 1) := by decide +kernel
theorem dX8_couldBe_20 : decode cX8_couldBe 20 = .ok (.getfield 153, 3) := by decide +kernel
theorem dX8_couldBe_23 : decode cX8_couldBe 23 = .ok (.if_icmp .ge 44, 3) := by decide +kernel
theorem dX8_couldBe_26 : decode cX8_couldBe 26 = .ok (.iload_n 3, 1) := by decide +kernel
theorem dX8_couldBe_27 : decode cX8_couldBe 27 = .ok (.ifCond .eq 32, 3) := by decide +kernel
theorem dX8_couldBe_30 : decode cX8_couldBe 30 = .ok (.aload_n 0, 1) := by decide +kernel
theorem dX8_couldBe_31 : decode cX8_couldBe 31 = .ok (.iload_n 2, 1) := by decide +kernel
theorem dX8_couldBe_32 : decode cX8_couldBe 32 = .ok (.invokevirtual 297, 3) := by decide +kernel
theorem dX8_couldBe_35 : decode cX8_couldBe 35 = .ok (.aload_n 0, 1) := by decide +kernel
theorem dX8_couldBe_36 : decode cX8_couldBe 36 = .ok (.getfield 69, 3) := by decide +kernel
theorem dX8_couldBe_39 : decode cX8_couldBe 39 = .ok (.iload 4, 2) := by decide +kernel
theorem dX8_couldBe_41 : decode cX8_couldBe 41 = .ok (.iaload, 1) := by decide +kernel
theorem dX8_couldBe_42 : decode cX8_couldBe 42 = .ok (.invokestatic 269, 3) := by decide +kernel
theorem dX8_couldBe_45 : decode cX8_couldBe 45 = .ok (.aload_n 0, 1) := by decide +kernel
theorem dX8_couldBe_46 : decode cX8_couldBe 46 = .ok (.getfield 72, 3) := by decide +kernel
theorem dX8_couldBe_49 : decode cX8_couldBe 49 = .ok (.iload 4, 2) := by decide +kernel
theorem dX8_couldBe_51 : decode cX8_couldBe 51 = .ok (.baload, 1) := by decide +kernel
theorem dX8_couldBe_52 : decode cX8_couldBe 52 = .ok (.if_icmp .ne 7, 3) := by decide +kernel
theorem dX8_couldBe_55 : decode cX8_couldBe 55 = .ok (.iconst 1, 1) := by decide +kernel
theorem dX8_couldBe_56 : decode cX8_couldBe 56 = .ok (.goto 4, 3) := by decide +kernel
theorem dX8_couldBe_59 : decode cX8_couldBe 59 = .ok (.iconst 0, 1) := by decide +kernel
theorem dX8_couldBe_60 : decode cX8_couldBe 60 = .ok (.istore_n 3, 1) := by decide +kernel
theorem dX8_couldBe_61 : decode cX8_couldBe 61 = .ok (.iinc 4 1, 3) := by decide +kernel
theorem dX8_couldBe_64 : decode cX8_couldBe 64 = .ok (.goto (-47), 3) := by decide +kernel
theorem dX8_couldBe_67 : decode cX8_couldBe 67 = .ok (.iload_n 1, 1) := by decide +kernel
theorem dX8_couldBe_68 : decode cX8_couldBe 68 = .ok (.iload_n 3, 1) := by decide +kernel
theorem dX8_couldBe_69 : decode cX8_couldBe 69 = .ok (.ifCond .eq 9, 3) := by decide +kernel
theorem dX8_couldBe_72 : decode cX8_couldBe 72 = .ok (.iconst 1, 1) := by decide +kernel
theorem dX8_couldBe_73 : decode cX8_couldBe 73 = .ok (.iload_n 2, 1) := by decide +kernel
theorem dX8_couldBe_74 : decode cX8_couldBe 74 = .ok (.ishl, 1) := by decide +kernel
theorem dX8_couldBe_75 : decode cX8_couldBe 75 = .ok (.goto 4, 3) := by decide +kernel
theorem dX8_couldBe_78 : decode cX8_couldBe 78 = .ok (.iconst 0, 1) := by decide +kernel
theorem dX8_couldBe_79 : decode cX8_couldBe 79 = .ok (.ior, 1) := by decide +kernel
theorem dX8_couldBe_80 : decode cX8_couldBe 80 = .ok (.istore_n 1, 1) := by decide +kernel
theorem dX8_couldBe_81 : decode cX8_couldBe 81 = .ok (.iinc 2 1, 3) := by decide +kernel
theorem dX8_couldBe_84 : decode cX8_couldBe 84 = .ok (.goto (-80), 3) := by decide +kernel
theorem dX8_couldBe_87 : decode cX8_couldBe 87 = .ok (.iload_n 1, 1) := by decide +kernel
theorem dX8_couldBe_88 : decode cX8_couldBe 88 = .ok (.ireturn, 1) := by decide +kernel
theorem dX8_mayBe_0 : decode cX8_mayBe 0 = .ok (.aload_n 0, 1) := by decide +kernel
theorem dX8_mayBe_1 : decode cX8_mayBe 1 = .ok (.invokevirtual 306, 3) := by decide +kernel
theorem dX8_mayBe_4 : decode cX8_mayBe 4 = .ok (.ireturn, 1) := by decide +kernel
theorem dX8_ask_0 : decode cX8_ask 0 = .ok (.aload_n 0, 1) := by decide +kernel
theorem dX8_ask_1 : decode cX8_ask 1 = .ok (.invokevirtual 306, 3) := by decide +kernel
theorem dX8_ask_4 : decode cX8_ask 4 = .ok (.istore_n 1, 1) := by decide +kernel
theorem dX8_ask_5 : decode cX8_ask 5 = .ok (.iload_n 1, 1) := by decide +kernel
theorem dX8_ask_6 : decode cX8_ask 6 = .ok (.invokestatic 238, 3) := by decide +kernel
theorem dX8_ask_9 : decode cX8_ask 9 = .ok (.istore_n 2, 1) := by decide +kernel
theorem dX8_ask_10 : decode cX8_ask 10 = .ok (.iconst (-1), 1) := by decide +kernel
theorem dX8_ask_11 : decode cX8_ask 11 = .ok (.istore_n 3, 1) := by decide +kernel
theorem dX8_ask_12 : decode cX8_ask 12 = .ok (.iload_n 2, 1) := by decide +kernel
theorem dX8_ask_13 : decode cX8_ask 13 = .ok (.istore 4, 2) := by decide +kernel
theorem dX8_ask_15 : decode cX8_ask 15 = .ok (.iconst 0, 1) := by decide +kernel
theorem dX8_ask_16 : decode cX8_ask 16 = .ok (.istore 5, 2) := by decide +kernel
theorem dX8_ask_18 : decode cX8_ask 18 = .ok (.iload 5, 2) := by decide +kernel
theorem dX8_ask_20 : decode cX8_ask 20 = .ok (.aload_n 0, 1) := by decide +kernel
theorem dX8_ask_21 : decode cX8_ask 21 = .ok (.getfield 94, 3) := by decide +kernel
theorem dX8_ask_24 : decode cX8_ask 24 = .ok (.if_icmp .ge 113, 3) := by decide +kernel
theorem dX8_ask_27 : decode cX8_ask 27 = .ok (.iconst 0, 1) := by decide +kernel
theorem dX8_ask_28 : decode cX8_ask 28 = .ok (.istore 6, 2) := by decide +kernel
theorem dX8_ask_30 : decode cX8_ask 30 = .ok (.iconst 0, 1) := by decide +kernel
theorem dX8_ask_31 : decode cX8_ask 31 = .ok (.istore 7, 2) := by decide +kernel
theorem dX8_ask_33 : decode cX8_ask 33 = .ok (.iload 7, 2) := by decide +kernel
theorem dX8_ask_35 : decode cX8_ask 35 = .ok (.aload_n 0, 1) := by decide +kernel
theorem dX8_ask_36 : decode cX8_ask 36 = .ok (.getfield 94, 3) := by decide +kernel
theorem dX8_ask_39 : decode cX8_ask 39 = .ok (.if_icmp .ge 42, 3) := by decide +kernel
theorem dX8_ask_42 : decode cX8_ask 42 = .ok (.iload 6, 2) := by decide +kernel
theorem dX8_ask_44 : decode cX8_ask 44 = .ok (.iload_n 1, 1) := by decide +kernel
theorem dX8_ask_45 : decode cX8_ask 45 = .ok (.iload 7, 2) := by decide +kernel
theorem dX8_ask_47 : decode cX8_ask 47 = .ok (.invokestatic 269, 3) := by decide +kernel
theorem dX8_ask_50 : decode cX8_ask 50 = .ok (.ifCond .eq 21, 3) := by decide +kernel
theorem dX8_ask_53 : decode cX8_ask 53 = .ok (.aload_n 0, 1) := by decide +kernel
theorem dX8_ask_54 : decode cX8_ask 54 = .ok (.iload 7, 2) := by decide +kernel
theorem dX8_ask_56 : decode cX8_ask 56 = .ok (.invokevirtual 297, 3) := by decide +kernel
theorem dX8_ask_59 : decode cX8_ask 59 = .ok (.iload 5, 2) := by decide +kernel
theorem dX8_ask_61 : decode cX8_ask 61 = .ok (.invokestatic 269, 3) := by decide +kernel
theorem dX8_ask_64 : decode cX8_ask 64 = .ok (.ifCond .eq 7, 3) := by decide +kernel
theorem dX8_ask_67 : decode cX8_ask 67 = .ok (.iconst 1, 1) := by decide +kernel
