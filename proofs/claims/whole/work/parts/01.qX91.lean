theorem dX9_factor_113 : decode cX9_factor 113 = .ok (.if_icmp .ge 52, 3) := by decide +kernel
theorem dX9_factor_116 : decode cX9_factor 116 = .ok (.iload 8, 2) := by decide +kernel
theorem dX9_factor_118 : decode cX9_factor 118 = .ok (.ifCond .eq 47, 3) := by decide +kernel
theorem dX9_factor_121 : decode cX9_factor 121 = .ok (.aload_n 0, 1) := by decide +kernel
theorem dX9_factor_122 : decode cX9_factor 122 = .ok (.getfield 20, 3) := by decide +kernel
theorem dX9_factor_125 : decode cX9_factor 125 = .ok (.iload 4, 2) := by decide +kernel
theorem dX9_factor_127 : decode cX9_factor 127 = .ok (.iload 9, 2) := by decide +kernel
theorem dX9_factor_129 : decode cX9_factor 129 = .ok (.iadd, 1) := by decide +kernel
theorem dX9_factor_130 : decode cX9_factor 130 = .ok (.iaload, 1) := by decide +kernel
theorem dX9_factor_131 : decode cX9_factor 131 = .ok (.iload 7, 2) := by decide +kernel
theorem dX9_factor_133 : decode cX9_factor 133 = .ok (.imul, 1) := by decide +kernel
theorem dX9_factor_134 : decode cX9_factor 134 = .ok (.aload_n 0, 1) := by decide +kernel
theorem dX9_factor_135 : decode cX9_factor 135 = .ok (.getfield 7, 3) := by decide +kernel
theorem dX9_factor_138 : decode cX9_factor 138 = .ok (.irem, 1) := by decide +kernel
theorem dX9_factor_139 : decode cX9_factor 139 = .ok (.aload_n 0, 1) := by decide +kernel
theorem dX9_factor_140 : decode cX9_factor 140 = .ok (.getfield 20, 3) := by decide +kernel
theorem dX9_factor_143 : decode cX9_factor 143 = .ok (.iload 5, 2) := by decide +kernel
theorem dX9_factor_145 : decode cX9_factor 145 = .ok (.iload 9, 2) := by decide +kernel
theorem dX9_factor_147 : decode cX9_factor 147 = .ok (.iadd, 1) := by decide +kernel
theorem dX9_factor_148 : decode cX9_factor 148 = .ok (.iaload, 1) := by decide +kernel
theorem dX9_factor_149 : decode cX9_factor 149 = .ok (.if_icmp .ne 7, 3) := by decide +kernel
theorem dX9_factor_152 : decode cX9_factor 152 = .ok (.iconst 1, 1) := by decide +kernel
theorem dX9_factor_153 : decode cX9_factor 153 = .ok (.goto 4, 3) := by decide +kernel
theorem dX9_factor_156 : decode cX9_factor 156 = .ok (.iconst 0, 1) := by decide +kernel
theorem dX9_factor_157 : decode cX9_factor 157 = .ok (.istore 8, 2) := by decide +kernel
theorem dX9_factor_159 : decode cX9_factor 159 = .ok (.iinc 9 1, 3) := by decide +kernel
theorem dX9_factor_162 : decode cX9_factor 162 = .ok (.goto (-53), 3) := by decide +kernel
theorem dX9_factor_165 : decode cX9_factor 165 = .ok (.iload 8, 2) := by decide +kernel
theorem dX9_factor_167 : decode cX9_factor 167 = .ok (.ifCond .eq 8, 3) := by decide +kernel
theorem dX9_factor_170 : decode cX9_factor 170 = .ok (.iload 7, 2) := by decide +kernel
theorem dX9_factor_172 : decode cX9_factor 172 = .ok (.goto 4, 3) := by decide +kernel
theorem dX9_factor_175 : decode cX9_factor 175 = .ok (.iconst 0, 1) := by decide +kernel
theorem dX9_factor_176 : decode cX9_factor 176 = .ok (.ireturn, 1) := by decide +kernel
theorem dX9_dropNought_0 : decode cX9_dropNought 0 = .ok (.iconst 0, 1) := by decide +kernel
theorem dX9_dropNought_1 : decode cX9_dropNought 1 = .ok (.istore_n 1, 1) := by decide +kernel
theorem dX9_dropNought_2 : decode cX9_dropNought 2 = .ok (.iload_n 1, 1) := by decide +kernel
theorem dX9_dropNought_3 : decode cX9_dropNought 3 = .ok (.aload_n 0, 1) := by decide +kernel
theorem dX9_dropNought_4 : decode cX9_dropNought 4 = .ok (.getfield 85, 3) := by decide +kernel
theorem dX9_dropNought_7 : decode cX9_dropNought 7 = .ok (.if_icmp .ge 43, 3) := by decide +kernel
theorem dX9_dropNought_10 : decode cX9_dropNought 10 = .ok (.aload_n 0, 1) := by decide +kernel
theorem dX9_dropNought_11 : decode cX9_dropNought 11 = .ok (.iload_n 1, 1) := by decide +kernel
theorem dX9_dropNought_12 : decode cX9_dropNought 12 = .ok (.iconst 0, 1) := by decide +kernel
theorem dX9_dropNought_13 : decode cX9_dropNought 13 = .ok (.invokevirtual 150, 3) := by decide +kernel
theorem dX9_dropNought_16 : decode cX9_dropNought 16 = .ok (.ifCond .ne 21, 3) := by decide +kernel
theorem dX9_dropNought_19 : decode cX9_dropNought 19 = .ok (.aload_n 0, 1) := by decide +kernel
theorem dX9_dropNought_20 : decode cX9_dropNought 20 = .ok (.iload_n 1, 1) := by decide +kernel
theorem dX9_dropNought_21 : decode cX9_dropNought 21 = .ok (.iconst 1, 1) := by decide +kernel
theorem dX9_dropNought_22 : decode cX9_dropNought 22 = .ok (.invokevirtual 150, 3) := by decide +kernel
theorem dX9_dropNought_25 : decode cX9_dropNought 25 = .ok (.ifCond .ne 12, 3) := by decide +kernel
theorem dX9_dropNought_28 : decode cX9_dropNought 28 = .ok (.aload_n 0, 1) := by decide +kernel
theorem dX9_dropNought_29 : decode cX9_dropNought 29 = .ok (.iload_n 1, 1) := by decide +kernel
theorem dX9_dropNought_30 : decode cX9_dropNought 30 = .ok (.iconst 2, 1) := by decide +kernel
theorem dX9_dropNought_31 : decode cX9_dropNought 31 = .ok (.invokevirtual 150, 3) := by decide +kernel
theorem dX9_dropNought_34 : decode cX9_dropNought 34 = .ok (.ifCond .eq 10, 3) := by decide +kernel
theorem dX9_dropNought_37 : decode cX9_dropNought 37 = .ok (.aload_n 0, 1) := by decide +kernel
theorem dX9_dropNought_38 : decode cX9_dropNought 38 = .ok (.iload_n 1, 1) := by decide +kernel
theorem dX9_dropNought_39 : decode cX9_dropNought 39 = .ok (.invokevirtual 136, 3) := by decide +kernel
theorem dX9_dropNought_42 : decode cX9_dropNought 42 = .ok (.iconst 1, 1) := by decide +kernel
theorem dX9_dropNought_43 : decode cX9_dropNought 43 = .ok (.ireturn, 1) := by decide +kernel
theorem dX9_dropNought_44 : decode cX9_dropNought 44 = .ok (.iinc 1 1, 3) := by decide +kernel
theorem dX9_dropNought_47 : decode cX9_dropNought 47 = .ok (.goto (-45), 3) := by decide +kernel
theorem dX9_dropNought_50 : decode cX9_dropNought 50 = .ok (.iconst 0, 1) := by decide +kernel
theorem dX9_dropNought_51 : decode cX9_dropNought 51 = .ok (.ireturn, 1) := by decide +kernel
theorem dX9_bringTogether_0 : decode cX9_bringTogether 0 = .ok (.aload_n 0, 1) := by decide +kernel
theorem dX9_bringTogether_1 : decode cX9_bringTogether 1 = .ok (.getfield 42, 3) := by decide +kernel
theorem dX9_bringTogether_4 : decode cX9_bringTogether 4 = .ok (.astore_n 3, 1) := by decide +kernel
theorem dX9_bringTogether_5 : decode cX9_bringTogether 5 = .ok (.iconst 0, 1) := by decide +kernel
theorem dX9_bringTogether_6 : decode cX9_bringTogether 6 = .ok (.istore 4, 2) := by decide +kernel
theorem dX9_bringTogether_8 : decode cX9_bringTogether 8 = .ok (.iload 4, 2) := by decide +kernel
theorem dX9_bringTogether_10 : decode cX9_bringTogether 10 = .ok (.iconst 3, 1) := by decide +kernel
theorem dX9_bringTogether_11 : decode cX9_bringTogether 11 = .ok (.if_icmp .ge 21, 3) := by decide +kernel
theorem dX9_bringTogether_14 : decode cX9_bringTogether 14 = .ok (.aload_n 3, 1) := by decide +kernel
theorem dX9_bringTogether_15 : decode cX9_bringTogether 15 = .ok (.iload 4, 2) := by decide +kernel
theorem dX9_bringTogether_17 : decode cX9_bringTogether 17 = .ok (.aload_n 0, 1) := by decide +kernel
theorem dX9_bringTogether_18 : decode cX9_bringTogether 18 = .ok (.iload_n 1, 1) := by decide +kernel
theorem dX9_bringTogether_19 : decode cX9_bringTogether 19 = .ok (.iload_n 2, 1) := by decide +kernel
theorem dX9_bringTogether_20 : decode cX9_bringTogether 20 = .ok (.iload 4, 2) := by decide +kernel
theorem dX9_bringTogether_22 : decode cX9_bringTogether 22 = .ok (.invokevirtual 153, 3) := by decide +kernel
theorem dX9_bringTogether_25 : decode cX9_bringTogether 25 = .ok (.iastore, 1) := by decide +kernel
theorem dX9_bringTogether_26 : decode cX9_bringTogether 26 = .ok (.iinc 4 1, 3) := by decide +kernel
theorem dX9_bringTogether_29 : decode cX9_bringTogether 29 = .ok (.goto (-21), 3) := by decide +kernel
theorem dX9_bringTogether_32 : decode cX9_bringTogether 32 = .ok (.aload_n 3, 1) := by decide +kernel
theorem dX9_bringTogether_33 : decode cX9_bringTogether 33 = .ok (.iconst 0, 1) := by decide +kernel
theorem dX9_bringTogether_34 : decode cX9_bringTogether 34 = .ok (.iaload, 1) := by decide +kernel
theorem dX9_bringTogether_35 : decode cX9_bringTogether 35 = .ok (.ifCond .le 13, 3) := by decide +kernel
theorem dX9_bringTogether_38 : decode cX9_bringTogether 38 = .ok (.aload_n 3, 1) := by decide +kernel
theorem dX9_bringTogether_39 : decode cX9_bringTogether 39 = .ok (.iconst 1, 1) := by decide +kernel
theorem dX9_bringTogether_40 : decode cX9_bringTogether 40 = .ok (.iaload, 1) := by decide +kernel
theorem dX9_bringTogether_41 : decode cX9_bringTogether 41 = .ok (.ifCond .le 7, 3) := by decide +kernel
theorem dX9_bringTogether_44 : decode cX9_bringTogether 44 = .ok (.iconst 2, 1) := by decide +kernel
theorem dX9_bringTogether_45 : decode cX9_bringTogether 45 = .ok (.goto 36, 3) := by decide +kernel
theorem dX9_bringTogether_48 : decode cX9_bringTogether 48 = .ok (.aload_n 3, 1) := by decide +kernel
theorem dX9_bringTogether_49 : decode cX9_bringTogether 49 = .ok (.iconst 0, 1) := by decide +kernel
theorem dX9_bringTogether_50 : decode cX9_bringTogether 50 = .ok (.iaload, 1) := by decide +kernel
theorem dX9_bringTogether_51 : decode cX9_bringTogether 51 = .ok (.ifCond .le 13, 3) := by decide +kernel
theorem dX9_bringTogether_54 : decode cX9_bringTogether 54 = .ok (.aload_n 3, 1) := by decide +kernel
theorem dX9_bringTogether_55 : decode cX9_bringTogether 55 = .ok (.iconst 2, 1) := by decide +kernel
theorem dX9_bringTogether_56 : decode cX9_bringTogether 56 = .ok (.iaload, 1) := by decide +kernel
theorem dX9_bringTogether_57 : decode cX9_bringTogether 57 = .ok (.ifCond .le 7, 3) := by decide +kernel
theorem dX9_bringTogether_60 : decode cX9_bringTogether 60 = .ok (.iconst 1, 1) := by decide +kernel
theorem dX9_bringTogether_61 : decode cX9_bringTogether 61 = .ok (.goto 20, 3) := by decide +kernel
theorem dX9_bringTogether_64 : decode cX9_bringTogether 64 = .ok (.aload_n 3, 1) := by decide +kernel
theorem dX9_bringTogether_65 : decode cX9_bringTogether 65 = .ok (.iconst 1, 1) := by decide +kernel
theorem dX9_bringTogether_66 : decode cX9_bringTogether 66 = .ok (.iaload, 1) := by decide +kernel
theorem dX9_bringTogether_67 : decode cX9_bringTogether 67 = .ok (.ifCond .le 13, 3) := by decide +kernel
theorem dX9_bringTogether_70 : decode cX9_bringTogether 70 = .ok (.aload_n 3, 1) := by decide +kernel
theorem dX9_bringTogether_71 : decode cX9_bringTogether 71 = .ok (.iconst 2, 1) := by decide +kernel
theorem dX9_bringTogether_72 : decode cX9_bringTogether 72 = .ok (.iaload, 1) := by decide +kernel
theorem dX9_bringTogether_73 : decode cX9_bringTogether 73 = .ok (.ifCond .le 7, 3) := by decide +kernel
theorem dX9_bringTogether_76 : decode cX9_bringTogether 76 = .ok (.iconst 0, 1) := by decide +kernel
theorem dX9_bringTogether_77 : decode cX9_bringTogether 77 = .ok (.goto 4, 3) := by decide +kernel
theorem dX9_bringTogether_80 : decode cX9_bringTogether 80 = .ok (.iconst (-1), 1) := by decide +kernel
theorem dX9_bringTogether_81 : decode cX9_bringTogether 81 = .ok (.istore 4, 2) := by decide +kernel
theorem dX9_bringTogether_83 : decode cX9_bringTogether 83 = .ok (.iload 4, 2) := by decide +kernel
theorem dX9_bringTogether_85 : decode cX9_bringTogether 85 = .ok (.ifCond .ge 5, 3) := by decide +kernel
theorem dX9_bringTogether_88 : decode cX9_bringTogether 88 = .ok (.iconst 0, 1) := by decide +kernel
theorem dX9_bringTogether_89 : decode cX9_bringTogether 89 = .ok (.ireturn, 1) := by decide +kernel
theorem dX9_bringTogether_90 : decode cX9_bringTogether 90 = .ok (.aload_n 3, 1) := by decide +kernel
theorem dX9_bringTogether_91 : decode cX9_bringTogether 91 = .ok (.iload 4, 2) := by decide +kernel
theorem dX9_bringTogether_93 : decode cX9_bringTogether 93 = .ok (.iconst 1, 1) := by decide +kernel
theorem dX9_bringTogether_94 : decode cX9_bringTogether 94 = .ok (.iadd, 1) := by decide +kernel
theorem dX9_bringTogether_95 : decode cX9_bringTogether 95 = .ok (.iconst 3, 1) := by decide +kernel
theorem dX9_bringTogether_96 : decode cX9_bringTogether 96 = .ok (.irem, 1) := by decide +kernel
theorem dX9_bringTogether_97 : decode cX9_bringTogether 97 = .ok (.iaload, 1) := by decide +kernel
theorem dX9_bringTogether_98 : decode cX9_bringTogether 98 = .ok (.aload_n 3, 1) := by decide +kernel
theorem dX9_bringTogether_99 : decode cX9_bringTogether 99 = .ok (.iload 4, 2) := by decide +kernel
theorem dX9_bringTogether_101 : decode cX9_bringTogether 101 = .ok (.iconst 2, 1) := by decide +kernel
theorem dX9_bringTogether_102 : decode cX9_bringTogether 102 = .ok (.iadd, 1) := by decide +kernel
theorem dX9_bringTogether_103 : decode cX9_bringTogether 103 = .ok (.iconst 3, 1) := by decide +kernel
theorem dX9_bringTogether_104 : decode cX9_bringTogether 104 = .ok (.irem, 1) := by decide +kernel
theorem dX9_bringTogether_105 : decode cX9_bringTogether 105 = .ok (.iaload, 1) := by decide +kernel
theorem dX9_bringTogether_106 : decode cX9_bringTogether 106 = .ok (.imul, 1) := by decide +kernel
theorem dX9_bringTogether_107 : decode cX9_bringTogether 107 = .ok (.aload_n 0, 1) := by decide +kernel
theorem dX9_bringTogether_108 : decode cX9_bringTogether 108 = .ok (.getfield 7, 3) := by decide +kernel
theorem dX9_bringTogether_111 : decode cX9_bringTogether 111 = .ok (.irem, 1) := by decide +kernel
theorem dX9_bringTogether_112 : decode cX9_bringTogether 112 = .ok (.istore 5, 2) := by decide +kernel
theorem dX9_bringTogether_114 : decode cX9_bringTogether 114 = .ok (.aload_n 0, 1) := by decide +kernel
theorem dX9_bringTogether_115 : decode cX9_bringTogether 115 = .ok (.iload_n 1, 1) := by decide +kernel
theorem dX9_bringTogether_116 : decode cX9_bringTogether 116 = .ok (.iload 4, 2) := by decide +kernel
theorem dX9_bringTogether_118 : decode cX9_bringTogether 118 = .ok (.iload_n 2, 1) := by decide +kernel
theorem dX9_bringTogether_119 : decode cX9_bringTogether 119 = .ok (.iload 4, 2) := by decide +kernel
theorem dX9_bringTogether_121 : decode cX9_bringTogether 121 = .ok (.iload 5, 2) := by decide +kernel
theorem dX9_bringTogether_123 : decode cX9_bringTogether 123 = .ok (.invokevirtual 156, 3) := by decide +kernel
theorem dX9_bringTogether_126 : decode cX9_bringTogether 126 = .ok (.aload_n 0, 1) := by decide +kernel
theorem dX9_bringTogether_127 : decode cX9_bringTogether 127 = .ok (.iload_n 2, 1) := by decide +kernel
theorem dX9_bringTogether_128 : decode cX9_bringTogether 128 = .ok (.invokevirtual 136, 3) := by decide +kernel
theorem dX9_bringTogether_131 : decode cX9_bringTogether 131 = .ok (.iconst 1, 1) := by decide +kernel
theorem dX9_bringTogether_132 : decode cX9_bringTogether 132 = .ok (.ireturn, 1) := by decide +kernel
theorem dX9_addRow_0 : decode cX9_addRow 0 = .ok (.iconst 0, 1) := by decide +kernel
theorem dX9_addRow_1 : decode cX9_addRow 1 = .ok (.istore 6, 2) := by decide +kernel
theorem dX9_addRow_3 : decode cX9_addRow 3 = .ok (.iload 6, 2) := by decide +kernel
theorem dX9_addRow_5 : decode cX9_addRow 5 = .ok (.bipush 9, 2) := by decide +kernel
theorem dX9_addRow_7 : decode cX9_addRow 7 = .ok (.if_icmp .ge 74, 3) := by decide +kernel
theorem dX9_addRow_10 : decode cX9_addRow 10 = .ok (.aload_n 0, 1) := by decide +kernel
theorem dX9_addRow_11 : decode cX9_addRow 11 = .ok (.getfield 20, 3) := by decide +kernel
theorem dX9_addRow_14 : decode cX9_addRow 14 = .ok (.bipush 27, 2) := by decide +kernel
theorem dX9_addRow_16 : decode cX9_addRow 16 = .ok (.iload_n 1, 1) := by decide +kernel
theorem dX9_addRow_17 : decode cX9_addRow 17 = .ok (.imul, 1) := by decide +kernel
theorem dX9_addRow_18 : decode cX9_addRow 18 = .ok (.bipush 9, 2) := by decide +kernel
theorem dX9_addRow_20 : decode cX9_addRow 20 = .ok (.iload_n 2, 1) := by decide +kernel
theorem dX9_addRow_21 : decode cX9_addRow 21 = .ok (.imul, 1) := by decide +kernel
theorem dX9_addRow_22 : decode cX9_addRow 22 = .ok (.iadd, 1) := by decide +kernel
theorem dX9_addRow_23 : decode cX9_addRow 23 = .ok (.iload 6, 2) := by decide +kernel
theorem dX9_addRow_25 : decode cX9_addRow 25 = .ok (.iadd, 1) := by decide +kernel
theorem dX9_addRow_26 : decode cX9_addRow 26 = .ok (.iaload, 1) := by decide +kernel
theorem dX9_addRow_27 : decode cX9_addRow 27 = .ok (.iload 5, 2) := by decide +kernel
theorem dX9_addRow_29 : decode cX9_addRow 29 = .ok (.aload_n 0, 1) := by decide +kernel
theorem dX9_addRow_30 : decode cX9_addRow 30 = .ok (.getfield 20, 3) := by decide +kernel
theorem dX9_addRow_33 : decode cX9_addRow 33 = .ok (.bipush 27, 2) := by decide +kernel
theorem dX9_addRow_35 : decode cX9_addRow 35 = .ok (.iload_n 3, 1) := by decide +kernel
theorem dX9_addRow_36 : decode cX9_addRow 36 = .ok (.imul, 1) := by decide +kernel
theorem dX9_addRow_37 : decode cX9_addRow 37 = .ok (.bipush 9, 2) := by decide +kernel
theorem dX9_addRow_39 : decode cX9_addRow 39 = .ok (.iload 4, 2) := by decide +kernel
theorem dX9_addRow_41 : decode cX9_addRow 41 = .ok (.imul, 1) := by decide +kernel
theorem dX9_addRow_42 : decode cX9_addRow 42 = .ok (.iadd, 1) := by decide +kernel
theorem dX9_addRow_43 : decode cX9_addRow 43 = .ok (.iload 6, 2) := by decide +kernel
theorem dX9_addRow_45 : decode cX9_addRow 45 = .ok (.iadd, 1) := by decide +kernel
theorem dX9_addRow_46 : decode cX9_addRow 46 = .ok (.iaload, 1) := by decide +kernel
theorem dX9_addRow_47 : decode cX9_addRow 47 = .ok (.imul, 1) := by decide +kernel
theorem dX9_addRow_48 : decode cX9_addRow 48 = .ok (.iadd, 1) := by decide +kernel
theorem dX9_addRow_49 : decode cX9_addRow 49 = .ok (.istore 7, 2) := by decide +kernel
theorem dX9_addRow_51 : decode cX9_addRow 51 = .ok (.aload_n 0, 1) := by decide +kernel
theorem dX9_addRow_52 : decode cX9_addRow 52 = .ok (.getfield 20, 3) := by decide +kernel
theorem dX9_addRow_55 : decode cX9_addRow 55 = .ok (.bipush 27, 2) := by decide +kernel
theorem dX9_addRow_57 : decode cX9_addRow 57 = .ok (.iload_n 1, 1) := by decide +kernel
theorem dX9_addRow_58 : decode cX9_addRow 58 = .ok (.imul, 1) := by decide +kernel
theorem dX9_addRow_59 : decode cX9_addRow 59 = .ok (.bipush 9, 2) := by decide +kernel
theorem dX9_addRow_61 : decode cX9_addRow 61 = .ok (.iload_n 2, 1) := by decide +kernel
theorem dX9_addRow_62 : decode cX9_addRow 62 = .ok (.imul, 1) := by decide +kernel
theorem dX9_addRow_63 : decode cX9_addRow 63 = .ok (.iadd, 1) := by decide +kernel
theorem dX9_addRow_64 : decode cX9_addRow 64 = .ok (.iload 6, 2) := by decide +kernel
theorem dX9_addRow_66 : decode cX9_addRow 66 = .ok (.iadd, 1) := by decide +kernel
theorem dX9_addRow_67 : decode cX9_addRow 67 = .ok (.iload 7, 2) := by decide +kernel
theorem dX9_addRow_69 : decode cX9_addRow 69 = .ok (.aload_n 0, 1) := by decide +kernel
theorem dX9_addRow_70 : decode cX9_addRow 70 = .ok (.getfield 7, 3) := by decide +kernel
theorem dX9_addRow_73 : decode cX9_addRow 73 = .ok (.irem, 1) := by decide +kernel
theorem dX9_addRow_74 : decode cX9_addRow 74 = .ok (.iastore, 1) := by decide +kernel
theorem dX9_addRow_75 : decode cX9_addRow 75 = .ok (.iinc 6 1, 3) := by decide +kernel
theorem dX9_addRow_78 : decode cX9_addRow 78 = .ok (.goto (-75), 3) := by decide +kernel
theorem dX9_addRow_81 : decode cX9_addRow 81 = .ok (.return_, 1) := by decide +kernel
theorem dX9_lessenOnce_0 : decode cX9_lessenOnce 0 = .ok (.aload_n 0, 1) := by decide +kernel
theorem dX9_lessenOnce_1 : decode cX9_lessenOnce 1 = .ok (.invokevirtual 160, 3) := by decide +kernel
theorem dX9_lessenOnce_4 : decode cX9_lessenOnce 4 = .ok (.ifCond .eq 5, 3) := by decide +kernel
theorem dX9_lessenOnce_7 : decode cX9_lessenOnce 7 = .ok (.iconst 1, 1) := by decide +kernel
theorem dX9_lessenOnce_8 : decode cX9_lessenOnce 8 = .ok (.ireturn, 1) := by decide +kernel
theorem dX9_lessenOnce_9 : decode cX9_lessenOnce 9 = .ok (.iconst 0, 1) := by decide +kernel
theorem dX9_lessenOnce_10 : decode cX9_lessenOnce 10 = .ok (.istore_n 1, 1) := by decide +kernel
theorem dX9_lessenOnce_11 : decode cX9_lessenOnce 11 = .ok (.iload_n 1, 1) := by decide +kernel
theorem dX9_lessenOnce_12 : decode cX9_lessenOnce 12 = .ok (.aload_n 0, 1) := by decide +kernel
theorem dX9_lessenOnce_13 : decode cX9_lessenOnce 13 = .ok (.getfield 85, 3) := by decide +kernel
theorem dX9_lessenOnce_16 : decode cX9_lessenOnce 16 = .ok (.if_icmp .ge 38, 3) := by decide +kernel
theorem dX9_lessenOnce_19 : decode cX9_lessenOnce 19 = .ok (.iload_n 1, 1) := by decide +kernel
theorem dX9_lessenOnce_20 : decode cX9_lessenOnce 20 = .ok (.iconst 1, 1) := by decide +kernel
theorem dX9_lessenOnce_21 : decode cX9_lessenOnce 21 = .ok (.iadd, 1) := by decide +kernel
theorem dX9_lessenOnce_22 : decode cX9_lessenOnce 22 = .ok (.istore_n 2, 1) := by decide +kernel
theorem dX9_lessenOnce_23 : decode cX9_lessenOnce 23 = .ok (.iload_n 2, 1) := by decide +kernel
theorem dX9_lessenOnce_24 : decode cX9_lessenOnce 24 = .ok (.aload_n 0, 1) := by decide +kernel
theorem dX9_lessenOnce_25 : decode cX9_lessenOnce 25 = .ok (.getfield 85, 3) := by decide +kernel
theorem dX9_lessenOnce_28 : decode cX9_lessenOnce 28 = .ok (.if_icmp .ge 20, 3) := by decide +kernel
theorem dX9_lessenOnce_31 : decode cX9_lessenOnce 31 = .ok (.aload_n 0, 1) := by decide +kernel
theorem dX9_lessenOnce_32 : decode cX9_lessenOnce 32 = .ok (.iload_n 1, 1) := by decide +kernel
theorem dX9_lessenOnce_33 : decode cX9_lessenOnce 33 = .ok (.iload_n 2, 1) := by decide +kernel
theorem dX9_lessenOnce_34 : decode cX9_lessenOnce 34 = .ok (.invokevirtual 164, 3) := by decide +kernel
theorem dX9_lessenOnce_37 : decode cX9_lessenOnce 37 = .ok (.ifCond .eq 5, 3) := by decide +kernel
theorem dX9_lessenOnce_40 : decode cX9_lessenOnce 40 = .ok (.iconst 1, 1) := by decide +kernel
theorem dX9_lessenOnce_41 : decode cX9_lessenOnce 41 = .ok (.ireturn, 1) := by decide +kernel
theorem dX9_lessenOnce_42 : decode cX9_lessenOnce 42 = .ok (.iinc 2 1, 3) := by decide +kernel
theorem dX9_lessenOnce_45 : decode cX9_lessenOnce 45 = .ok (.goto (-22), 3) := by decide +kernel
theorem dX9_lessenOnce_48 : decode cX9_lessenOnce 48 = .ok (.iinc 1 1, 3) := by decide +kernel
theorem dX9_lessenOnce_51 : decode cX9_lessenOnce 51 = .ok (.goto (-40), 3) := by decide +kernel
theorem dX9_lessenOnce_54 : decode cX9_lessenOnce 54 = .ok (.iconst 0, 1) := by decide +kernel
theorem dX9_lessenOnce_55 : decode cX9_lessenOnce 55 = .ok (.ireturn, 1) := by decide +kernel
theorem dX9_less_0 : decode cX9_less 0 = .ok (.aload_n 0, 1) := by decide +kernel
theorem dX9_less_1 : decode cX9_less 1 = .ok (.getfield 85, 3) := by decide +kernel
theorem dX9_less_4 : decode cX9_less 4 = .ok (.istore_n 1, 1) := by decide +kernel
theorem dX9_less_5 : decode cX9_less 5 = .ok (.iconst 1, 1) := by decide +kernel
theorem dX9_less_6 : decode cX9_less 6 = .ok (.istore_n 2, 1) := by decide +kernel
theorem dX9_less_7 : decode cX9_less 7 = .ok (.iload_n 2, 1) := by decide +kernel
theorem dX9_less_8 : decode cX9_less 8 = .ok (.ifCond .eq 11, 3) := by decide +kernel
theorem dX9_less_11 : decode cX9_less 11 = .ok (.aload_n 0, 1) := by decide +kernel
theorem dX9_less_12 : decode cX9_less 12 = .ok (.invokevirtual 167, 3) := by decide +kernel
theorem dX9_less_15 : decode cX9_less 15 = .ok (.istore_n 2, 1) := by decide +kernel
theorem dX9_less_16 : decode cX9_less 16 = .ok (.goto (-9), 3) := by decide +kernel
theorem dX9_less_19 : decode cX9_less 19 = .ok (.iload_n 1, 1) := by decide +kernel
theorem dX9_less_20 : decode cX9_less 20 = .ok (.aload_n 0, 1) := by decide +kernel
theorem dX9_less_21 : decode cX9_less 21 = .ok (.getfield 85, 3) := by decide +kernel
theorem dX9_less_24 : decode cX9_less 24 = .ok (.isub, 1) := by decide +kernel
theorem dX9_less_25 : decode cX9_less 25 = .ok (.ireturn, 1) := by decide +kernel
theorem dX9_moves_0 : decode cX9_moves 0 = .ok (.iconst 0, 1) := by decide +kernel
theorem dX9_moves_1 : decode cX9_moves 1 = .ok (.istore_n 1, 1) := by decide +kernel
theorem dX9_moves_2 : decode cX9_moves 2 = .ok (.iconst 0, 1) := by decide +kernel
theorem dX9_moves_3 : decode cX9_moves 3 = .ok (.istore_n 2, 1) := by decide +kernel
theorem dX9_moves_4 : decode cX9_moves 4 = .ok (.iload_n 2, 1) := by decide +kernel
theorem dX9_moves_5 : decode cX9_moves 5 = .ok (.iconst 3, 1) := by decide +kernel
theorem dX9_moves_6 : decode cX9_moves 6 = .ok (.if_icmp .ge 68, 3) := by decide +kernel
theorem dX9_moves_9 : decode cX9_moves 9 = .ok (.iconst 0, 1) := by decide +kernel
theorem dX9_moves_10 : decode cX9_moves 10 = .ok (.istore_n 3, 1) := by decide +kernel
theorem dX9_moves_11 : decode cX9_moves 11 = .ok (.iload_n 3, 1) := by decide +kernel
theorem dX9_moves_12 : decode cX9_moves 12 = .ok (.aload_n 0, 1) := by decide +kernel
theorem dX9_moves_13 : decode cX9_moves 13 = .ok (.getfield 85, 3) := by decide +kernel
theorem dX9_moves_16 : decode cX9_moves 16 = .ok (.if_icmp .ge 52, 3) := by decide +kernel
theorem dX9_moves_19 : decode cX9_moves 19 = .ok (.iconst 0, 1) := by decide +kernel
theorem dX9_moves_20 : decode cX9_moves 20 = .ok (.istore 4, 2) := by decide +kernel
theorem dX9_moves_22 : decode cX9_moves 22 = .ok (.iload 4, 2) := by decide +kernel
theorem dX9_moves_24 : decode cX9_moves 24 = .ok (.aload_n 0, 1) := by decide +kernel
theorem dX9_moves_25 : decode cX9_moves 25 = .ok (.getfield 85, 3) := by decide +kernel
theorem dX9_moves_28 : decode cX9_moves 28 = .ok (.if_icmp .ge 34, 3) := by decide +kernel
theorem dX9_moves_31 : decode cX9_moves 31 = .ok (.iload_n 1, 1) := by decide +kernel
theorem dX9_moves_32 : decode cX9_moves 32 = .ok (.iload_n 3, 1) := by decide +kernel
theorem dX9_moves_33 : decode cX9_moves 33 = .ok (.iload 4, 2) := by decide +kernel
theorem dX9_moves_35 : decode cX9_moves 35 = .ok (.if_icmp .eq 18, 3) := by decide +kernel
theorem dX9_moves_38 : decode cX9_moves 38 = .ok (.aload_n 0, 1) := by decide +kernel
theorem dX9_moves_39 : decode cX9_moves 39 = .ok (.iload_n 3, 1) := by decide +kernel
theorem dX9_moves_40 : decode cX9_moves 40 = .ok (.iload 4, 2) := by decide +kernel
theorem dX9_moves_42 : decode cX9_moves 42 = .ok (.iload_n 2, 1) := by decide +kernel
theorem dX9_moves_43 : decode cX9_moves 43 = .ok (.invokevirtual 153, 3) := by decide +kernel
theorem dX9_moves_46 : decode cX9_moves 46 = .ok (.ifCond .le 7, 3) := by decide +kernel
theorem dX9_moves_49 : decode cX9_moves 49 = .ok (.iconst 1, 1) := by decide +kernel
theorem dX9_moves_50 : decode cX9_moves 50 = .ok (.goto 4, 3) := by decide +kernel
theorem dX9_moves_53 : decode cX9_moves 53 = .ok (.iconst 0, 1) := by decide +kernel
theorem dX9_moves_54 : decode cX9_moves 54 = .ok (.iadd, 1) := by decide +kernel
theorem dX9_moves_55 : decode cX9_moves 55 = .ok (.istore_n 1, 1) := by decide +kernel
theorem dX9_moves_56 : decode cX9_moves 56 = .ok (.iinc 4 1, 3) := by decide +kernel
theorem dX9_moves_59 : decode cX9_moves 59 = .ok (.goto (-37), 3) := by decide +kernel
theorem dX9_moves_62 : decode cX9_moves 62 = .ok (.iinc 3 1, 3) := by decide +kernel
theorem dX9_moves_65 : decode cX9_moves 65 = .ok (.goto (-54), 3) := by decide +kernel
theorem dX9_moves_68 : decode cX9_moves 68 = .ok (.iinc 2 1, 3) := by decide +kernel
theorem dX9_moves_71 : decode cX9_moves 71 = .ok (.goto (-67), 3) := by decide +kernel
theorem dX9_moves_74 : decode cX9_moves 74 = .ok (.iload_n 1, 1) := by decide +kernel
theorem dX9_moves_75 : decode cX9_moves 75 = .ok (.ireturn, 1) := by decide +kernel
theorem dX9_doMove_0 : decode cX9_doMove 0 = .ok (.aload_n 0, 1) := by decide +kernel
theorem dX9_doMove_1 : decode cX9_doMove 1 = .ok (.iload_n 2, 1) := by decide +kernel
theorem dX9_doMove_2 : decode cX9_doMove 2 = .ok (.iload_n 3, 1) := by decide +kernel
theorem dX9_doMove_3 : decode cX9_doMove 3 = .ok (.iload_n 1, 1) := by decide +kernel
theorem dX9_doMove_4 : decode cX9_doMove 4 = .ok (.invokevirtual 153, 3) := by decide +kernel
theorem dX9_doMove_7 : decode cX9_doMove 7 = .ok (.istore 4, 2) := by decide +kernel
theorem dX9_doMove_9 : decode cX9_doMove 9 = .ok (.iload 4, 2) := by decide +kernel
theorem dX9_doMove_11 : decode cX9_doMove 11 = .ok (.ifCond .ne 5, 3) := by decide +kernel
theorem dX9_doMove_14 : decode cX9_doMove 14 = .ok (.iconst 0, 1) := by decide +kernel
theorem dX9_doMove_15 : decode cX9_doMove 15 = .ok (.ireturn, 1) := by decide +kernel
theorem dX9_doMove_16 : decode cX9_doMove 16 = .ok (.iload_n 1, 1) := by decide +kernel
theorem dX9_doMove_17 : decode cX9_doMove 17 = .ok (.iconst 1, 1) := by decide +kernel
theorem dX9_doMove_18 : decode cX9_doMove 18 = .ok (.iadd, 1) := by decide +kernel
theorem dX9_doMove_19 : decode cX9_doMove 19 = .ok (.iconst 3, 1) := by decide +kernel
theorem dX9_doMove_20 : decode cX9_doMove 20 = .ok (.irem, 1) := by decide +kernel
theorem dX9_doMove_21 : decode cX9_doMove 21 = .ok (.istore 5, 2) := by decide +kernel
theorem dX9_doMove_23 : decode cX9_doMove 23 = .ok (.iload_n 1, 1) := by decide +kernel
theorem dX9_doMove_24 : decode cX9_doMove 24 = .ok (.iconst 2, 1) := by decide +kernel
theorem dX9_doMove_25 : decode cX9_doMove 25 = .ok (.iadd, 1) := by decide +kernel
theorem dX9_doMove_26 : decode cX9_doMove 26 = .ok (.iconst 3, 1) := by decide +kernel
theorem dX9_doMove_27 : decode cX9_doMove 27 = .ok (.irem, 1) := by decide +kernel
theorem dX9_doMove_28 : decode cX9_doMove 28 = .ok (.istore 6, 2) := by decide +kernel
theorem dX9_doMove_30 : decode cX9_doMove 30 = .ok (.iconst 0, 1) := by decide +kernel
theorem dX9_doMove_31 : decode cX9_doMove 31 = .ok (.istore 7, 2) := by decide +kernel
theorem dX9_doMove_33 : decode cX9_doMove 33 = .ok (.iload 7, 2) := by decide +kernel
theorem dX9_doMove_35 : decode cX9_doMove 35 = .ok (.bipush 9, 2) := by decide +kernel
theorem dX9_doMove_37 : decode cX9_doMove 37 = .ok (.if_icmp .ge 87, 3) := by decide +kernel
theorem dX9_doMove_40 : decode cX9_doMove 40 = .ok (.aload_n 0, 1) := by decide +kernel
theorem dX9_doMove_41 : decode cX9_doMove 41 = .ok (.getfield 20, 3) := by decide +kernel
theorem dX9_doMove_44 : decode cX9_doMove 44 = .ok (.bipush 27, 2) := by decide +kernel
theorem dX9_doMove_46 : decode cX9_doMove 46 = .ok (.iload_n 3, 1) := by decide +kernel
theorem dX9_doMove_47 : decode cX9_doMove 47 = .ok (.imul, 1) := by decide +kernel
theorem dX9_doMove_48 : decode cX9_doMove 48 = .ok (.bipush 9, 2) := by decide +kernel
theorem dX9_doMove_50 : decode cX9_doMove 50 = .ok (.iload_n 1, 1) := by decide +kernel
theorem dX9_doMove_51 : decode cX9_doMove 51 = .ok (.imul, 1) := by decide +kernel
theorem dX9_doMove_52 : decode cX9_doMove 52 = .ok (.iadd, 1) := by decide +kernel
theorem dX9_doMove_53 : decode cX9_doMove 53 = .ok (.iload 7, 2) := by decide +kernel
theorem dX9_doMove_55 : decode cX9_doMove 55 = .ok (.iadd, 1) := by decide +kernel
theorem dX9_doMove_56 : decode cX9_doMove 56 = .ok (.aload_n 0, 1) := by decide +kernel
theorem dX9_doMove_57 : decode cX9_doMove 57 = .ok (.getfield 20, 3) := by decide +kernel
theorem dX9_doMove_60 : decode cX9_doMove 60 = .ok (.bipush 27, 2) := by decide +kernel
theorem dX9_doMove_62 : decode cX9_doMove 62 = .ok (.iload_n 2, 1) := by decide +kernel
theorem dX9_doMove_63 : decode cX9_doMove 63 = .ok (.imul, 1) := by decide +kernel
theorem dX9_doMove_64 : decode cX9_doMove 64 = .ok (.bipush 9, 2) := by decide +kernel
theorem dX9_doMove_66 : decode cX9_doMove 66 = .ok (.iload_n 1, 1) := by decide +kernel
theorem dX9_doMove_67 : decode cX9_doMove 67 = .ok (.imul, 1) := by decide +kernel
theorem dX9_doMove_68 : decode cX9_doMove 68 = .ok (.iadd, 1) := by decide +kernel
theorem dX9_doMove_69 : decode cX9_doMove 69 = .ok (.iload 7, 2) := by decide +kernel
theorem dX9_doMove_71 : decode cX9_doMove 71 = .ok (.iadd, 1) := by decide +kernel
theorem dX9_doMove_72 : decode cX9_doMove 72 = .ok (.iaload, 1) := by decide +kernel
theorem dX9_doMove_73 : decode cX9_doMove 73 = .ok (.iastore, 1) := by decide +kernel
theorem dX9_doMove_74 : decode cX9_doMove 74 = .ok (.aload_n 0, 1) := by decide +kernel
theorem dX9_doMove_75 : decode cX9_doMove 75 = .ok (.getfield 20, 3) := by decide +kernel
theorem dX9_doMove_78 : decode cX9_doMove 78 = .ok (.bipush 27, 2) := by decide +kernel
theorem dX9_doMove_80 : decode cX9_doMove 80 = .ok (.iload_n 3, 1) := by decide +kernel
theorem dX9_doMove_81 : decode cX9_doMove 81 = .ok (.imul, 1) := by decide +kernel
theorem dX9_doMove_82 : decode cX9_doMove 82 = .ok (.bipush 9, 2) := by decide +kernel
theorem dX9_doMove_84 : decode cX9_doMove 84 = .ok (.iload 5, 2) := by decide +kernel
theorem dX9_doMove_86 : decode cX9_doMove 86 = .ok (.imul, 1) := by decide +kernel
theorem dX9_doMove_87 : decode cX9_doMove 87 = .ok (.iadd, 1) := by decide +kernel
theorem dX9_doMove_88 : decode cX9_doMove 88 = .ok (.iload 7, 2) := by decide +kernel
theorem dX9_doMove_90 : decode cX9_doMove 90 = .ok (.iadd, 1) := by decide +kernel
theorem dX9_doMove_91 : decode cX9_doMove 91 = .ok (.aload_n 0, 1) := by decide +kernel
theorem dX9_doMove_92 : decode cX9_doMove 92 = .ok (.getfield 20, 3) := by decide +kernel
theorem dX9_doMove_95 : decode cX9_doMove 95 = .ok (.bipush 27, 2) := by decide +kernel
theorem dX9_doMove_97 : decode cX9_doMove 97 = .ok (.iload_n 3, 1) := by decide +kernel
theorem dX9_doMove_98 : decode cX9_doMove 98 = .ok (.imul, 1) := by decide +kernel
theorem dX9_doMove_99 : decode cX9_doMove 99 = .ok (.bipush 9, 2) := by decide +kernel
theorem dX9_doMove_101 : decode cX9_doMove 101 = .ok (.iload 5, 2) := by decide +kernel
theorem dX9_doMove_103 : decode cX9_doMove 103 = .ok (.imul, 1) := by decide +kernel
theorem dX9_doMove_104 : decode cX9_doMove 104 = .ok (.iadd, 1) := by decide +kernel
theorem dX9_doMove_105 : decode cX9_doMove 105 = .ok (.iload 7, 2) := by decide +kernel
theorem dX9_doMove_107 : decode cX9_doMove 107 = .ok (.iadd, 1) := by decide +kernel
theorem dX9_doMove_108 : decode cX9_doMove 108 = .ok (.iaload, 1) := by decide +kernel
theorem dX9_doMove_109 : decode cX9_doMove 109 = .ok (.iload 4, 2) := by decide +kernel
theorem dX9_doMove_111 : decode cX9_doMove 111 = .ok (.imul, 1) := by decide +kernel
theorem dX9_doMove_112 : decode cX9_doMove 112 = .ok (.aload_n 0, 1) := by decide +kernel
theorem dX9_doMove_113 : decode cX9_doMove 113 = .ok (.getfield 7, 3) := by decide +kernel
theorem dX9_doMove_116 : decode cX9_doMove 116 = .ok (.irem, 1) := by decide +kernel
theorem dX9_doMove_117 : decode cX9_doMove 117 = .ok (.iastore, 1) := by decide +kernel
theorem dX9_doMove_118 : decode cX9_doMove 118 = .ok (.iinc 7 1, 3) := by decide +kernel
theorem dX9_doMove_121 : decode cX9_doMove 121 = .ok (.goto (-88), 3) := by decide +kernel
theorem dX9_doMove_124 : decode cX9_doMove 124 = .ok (.aload_n 0, 1) := by decide +kernel
theorem dX9_doMove_125 : decode cX9_doMove 125 = .ok (.iload_n 2, 1) := by decide +kernel
theorem dX9_doMove_126 : decode cX9_doMove 126 = .ok (.iload 5, 2) := by decide +kernel
theorem dX9_doMove_128 : decode cX9_doMove 128 = .ok (.iload_n 3, 1) := by decide +kernel
theorem dX9_doMove_129 : decode cX9_doMove 129 = .ok (.iload 5, 2) := by decide +kernel
theorem dX9_doMove_131 : decode cX9_doMove 131 = .ok (.iconst 1, 1) := by decide +kernel
theorem dX9_doMove_132 : decode cX9_doMove 132 = .ok (.invokevirtual 156, 3) := by decide +kernel
theorem dX9_doMove_135 : decode cX9_doMove 135 = .ok (.aload_n 0, 1) := by decide +kernel
theorem dX9_doMove_136 : decode cX9_doMove 136 = .ok (.iload_n 3, 1) := by decide +kernel
theorem dX9_doMove_137 : decode cX9_doMove 137 = .ok (.iload 6, 2) := by decide +kernel
theorem dX9_doMove_139 : decode cX9_doMove 139 = .ok (.iload_n 2, 1) := by decide +kernel
theorem dX9_doMove_140 : decode cX9_doMove 140 = .ok (.iload 6, 2) := by decide +kernel
theorem dX9_doMove_142 : decode cX9_doMove 142 = .ok (.aload_n 0, 1) := by decide +kernel
theorem dX9_doMove_143 : decode cX9_doMove 143 = .ok (.getfield 7, 3) := by decide +kernel
theorem dX9_doMove_146 : decode cX9_doMove 146 = .ok (.iconst 1, 1) := by decide +kernel
theorem dX9_doMove_147 : decode cX9_doMove 147 = .ok (.isub, 1) := by decide +kernel
theorem dX9_doMove_148 : decode cX9_doMove 148 = .ok (.invokevirtual 156, 3) := by decide +kernel
theorem dX9_doMove_151 : decode cX9_doMove 151 = .ok (.iconst 1, 1) := by decide +kernel
theorem dX9_doMove_152 : decode cX9_doMove 152 = .ok (.ireturn, 1) := by decide +kernel
theorem dX9_move_0 : decode cX9_move 0 = .ok (.iload_n 1, 1) := by decide +kernel
theorem dX9_move_1 : decode cX9_move 1 = .ok (.i2l, 1) := by decide +kernel
theorem dX9_move_2 : decode cX9_move 2 = .ok (.lconst 0, 1) := by decide +kernel
theorem dX9_move_3 : decode cX9_move 3 = .ok (.ldc2_w 130, 3) := by decide +kernel
theorem dX9_move_6 : decode cX9_move 6 = .ok (.invokestatic 97, 3) := by decide +kernel
theorem dX9_move_9 : decode cX9_move 9 = .ok (.ifCond .eq 24, 3) := by decide +kernel
theorem dX9_move_12 : decode cX9_move 12 = .ok (.aload_n 0, 1) := by decide +kernel
theorem dX9_move_13 : decode cX9_move 13 = .ok (.iload_n 2, 1) := by decide +kernel
theorem dX9_move_14 : decode cX9_move 14 = .ok (.invokevirtual 126, 3) := by decide +kernel
theorem dX9_move_17 : decode cX9_move 17 = .ok (.ifCond .eq 16, 3) := by decide +kernel
theorem dX9_move_20 : decode cX9_move 20 = .ok (.aload_n 0, 1) := by decide +kernel
theorem dX9_move_21 : decode cX9_move 21 = .ok (.iload_n 3, 1) := by decide +kernel
theorem dX9_move_22 : decode cX9_move 22 = .ok (.invokevirtual 126, 3) := by decide +kernel
theorem dX9_move_25 : decode cX9_move 25 = .ok (.ifCond .eq 8, 3) := by decide +kernel
theorem dX9_move_28 : decode cX9_move 28 = .ok (.iload_n 2, 1) := by decide +kernel
theorem dX9_move_29 : decode cX9_move 29 = .ok (.iload_n 3, 1) := by decide +kernel
theorem dX9_move_30 : decode cX9_move 30 = .ok (.if_icmp .ne 5, 3) := by decide +kernel
theorem dX9_move_33 : decode cX9_move 33 = .ok (.iconst (-1), 1) := by decide +kernel
theorem dX9_move_34 : decode cX9_move 34 = .ok (.ireturn, 1) := by decide +kernel
theorem dX9_move_35 : decode cX9_move 35 = .ok (.aload_n 0, 1) := by decide +kernel
theorem dX9_move_36 : decode cX9_move 36 = .ok (.iload_n 1, 1) := by decide +kernel
theorem dX9_move_37 : decode cX9_move 37 = .ok (.iload_n 2, 1) := by decide +kernel
theorem dX9_move_38 : decode cX9_move 38 = .ok (.iload_n 3, 1) := by decide +kernel
theorem dX9_move_39 : decode cX9_move 39 = .ok (.invokevirtual 170, 3) := by decide +kernel
theorem dX9_move_42 : decode cX9_move 42 = .ok (.ifCond .eq 7, 3) := by decide +kernel
theorem dX9_move_45 : decode cX9_move 45 = .ok (.iconst 1, 1) := by decide +kernel
theorem dX9_move_46 : decode cX9_move 46 = .ok (.goto 5, 3) := by decide +kernel
theorem dX9_move_49 : decode cX9_move 49 = .ok (.bipush (-4), 2) := by decide +kernel
theorem dX9_move_51 : decode cX9_move 51 = .ok (.ireturn, 1) := by decide +kernel
theorem dX9_moveOf_0 : decode cX9_moveOf 0 = .ok (.iload_n 1, 1) := by decide +kernel
theorem dX9_moveOf_1 : decode cX9_moveOf 1 = .ok (.istore_n 2, 1) := by decide +kernel
theorem dX9_moveOf_2 : decode cX9_moveOf 2 = .ok (.iconst 0, 1) := by decide +kernel
theorem dX9_moveOf_3 : decode cX9_moveOf 3 = .ok (.istore_n 3, 1) := by decide +kernel
theorem dX9_moveOf_4 : decode cX9_moveOf 4 = .ok (.iload_n 3, 1) := by decide +kernel
theorem dX9_moveOf_5 : decode cX9_moveOf 5 = .ok (.iconst 3, 1) := by decide +kernel
theorem dX9_moveOf_6 : decode cX9_moveOf 6 = .ok (.if_icmp .ge 83, 3) := by decide +kernel
theorem dX9_moveOf_9 : decode cX9_moveOf 9 = .ok (.iconst 0, 1) := by decide +kernel
theorem dX9_moveOf_10 : decode cX9_moveOf 10 = .ok (.istore 4, 2) := by decide +kernel
theorem dX9_moveOf_12 : decode cX9_moveOf 12 = .ok (.iload 4, 2) := by decide +kernel
theorem dX9_moveOf_14 : decode cX9_moveOf 14 = .ok (.aload_n 0, 1) := by decide +kernel
theorem dX9_moveOf_15 : decode cX9_moveOf 15 = .ok (.getfield 85, 3) := by decide +kernel
theorem dX9_moveOf_18 : decode cX9_moveOf 18 = .ok (.if_icmp .ge 65, 3) := by decide +kernel
theorem dX9_moveOf_21 : decode cX9_moveOf 21 = .ok (.iconst 0, 1) := by decide +kernel
theorem dX9_moveOf_22 : decode cX9_moveOf 22 = .ok (.istore 5, 2) := by decide +kernel
theorem dX9_moveOf_24 : decode cX9_moveOf 24 = .ok (.iload 5, 2) := by decide +kernel
theorem dX9_moveOf_26 : decode cX9_moveOf 26 = .ok (.aload_n 0, 1) := by decide +kernel
theorem dX9_moveOf_27 : decode cX9_moveOf 27 = .ok (.getfield 85, 3) := by decide +kernel
theorem dX9_moveOf_30 : decode cX9_moveOf 30 = .ok (.if_icmp .ge 47, 3) := by decide +kernel
theorem dX9_moveOf_33 : decode cX9_moveOf 33 = .ok (.iload 4, 2) := by decide +kernel
theorem dX9_moveOf_35 : decode cX9_moveOf 35 = .ok (.iload 5, 2) := by decide +kernel
theorem dX9_moveOf_37 : decode cX9_moveOf 37 = .ok (.if_icmp .eq 34, 3) := by decide +kernel
theorem dX9_moveOf_40 : decode cX9_moveOf 40 = .ok (.aload_n 0, 1) := by decide +kernel
theorem dX9_moveOf_41 : decode cX9_moveOf 41 = .ok (.iload 4, 2) := by decide +kernel
theorem dX9_moveOf_43 : decode cX9_moveOf 43 = .ok (.iload 5, 2) := by decide +kernel
theorem dX9_moveOf_45 : decode cX9_moveOf 45 = .ok (.iload_n 3, 1) := by decide +kernel
theorem dX9_moveOf_46 : decode cX9_moveOf 46 = .ok (.invokevirtual 153, 3) := by decide +kernel
theorem dX9_moveOf_49 : decode cX9_moveOf 49 = .ok (.ifCond .le 22, 3) := by decide +kernel
theorem dX9_moveOf_52 : decode cX9_moveOf 52 = .ok (.iload_n 2, 1) := by decide +kernel
theorem dX9_moveOf_53 : decode cX9_moveOf 53 = .ok (.ifCond .ne 15, 3) := by decide +kernel
theorem dX9_moveOf_56 : decode cX9_moveOf 56 = .ok (.aload_n 0, 1) := by decide +kernel
theorem dX9_moveOf_57 : decode cX9_moveOf 57 = .ok (.iload_n 3, 1) := by decide +kernel
theorem dX9_moveOf_58 : decode cX9_moveOf 58 = .ok (.iload 4, 2) := by decide +kernel
theorem dX9_moveOf_60 : decode cX9_moveOf 60 = .ok (.iload 5, 2) := by decide +kernel
theorem dX9_moveOf_62 : decode cX9_moveOf 62 = .ok (.invokevirtual 170, 3) := by decide +kernel
theorem dX9_moveOf_65 : decode cX9_moveOf 65 = .ok (.istore 6, 2) := by decide +kernel
theorem dX9_moveOf_67 : decode cX9_moveOf 67 = .ok (.return_, 1) := by decide +kernel
theorem dX9_moveOf_68 : decode cX9_moveOf 68 = .ok (.iinc 2 (-1), 3) := by decide +kernel
theorem dX9_moveOf_71 : decode cX9_moveOf 71 = .ok (.iinc 5 1, 3) := by decide +kernel
theorem dX9_moveOf_74 : decode cX9_moveOf 74 = .ok (.goto (-50), 3) := by decide +kernel
theorem dX9_moveOf_77 : decode cX9_moveOf 77 = .ok (.iinc 4 1, 3) := by decide +kernel
theorem dX9_moveOf_80 : decode cX9_moveOf 80 = .ok (.goto (-68), 3) := by decide +kernel
theorem dX9_moveOf_83 : decode cX9_moveOf 83 = .ok (.iinc 3 1, 3) := by decide +kernel
theorem dX9_moveOf_86 : decode cX9_moveOf 86 = .ok (.goto (-82), 3) := by decide +kernel
theorem dX9_moveOf_89 : decode cX9_moveOf 89 = .ok (.return_, 1) := by decide +kernel
theorem dX9_walk_0 : decode cX9_walk 0 = .ok (.iload_n 2, 1) := by decide +kernel
theorem dX9_walk_1 : decode cX9_walk 1 = .ok (.i2l, 1) := by decide +kernel
theorem dX9_walk_2 : decode cX9_walk 2 = .ok (.lconst 0, 1) := by decide +kernel
theorem dX9_walk_3 : decode cX9_walk 3 = .ok (.ldc2_w 173, 3) := by decide +kernel
theorem dX9_walk_6 : decode cX9_walk 6 = .ok (.invokestatic 97, 3) := by decide +kernel
theorem dX9_walk_9 : decode cX9_walk 9 = .ok (.ifCond .ne 5, 3) := by decide +kernel
theorem dX9_walk_12 : decode cX9_walk 12 = .ok (.iconst (-1), 1) := by decide +kernel
theorem dX9_walk_13 : decode cX9_walk 13 = .ok (.ireturn, 1) := by decide +kernel
theorem dX9_walk_14 : decode cX9_walk 14 = .ok (.iload_n 1, 1) := by decide +kernel
theorem dX9_walk_15 : decode cX9_walk 15 = .ok (.istore_n 3, 1) := by decide +kernel
theorem dX9_walk_16 : decode cX9_walk 16 = .ok (.iconst 0, 1) := by decide +kernel
theorem dX9_walk_17 : decode cX9_walk 17 = .ok (.istore 4, 2) := by decide +kernel
theorem dX9_walk_19 : decode cX9_walk 19 = .ok (.iload 4, 2) := by decide +kernel
theorem dX9_walk_21 : decode cX9_walk 21 = .ok (.iload_n 2, 1) := by decide +kernel
theorem dX9_walk_22 : decode cX9_walk 22 = .ok (.if_icmp .ge 51, 3) := by decide +kernel
theorem dX9_walk_25 : decode cX9_walk 25 = .ok (.aload_n 0, 1) := by decide +kernel
theorem dX9_walk_26 : decode cX9_walk 26 = .ok (.invokevirtual 112, 3) := by decide +kernel
theorem dX9_walk_29 : decode cX9_walk 29 = .ok (.istore 5, 2) := by decide +kernel
theorem dX9_walk_31 : decode cX9_walk 31 = .ok (.iload 5, 2) := by decide +kernel
theorem dX9_walk_33 : decode cX9_walk 33 = .ok (.ifCond .ne 8, 3) := by decide +kernel
theorem dX9_walk_36 : decode cX9_walk 36 = .ok (.aload_n 0, 1) := by decide +kernel
theorem dX9_walk_37 : decode cX9_walk 37 = .ok (.getfield 85, 3) := by decide +kernel
theorem dX9_walk_40 : decode cX9_walk 40 = .ok (.ireturn, 1) := by decide +kernel
theorem dX9_walk_41 : decode cX9_walk 41 = .ok (.ldc 175, 2) := by decide +kernel
theorem dX9_walk_43 : decode cX9_walk 43 = .ok (.iload_n 3, 1) := by decide +kernel
theorem dX9_walk_44 : decode cX9_walk 44 = .ok (.imul, 1) := by decide +kernel
theorem dX9_walk_45 : decode cX9_walk 45 = .ok (.sipush 12345, 3) := by decide +kernel
theorem dX9_walk_48 : decode cX9_walk 48 = .ok (.iadd, 1) := by decide +kernel
theorem dX9_walk_49 : decode cX9_walk 49 = .ok (.istore_n 3, 1) := by decide +kernel
theorem dX9_walk_50 : decode cX9_walk 50 = .ok (.aload_n 0, 1) := by decide +kernel
theorem dX9_walk_51 : decode cX9_walk 51 = .ok (.iload_n 3, 1) := by decide +kernel
theorem dX9_walk_52 : decode cX9_walk 52 = .ok (.bipush 16, 2) := by decide +kernel
theorem dX9_walk_54 : decode cX9_walk 54 = .ok (.iushr, 1) := by decide +kernel
theorem dX9_walk_55 : decode cX9_walk 55 = .ok (.iload 5, 2) := by decide +kernel
theorem dX9_walk_57 : decode cX9_walk 57 = .ok (.irem, 1) := by decide +kernel
theorem dX9_walk_58 : decode cX9_walk 58 = .ok (.invokevirtual 176, 3) := by decide +kernel
theorem dX9_walk_61 : decode cX9_walk 61 = .ok (.aload_n 0, 1) := by decide +kernel
theorem dX9_walk_62 : decode cX9_walk 62 = .ok (.invokevirtual 179, 3) := by decide +kernel
theorem dX9_walk_65 : decode cX9_walk 65 = .ok (.istore 6, 2) := by decide +kernel
theorem dX9_walk_67 : decode cX9_walk 67 = .ok (.iinc 4 1, 3) := by decide +kernel
theorem dX9_walk_70 : decode cX9_walk 70 = .ok (.goto (-51), 3) := by decide +kernel
theorem dX9_walk_73 : decode cX9_walk 73 = .ok (.aload_n 0, 1) := by decide +kernel
theorem dX9_walk_74 : decode cX9_walk 74 = .ok (.getfield 85, 3) := by decide +kernel
theorem dX9_walk_77 : decode cX9_walk 77 = .ok (.ireturn, 1) := by decide +kernel
theorem dX9_around_0 : decode cX9_around 0 = .ok (.iconst 0, 1) := by decide +kernel
theorem dX9_around_1 : decode cX9_around 1 = .ok (.istore_n 1, 1) := by decide +kernel
theorem dX9_around_2 : decode cX9_around 2 = .ok (.iload_n 1, 1) := by decide +kernel
theorem dX9_around_3 : decode cX9_around 3 = .ok (.bipush 9, 2) := by decide +kernel
theorem dX9_around_5 : decode cX9_around 5 = .ok (.if_icmp .ge 69, 3) := by decide +kernel
theorem dX9_around_8 : decode cX9_around 8 = .ok (.iconst 0, 1) := by decide +kernel
theorem dX9_around_9 : decode cX9_around 9 = .ok (.istore_n 2, 1) := by decide +kernel
theorem dX9_around_10 : decode cX9_around 10 = .ok (.iload_n 2, 1) := by decide +kernel
theorem dX9_around_11 : decode cX9_around 11 = .ok (.bipush 9, 2) := by decide +kernel
theorem dX9_around_13 : decode cX9_around 13 = .ok (.if_icmp .ge 55, 3) := by decide +kernel
theorem dX9_around_16 : decode cX9_around 16 = .ok (.iconst 0, 1) := by decide +kernel
theorem dX9_around_17 : decode cX9_around 17 = .ok (.istore_n 3, 1) := by decide +kernel
theorem dX9_around_18 : decode cX9_around 18 = .ok (.iload_n 3, 1) := by decide +kernel
theorem dX9_around_19 : decode cX9_around 19 = .ok (.bipush 9, 2) := by decide +kernel
theorem dX9_around_21 : decode cX9_around 21 = .ok (.if_icmp .ge 41, 3) := by decide +kernel
theorem dX9_around_24 : decode cX9_around 24 = .ok (.aload_n 0, 1) := by decide +kernel
theorem dX9_around_25 : decode cX9_around 25 = .ok (.getfield 45, 3) := by decide +kernel
theorem dX9_around_28 : decode cX9_around 28 = .ok (.bipush 81, 2) := by decide +kernel
theorem dX9_around_30 : decode cX9_around 30 = .ok (.iload_n 2, 1) := by decide +kernel
theorem dX9_around_31 : decode cX9_around 31 = .ok (.imul, 1) := by decide +kernel
theorem dX9_around_32 : decode cX9_around 32 = .ok (.bipush 9, 2) := by decide +kernel
theorem dX9_around_34 : decode cX9_around 34 = .ok (.iload_n 3, 1) := by decide +kernel
theorem dX9_around_35 : decode cX9_around 35 = .ok (.imul, 1) := by decide +kernel
theorem dX9_around_36 : decode cX9_around 36 = .ok (.iadd, 1) := by decide +kernel
theorem dX9_around_37 : decode cX9_around 37 = .ok (.iload_n 1, 1) := by decide +kernel
theorem dX9_around_38 : decode cX9_around 38 = .ok (.iadd, 1) := by decide +kernel
theorem dX9_around_39 : decode cX9_around 39 = .ok (.aload_n 0, 1) := by decide +kernel
theorem dX9_around_40 : decode cX9_around 40 = .ok (.getfield 17, 3) := by decide +kernel
theorem dX9_around_43 : decode cX9_around 43 = .ok (.bipush 81, 2) := by decide +kernel
theorem dX9_around_45 : decode cX9_around 45 = .ok (.iload_n 1, 1) := by decide +kernel
theorem dX9_around_46 : decode cX9_around 46 = .ok (.imul, 1) := by decide +kernel
theorem dX9_around_47 : decode cX9_around 47 = .ok (.bipush 9, 2) := by decide +kernel
theorem dX9_around_49 : decode cX9_around 49 = .ok (.iload_n 2, 1) := by decide +kernel
theorem dX9_around_50 : decode cX9_around 50 = .ok (.imul, 1) := by decide +kernel
theorem dX9_around_51 : decode cX9_around 51 = .ok (.iadd, 1) := by decide +kernel
theorem dX9_around_52 : decode cX9_around 52 = .ok (.iload_n 3, 1) := by decide +kernel
theorem dX9_around_53 : decode cX9_around 53 = .ok (.iadd, 1) := by decide +kernel
theorem dX9_around_54 : decode cX9_around 54 = .ok (.iaload, 1) := by decide +kernel
theorem dX9_around_55 : decode cX9_around 55 = .ok (.iastore, 1) := by decide +kernel
theorem dX9_around_56 : decode cX9_around 56 = .ok (.iinc 3 1, 3) := by decide +kernel
theorem dX9_around_59 : decode cX9_around 59 = .ok (.goto (-41), 3) := by decide +kernel
theorem dX9_around_62 : decode cX9_around 62 = .ok (.iinc 2 1, 3) := by decide +kernel
theorem dX9_around_65 : decode cX9_around 65 = .ok (.goto (-55), 3) := by decide +kernel
theorem dX9_around_68 : decode cX9_around 68 = .ok (.iinc 1 1, 3) := by decide +kernel
theorem dX9_around_71 : decode cX9_around 71 = .ok (.goto (-69), 3) := by decide +kernel
theorem dX9_around_74 : decode cX9_around 74 = .ok (.iconst 0, 1) := by decide +kernel
theorem dX9_around_75 : decode cX9_around 75 = .ok (.istore_n 1, 1) := by decide +kernel
theorem dX9_around_76 : decode cX9_around 76 = .ok (.iload_n 1, 1) := by decide +kernel
theorem dX9_around_77 : decode cX9_around 77 = .ok (.sipush 729, 3) := by decide +kernel
theorem dX9_around_80 : decode cX9_around 80 = .ok (.if_icmp .ge 21, 3) := by decide +kernel
theorem dX9_around_83 : decode cX9_around 83 = .ok (.aload_n 0, 1) := by decide +kernel
theorem dX9_around_84 : decode cX9_around 84 = .ok (.getfield 17, 3) := by decide +kernel
theorem dX9_around_87 : decode cX9_around 87 = .ok (.iload_n 1, 1) := by decide +kernel
theorem dX9_around_88 : decode cX9_around 88 = .ok (.aload_n 0, 1) := by decide +kernel
theorem dX9_around_89 : decode cX9_around 89 = .ok (.getfield 45, 3) := by decide +kernel
theorem dX9_around_92 : decode cX9_around 92 = .ok (.iload_n 1, 1) := by decide +kernel
theorem dX9_around_93 : decode cX9_around 93 = .ok (.iaload, 1) := by decide +kernel
theorem dX9_around_94 : decode cX9_around 94 = .ok (.iastore, 1) := by decide +kernel
theorem dX9_around_95 : decode cX9_around 95 = .ok (.iinc 1 1, 3) := by decide +kernel
theorem dX9_around_98 : decode cX9_around 98 = .ok (.goto (-22), 3) := by decide +kernel
theorem dX9_around_101 : decode cX9_around 101 = .ok (.iconst 0, 1) := by decide +kernel
theorem dX9_around_102 : decode cX9_around 102 = .ok (.istore_n 1, 1) := by decide +kernel
theorem dX9_around_103 : decode cX9_around 103 = .ok (.iload_n 1, 1) := by decide +kernel
theorem dX9_around_104 : decode cX9_around 104 = .ok (.aload_n 0, 1) := by decide +kernel
theorem dX9_around_105 : decode cX9_around 105 = .ok (.getfield 85, 3) := by decide +kernel
theorem dX9_around_108 : decode cX9_around 108 = .ok (.if_icmp .ge 103, 3) := by decide +kernel
theorem dX9_around_111 : decode cX9_around 111 = .ok (.iconst 0, 1) := by decide +kernel
theorem dX9_around_112 : decode cX9_around 112 = .ok (.istore_n 2, 1) := by decide +kernel
theorem dX9_around_113 : decode cX9_around 113 = .ok (.iload_n 2, 1) := by decide +kernel
theorem dX9_around_114 : decode cX9_around 114 = .ok (.bipush 9, 2) := by decide +kernel
theorem dX9_around_116 : decode cX9_around 116 = .ok (.if_icmp .ge 89, 3) := by decide +kernel
theorem dX9_around_119 : decode cX9_around 119 = .ok (.aload_n 0, 1) := by decide +kernel
theorem dX9_around_120 : decode cX9_around 120 = .ok (.getfield 20, 3) := by decide +kernel
theorem dX9_around_123 : decode cX9_around 123 = .ok (.bipush 27, 2) := by decide +kernel
theorem dX9_around_125 : decode cX9_around 125 = .ok (.iload_n 1, 1) := by decide +kernel
theorem dX9_around_126 : decode cX9_around 126 = .ok (.imul, 1) := by decide +kernel
theorem dX9_around_127 : decode cX9_around 127 = .ok (.iload_n 2, 1) := by decide +kernel
theorem dX9_around_128 : decode cX9_around 128 = .ok (.iadd, 1) := by decide +kernel
theorem dX9_around_129 : decode cX9_around 129 = .ok (.iaload, 1) := by decide +kernel
theorem dX9_around_130 : decode cX9_around 130 = .ok (.istore_n 3, 1) := by decide +kernel
theorem dX9_around_131 : decode cX9_around 131 = .ok (.aload_n 0, 1) := by decide +kernel
theorem dX9_around_132 : decode cX9_around 132 = .ok (.getfield 20, 3) := by decide +kernel
theorem dX9_around_135 : decode cX9_around 135 = .ok (.bipush 27, 2) := by decide +kernel
theorem dX9_around_137 : decode cX9_around 137 = .ok (.iload_n 1, 1) := by decide +kernel
theorem dX9_around_138 : decode cX9_around 138 = .ok (.imul, 1) := by decide +kernel
theorem dX9_around_139 : decode cX9_around 139 = .ok (.iload_n 2, 1) := by decide +kernel
theorem dX9_around_140 : decode cX9_around 140 = .ok (.iadd, 1) := by decide +kernel
theorem dX9_around_141 : decode cX9_around 141 = .ok (.aload_n 0, 1) := by decide +kernel
theorem dX9_around_142 : decode cX9_around 142 = .ok (.getfield 20, 3) := by decide +kernel
theorem dX9_around_145 : decode cX9_around 145 = .ok (.bipush 27, 2) := by decide +kernel
theorem dX9_around_147 : decode cX9_around 147 = .ok (.iload_n 1, 1) := by decide +kernel
theorem dX9_around_148 : decode cX9_around 148 = .ok (.imul, 1) := by decide +kernel
theorem dX9_around_149 : decode cX9_around 149 = .ok (.bipush 9, 2) := by decide +kernel
theorem dX9_around_151 : decode cX9_around 151 = .ok (.iadd, 1) := by decide +kernel
theorem dX9_around_152 : decode cX9_around 152 = .ok (.iload_n 2, 1) := by decide +kernel
theorem dX9_around_153 : decode cX9_around 153 = .ok (.iadd, 1) := by decide +kernel
theorem dX9_around_154 : decode cX9_around 154 = .ok (.iaload, 1) := by decide +kernel
theorem dX9_around_155 : decode cX9_around 155 = .ok (.iastore, 1) := by decide +kernel
theorem dX9_around_156 : decode cX9_around 156 = .ok (.aload_n 0, 1) := by decide +kernel
theorem dX9_around_157 : decode cX9_around 157 = .ok (.getfield 20, 3) := by decide +kernel
theorem dX9_around_160 : decode cX9_around 160 = .ok (.bipush 27, 2) := by decide +kernel
theorem dX9_around_162 : decode cX9_around 162 = .ok (.iload_n 1, 1) := by decide +kernel
theorem dX9_around_163 : decode cX9_around 163 = .ok (.imul, 1) := by decide +kernel
theorem dX9_around_164 : decode cX9_around 164 = .ok (.bipush 9, 2) := by decide +kernel
theorem dX9_around_166 : decode cX9_around 166 = .ok (.iadd, 1) := by decide +kernel
theorem dX9_around_167 : decode cX9_around 167 = .ok (.iload_n 2, 1) := by decide +kernel
theorem dX9_around_168 : decode cX9_around 168 = .ok (.iadd, 1) := by decide +kernel
theorem dX9_around_169 : decode cX9_around 169 = .ok (.aload_n 0, 1) := by decide +kernel
theorem dX9_around_170 : decode cX9_around 170 = .ok (.getfield 20, 3) := by decide +kernel
theorem dX9_around_173 : decode cX9_around 173 = .ok (.bipush 27, 2) := by decide +kernel
theorem dX9_around_175 : decode cX9_around 175 = .ok (.iload_n 1, 1) := by decide +kernel
theorem dX9_around_176 : decode cX9_around 176 = .ok (.imul, 1) := by decide +kernel
theorem dX9_around_177 : decode cX9_around 177 = .ok (.bipush 18, 2) := by decide +kernel
theorem dX9_around_179 : decode cX9_around 179 = .ok (.iadd, 1) := by decide +kernel
theorem dX9_around_180 : decode cX9_around 180 = .ok (.iload_n 2, 1) := by decide +kernel
theorem dX9_around_181 : decode cX9_around 181 = .ok (.iadd, 1) := by decide +kernel
theorem dX9_around_182 : decode cX9_around 182 = .ok (.iaload, 1) := by decide +kernel
theorem dX9_around_183 : decode cX9_around 183 = .ok (.iastore, 1) := by decide +kernel
theorem dX9_around_184 : decode cX9_around 184 = .ok (.aload_n 0, 1) := by decide +kernel
theorem dX9_around_185 : decode cX9_around 185 = .ok (.getfield 20, 3) := by decide +kernel
theorem dX9_around_188 : decode cX9_around 188 = .ok (.bipush 27, 2) := by decide +kernel
theorem dX9_around_190 : decode cX9_around 190 = .ok (.iload_n 1, 1) := by decide +kernel
theorem dX9_around_191 : decode cX9_around 191 = .ok (.imul, 1) := by decide +kernel
theorem dX9_around_192 : decode cX9_around 192 = .ok (.bipush 18, 2) := by decide +kernel
theorem dX9_around_194 : decode cX9_around 194 = .ok (.iadd, 1) := by decide +kernel
theorem dX9_around_195 : decode cX9_around 195 = .ok (.iload_n 2, 1) := by decide +kernel
theorem dX9_around_196 : decode cX9_around 196 = .ok (.iadd, 1) := by decide +kernel
theorem dX9_around_197 : decode cX9_around 197 = .ok (.iload_n 3, 1) := by decide +kernel
theorem dX9_around_198 : decode cX9_around 198 = .ok (.iastore, 1) := by decide +kernel
theorem dX9_around_199 : decode cX9_around 199 = .ok (.iinc 2 1, 3) := by decide +kernel
theorem dX9_around_202 : decode cX9_around 202 = .ok (.goto (-89), 3) := by decide +kernel
theorem dX9_around_205 : decode cX9_around 205 = .ok (.iinc 1 1, 3) := by decide +kernel
theorem dX9_around_208 : decode cX9_around 208 = .ok (.goto (-105), 3) := by decide +kernel
theorem dX9_around_211 : decode cX9_around 211 = .ok (.aload_n 0, 1) := by decide +kernel
theorem dX9_around_212 : decode cX9_around 212 = .ok (.getfield 13, 3) := by decide +kernel
theorem dX9_around_215 : decode cX9_around 215 = .ok (.iconst 0, 1) := by decide +kernel
theorem dX9_around_216 : decode cX9_around 216 = .ok (.iaload, 1) := by decide +kernel
theorem dX9_around_217 : decode cX9_around 217 = .ok (.istore_n 1, 1) := by decide +kernel
theorem dX9_around_218 : decode cX9_around 218 = .ok (.aload_n 0, 1) := by decide +kernel
theorem dX9_around_219 : decode cX9_around 219 = .ok (.getfield 13, 3) := by decide +kernel
theorem dX9_around_222 : decode cX9_around 222 = .ok (.iconst 0, 1) := by decide +kernel
theorem dX9_around_223 : decode cX9_around 223 = .ok (.aload_n 0, 1) := by decide +kernel
theorem dX9_around_224 : decode cX9_around 224 = .ok (.getfield 13, 3) := by decide +kernel
theorem dX9_around_227 : decode cX9_around 227 = .ok (.iconst 1, 1) := by decide +kernel
theorem dX9_around_228 : decode cX9_around 228 = .ok (.iaload, 1) := by decide +kernel
theorem dX9_around_229 : decode cX9_around 229 = .ok (.iastore, 1) := by decide +kernel
theorem dX9_around_230 : decode cX9_around 230 = .ok (.aload_n 0, 1) := by decide +kernel
theorem dX9_around_231 : decode cX9_around 231 = .ok (.getfield 13, 3) := by decide +kernel
theorem dX9_around_234 : decode cX9_around 234 = .ok (.iconst 1, 1) := by decide +kernel
theorem dX9_around_235 : decode cX9_around 235 = .ok (.aload_n 0, 1) := by decide +kernel
theorem dX9_around_236 : decode cX9_around 236 = .ok (.getfield 13, 3) := by decide +kernel
theorem dX9_around_239 : decode cX9_around 239 = .ok (.iconst 2, 1) := by decide +kernel
theorem dX9_around_240 : decode cX9_around 240 = .ok (.iaload, 1) := by decide +kernel
theorem dX9_around_241 : decode cX9_around 241 = .ok (.iastore, 1) := by decide +kernel
theorem dX9_around_242 : decode cX9_around 242 = .ok (.aload_n 0, 1) := by decide +kernel
theorem dX9_around_243 : decode cX9_around 243 = .ok (.getfield 13, 3) := by decide +kernel
theorem dX9_around_246 : decode cX9_around 246 = .ok (.iconst 2, 1) := by decide +kernel
theorem dX9_around_247 : decode cX9_around 247 = .ok (.iload_n 1, 1) := by decide +kernel
theorem dX9_around_248 : decode cX9_around 248 = .ok (.iastore, 1) := by decide +kernel
theorem dX9_around_249 : decode cX9_around 249 = .ok (.aload_n 0, 1) := by decide +kernel
theorem dX9_around_250 : decode cX9_around 250 = .ok (.invokevirtual 88, 3) := by decide +kernel
theorem dX9_around_253 : decode cX9_around 253 = .ok (.aload_n 0, 1) := by decide +kernel
theorem dX9_around_254 : decode cX9_around 254 = .ok (.iconst 0, 1) := by decide +kernel
theorem dX9_around_255 : decode cX9_around 255 = .ok (.putfield 91, 3) := by decide +kernel
theorem dX9_around_258 : decode cX9_around 258 = .ok (.iconst 1, 1) := by decide +kernel
theorem dX9_around_259 : decode cX9_around 259 = .ok (.ireturn, 1) := by decide +kernel
theorem dX9_turn_0 : decode cX9_turn 0 = .ok (.iload_n 1, 1) := by decide +kernel
theorem dX9_turn_1 : decode cX9_turn 1 = .ok (.i2l, 1) := by decide +kernel
theorem dX9_turn_2 : decode cX9_turn 2 = .ok (.lconst 0, 1) := by decide +kernel
theorem dX9_turn_3 : decode cX9_turn 3 = .ok (.ldc2_w 130, 3) := by decide +kernel
theorem dX9_turn_6 : decode cX9_turn 6 = .ok (.invokestatic 97, 3) := by decide +kernel
theorem dX9_turn_9 : decode cX9_turn 9 = .ok (.ifCond .eq 61, 3) := by decide +kernel
theorem dX9_turn_12 : decode cX9_turn 12 = .ok (.iload_n 2, 1) := by decide +kernel
theorem dX9_turn_13 : decode cX9_turn 13 = .ok (.i2l, 1) := by decide +kernel
theorem dX9_turn_14 : decode cX9_turn 14 = .ok (.lconst 0, 1) := by decide +kernel
theorem dX9_turn_15 : decode cX9_turn 15 = .ok (.aload_n 0, 1) := by decide +kernel
theorem dX9_turn_16 : decode cX9_turn 16 = .ok (.getfield 13, 3) := by decide +kernel
theorem dX9_turn_19 : decode cX9_turn 19 = .ok (.iload_n 1, 1) := by decide +kernel
theorem dX9_turn_20 : decode cX9_turn 20 = .ok (.iaload, 1) := by decide +kernel
theorem dX9_turn_21 : decode cX9_turn 21 = .ok (.iconst 1, 1) := by decide +kernel
theorem dX9_turn_22 : decode cX9_turn 22 = .ok (.isub, 1) := by decide +kernel
theorem dX9_turn_23 : decode cX9_turn 23 = .ok (.i2l, 1) := by decide +kernel
theorem dX9_turn_24 : decode cX9_turn 24 = .ok (.invokestatic 97, 3) := by decide +kernel
theorem dX9_turn_27 : decode cX9_turn 27 = .ok (.ifCond .eq 43, 3) := by decide +kernel
theorem dX9_turn_30 : decode cX9_turn 30 = .ok (.iload_n 3, 1) := by decide +kernel
theorem dX9_turn_31 : decode cX9_turn 31 = .ok (.i2l, 1) := by decide +kernel
theorem dX9_turn_32 : decode cX9_turn 32 = .ok (.lconst 0, 1) := by decide +kernel
theorem dX9_turn_33 : decode cX9_turn 33 = .ok (.aload_n 0, 1) := by decide +kernel
theorem dX9_turn_34 : decode cX9_turn 34 = .ok (.getfield 13, 3) := by decide +kernel
theorem dX9_turn_37 : decode cX9_turn 37 = .ok (.iload_n 1, 1) := by decide +kernel
theorem dX9_turn_38 : decode cX9_turn 38 = .ok (.iaload, 1) := by decide +kernel
theorem dX9_turn_39 : decode cX9_turn 39 = .ok (.iconst 1, 1) := by decide +kernel
theorem dX9_turn_40 : decode cX9_turn 40 = .ok (.isub, 1) := by decide +kernel
theorem dX9_turn_41 : decode cX9_turn 41 = .ok (.i2l, 1) := by decide +kernel
theorem dX9_turn_42 : decode cX9_turn 42 = .ok (.invokestatic 97, 3) := by decide +kernel
theorem dX9_turn_45 : decode cX9_turn 45 = .ok (.ifCond .eq 25, 3) := by decide +kernel
theorem dX9_turn_48 : decode cX9_turn 48 = .ok (.iload_n 2, 1) := by decide +kernel
theorem dX9_turn_49 : decode cX9_turn 49 = .ok (.iload_n 3, 1) := by decide +kernel
theorem dX9_turn_50 : decode cX9_turn 50 = .ok (.if_icmp .eq 20, 3) := by decide +kernel
theorem dX9_turn_53 : decode cX9_turn 53 = .ok (.iload 4, 2) := by decide +kernel
theorem dX9_turn_55 : decode cX9_turn 55 = .ok (.i2l, 1) := by decide +kernel
theorem dX9_turn_56 : decode cX9_turn 56 = .ok (.lconst 0, 1) := by decide +kernel
theorem dX9_turn_57 : decode cX9_turn 57 = .ok (.aload_n 0, 1) := by decide +kernel
theorem dX9_turn_58 : decode cX9_turn 58 = .ok (.getfield 7, 3) := by decide +kernel
theorem dX9_turn_61 : decode cX9_turn 61 = .ok (.iconst 1, 1) := by decide +kernel
theorem dX9_turn_62 : decode cX9_turn 62 = .ok (.isub, 1) := by decide +kernel
theorem dX9_turn_63 : decode cX9_turn 63 = .ok (.i2l, 1) := by decide +kernel
theorem dX9_turn_64 : decode cX9_turn 64 = .ok (.invokestatic 97, 3) := by decide +kernel
theorem dX9_turn_67 : decode cX9_turn 67 = .ok (.ifCond .ne 5, 3) := by decide +kernel
theorem dX9_turn_70 : decode cX9_turn 70 = .ok (.iconst (-1), 1) := by decide +kernel
theorem dX9_turn_71 : decode cX9_turn 71 = .ok (.ireturn, 1) := by decide +kernel
theorem dX9_turn_72 : decode cX9_turn 72 = .ok (.iload_n 1, 1) := by decide +kernel
theorem dX9_turn_73 : decode cX9_turn 73 = .ok (.ifCond .ne 8, 3) := by decide +kernel
theorem dX9_turn_76 : decode cX9_turn 76 = .ok (.bipush 81, 2) := by decide +kernel
theorem dX9_turn_78 : decode cX9_turn 78 = .ok (.goto 14, 3) := by decide +kernel
theorem dX9_turn_81 : decode cX9_turn 81 = .ok (.iload_n 1, 1) := by decide +kernel
theorem dX9_turn_82 : decode cX9_turn 82 = .ok (.iconst 1, 1) := by decide +kernel
theorem dX9_turn_83 : decode cX9_turn 83 = .ok (.if_icmp .ne 8, 3) := by decide +kernel
theorem dX9_turn_86 : decode cX9_turn 86 = .ok (.bipush 9, 2) := by decide +kernel
theorem dX9_turn_88 : decode cX9_turn 88 = .ok (.goto 4, 3) := by decide +kernel
theorem dX9_turn_91 : decode cX9_turn 91 = .ok (.iconst 1, 1) := by decide +kernel
theorem dX9_turn_92 : decode cX9_turn 92 = .ok (.istore 5, 2) := by decide +kernel
theorem dX9_turn_94 : decode cX9_turn 94 = .ok (.iconst 0, 1) := by decide +kernel
theorem dX9_turn_95 : decode cX9_turn 95 = .ok (.istore 6, 2) := by decide +kernel
theorem dX9_turn_97 : decode cX9_turn 97 = .ok (.iload 6, 2) := by decide +kernel
theorem dX9_turn_99 : decode cX9_turn 99 = .ok (.sipush 729, 3) := by decide +kernel
theorem dX9_turn_102 : decode cX9_turn 102 = .ok (.if_icmp .ge 58, 3) := by decide +kernel
theorem dX9_turn_105 : decode cX9_turn 105 = .ok (.iload 6, 2) := by decide +kernel
theorem dX9_turn_107 : decode cX9_turn 107 = .ok (.iload 5, 2) := by decide +kernel
theorem dX9_turn_109 : decode cX9_turn 109 = .ok (.idiv, 1) := by decide +kernel
theorem dX9_turn_110 : decode cX9_turn 110 = .ok (.bipush 9, 2) := by decide +kernel
theorem dX9_turn_112 : decode cX9_turn 112 = .ok (.irem, 1) := by decide +kernel
theorem dX9_turn_113 : decode cX9_turn 113 = .ok (.iload_n 2, 1) := by decide +kernel
theorem dX9_turn_114 : decode cX9_turn 114 = .ok (.if_icmp .ne 40, 3) := by decide +kernel
theorem dX9_turn_117 : decode cX9_turn 117 = .ok (.aload_n 0, 1) := by decide +kernel
theorem dX9_turn_118 : decode cX9_turn 118 = .ok (.getfield 17, 3) := by decide +kernel
theorem dX9_turn_121 : decode cX9_turn 121 = .ok (.iload 6, 2) := by decide +kernel
theorem dX9_turn_123 : decode cX9_turn 123 = .ok (.aload_n 0, 1) := by decide +kernel
theorem dX9_turn_124 : decode cX9_turn 124 = .ok (.getfield 17, 3) := by decide +kernel
theorem dX9_turn_127 : decode cX9_turn 127 = .ok (.iload 6, 2) := by decide +kernel
theorem dX9_turn_129 : decode cX9_turn 129 = .ok (.iaload, 1) := by decide +kernel
theorem dX9_turn_130 : decode cX9_turn 130 = .ok (.iload 4, 2) := by decide +kernel
theorem dX9_turn_132 : decode cX9_turn 132 = .ok (.aload_n 0, 1) := by decide +kernel
theorem dX9_turn_133 : decode cX9_turn 133 = .ok (.getfield 17, 3) := by decide +kernel
theorem dX9_turn_136 : decode cX9_turn 136 = .ok (.iload 6, 2) := by decide +kernel
theorem dX9_turn_138 : decode cX9_turn 138 = .ok (.iload_n 3, 1) := by decide +kernel
theorem dX9_turn_139 : decode cX9_turn 139 = .ok (.iload_n 2, 1) := by decide +kernel
theorem dX9_turn_140 : decode cX9_turn 140 = .ok (.isub, 1) := by decide +kernel
theorem dX9_turn_141 : decode cX9_turn 141 = .ok (.iload 5, 2) := by decide +kernel
theorem dX9_turn_143 : decode cX9_turn 143 = .ok (.imul, 1) := by decide +kernel
theorem dX9_turn_144 : decode cX9_turn 144 = .ok (.iadd, 1) := by decide +kernel
theorem dX9_turn_145 : decode cX9_turn 145 = .ok (.iaload, 1) := by decide +kernel
theorem dX9_turn_146 : decode cX9_turn 146 = .ok (.imul, 1) := by decide +kernel
theorem dX9_turn_147 : decode cX9_turn 147 = .ok (.iadd, 1) := by decide +kernel
theorem dX9_turn_148 : decode cX9_turn 148 = .ok (.aload_n 0, 1) := by decide +kernel
theorem dX9_turn_149 : decode cX9_turn 149 = .ok (.getfield 7, 3) := by decide +kernel
theorem dX9_turn_152 : decode cX9_turn 152 = .ok (.irem, 1) := by decide +kernel
theorem dX9_turn_153 : decode cX9_turn 153 = .ok (.iastore, 1) := by decide +kernel
theorem dX9_turn_154 : decode cX9_turn 154 = .ok (.iinc 6 1, 3) := by decide +kernel
theorem dX9_turn_157 : decode cX9_turn 157 = .ok (.goto (-60), 3) := by decide +kernel
theorem dX9_turn_160 : decode cX9_turn 160 = .ok (.iconst 0, 1) := by decide +kernel
theorem dX9_turn_161 : decode cX9_turn 161 = .ok (.istore 6, 2) := by decide +kernel
theorem dX9_turn_163 : decode cX9_turn 163 = .ok (.iload 6, 2) := by decide +kernel
theorem dX9_turn_165 : decode cX9_turn 165 = .ok (.aload_n 0, 1) := by decide +kernel
theorem dX9_turn_166 : decode cX9_turn 166 = .ok (.getfield 85, 3) := by decide +kernel
theorem dX9_turn_169 : decode cX9_turn 169 = .ok (.if_icmp .ge 57, 3) := by decide +kernel
theorem dX9_turn_172 : decode cX9_turn 172 = .ok (.bipush 27, 2) := by decide +kernel
theorem dX9_turn_174 : decode cX9_turn 174 = .ok (.iload 6, 2) := by decide +kernel
theorem dX9_turn_176 : decode cX9_turn 176 = .ok (.imul, 1) := by decide +kernel
theorem dX9_turn_177 : decode cX9_turn 177 = .ok (.bipush 9, 2) := by decide +kernel
theorem dX9_turn_179 : decode cX9_turn 179 = .ok (.iload_n 1, 1) := by decide +kernel
theorem dX9_turn_180 : decode cX9_turn 180 = .ok (.imul, 1) := by decide +kernel
theorem dX9_turn_181 : decode cX9_turn 181 = .ok (.iadd, 1) := by decide +kernel
theorem dX9_turn_182 : decode cX9_turn 182 = .ok (.istore 7, 2) := by decide +kernel
theorem dX9_turn_184 : decode cX9_turn 184 = .ok (.aload_n 0, 1) := by decide +kernel
theorem dX9_turn_185 : decode cX9_turn 185 = .ok (.getfield 20, 3) := by decide +kernel
theorem dX9_turn_188 : decode cX9_turn 188 = .ok (.iload 7, 2) := by decide +kernel
theorem dX9_turn_190 : decode cX9_turn 190 = .ok (.iload_n 2, 1) := by decide +kernel
theorem dX9_turn_191 : decode cX9_turn 191 = .ok (.iadd, 1) := by decide +kernel
theorem dX9_turn_192 : decode cX9_turn 192 = .ok (.aload_n 0, 1) := by decide +kernel
theorem dX9_turn_193 : decode cX9_turn 193 = .ok (.getfield 20, 3) := by decide +kernel
theorem dX9_turn_196 : decode cX9_turn 196 = .ok (.iload 7, 2) := by decide +kernel
theorem dX9_turn_198 : decode cX9_turn 198 = .ok (.iload_n 2, 1) := by decide +kernel
theorem dX9_turn_199 : decode cX9_turn 199 = .ok (.iadd, 1) := by decide +kernel
theorem dX9_turn_200 : decode cX9_turn 200 = .ok (.iaload, 1) := by decide +kernel
theorem dX9_turn_201 : decode cX9_turn 201 = .ok (.iload 4, 2) := by decide +kernel
theorem dX9_turn_203 : decode cX9_turn 203 = .ok (.aload_n 0, 1) := by decide +kernel
theorem dX9_turn_204 : decode cX9_turn 204 = .ok (.getfield 20, 3) := by decide +kernel
theorem dX9_turn_207 : decode cX9_turn 207 = .ok (.iload 7, 2) := by decide +kernel
theorem dX9_turn_209 : decode cX9_turn 209 = .ok (.iload_n 3, 1) := by decide +kernel
theorem dX9_turn_210 : decode cX9_turn 210 = .ok (.iadd, 1) := by decide +kernel
theorem dX9_turn_211 : decode cX9_turn 211 = .ok (.iaload, 1) := by decide +kernel
theorem dX9_turn_212 : decode cX9_turn 212 = .ok (.imul, 1) := by decide +kernel
theorem dX9_turn_213 : decode cX9_turn 213 = .ok (.iadd, 1) := by decide +kernel
theorem dX9_turn_214 : decode cX9_turn 214 = .ok (.aload_n 0, 1) := by decide +kernel
theorem dX9_turn_215 : decode cX9_turn 215 = .ok (.getfield 7, 3) := by decide +kernel
theorem dX9_turn_218 : decode cX9_turn 218 = .ok (.irem, 1) := by decide +kernel
theorem dX9_turn_219 : decode cX9_turn 219 = .ok (.iastore, 1) := by decide +kernel
theorem dX9_turn_220 : decode cX9_turn 220 = .ok (.iinc 6 1, 3) := by decide +kernel
theorem dX9_turn_223 : decode cX9_turn 223 = .ok (.goto (-60), 3) := by decide +kernel
theorem dX9_turn_226 : decode cX9_turn 226 = .ok (.aload_n 0, 1) := by decide +kernel
theorem dX9_turn_227 : decode cX9_turn 227 = .ok (.iconst 0, 1) := by decide +kernel
theorem dX9_turn_228 : decode cX9_turn 228 = .ok (.putfield 91, 3) := by decide +kernel
theorem dX9_turn_231 : decode cX9_turn 231 = .ok (.iconst 1, 1) := by decide +kernel
theorem dX9_turn_232 : decode cX9_turn 232 = .ok (.ireturn, 1) := by decide +kernel
theorem dX9_rankOfLines_0 : decode cX9_rankOfLines 0 = .ok (.iconst 0, 1) := by decide +kernel
theorem dX9_rankOfLines_1 : decode cX9_rankOfLines 1 = .ok (.istore_n 3, 1) := by decide +kernel
theorem dX9_rankOfLines_2 : decode cX9_rankOfLines 2 = .ok (.iconst 0, 1) := by decide +kernel
theorem dX9_rankOfLines_3 : decode cX9_rankOfLines 3 = .ok (.istore 4, 2) := by decide +kernel
theorem dX9_rankOfLines_5 : decode cX9_rankOfLines 5 = .ok (.iload 4, 2) := by decide +kernel
theorem dX9_rankOfLines_7 : decode cX9_rankOfLines 7 = .ok (.iload_n 2, 1) := by decide +kernel
theorem dX9_rankOfLines_8 : decode cX9_rankOfLines 8 = .ok (.if_icmp .ge 65, 3) := by decide +kernel
theorem dX9_rankOfLines_11 : decode cX9_rankOfLines 11 = .ok (.iload_n 3, 1) := by decide +kernel
theorem dX9_rankOfLines_12 : decode cX9_rankOfLines 12 = .ok (.iload_n 1, 1) := by decide +kernel
theorem dX9_rankOfLines_13 : decode cX9_rankOfLines 13 = .ok (.if_icmp .ge 60, 3) := by decide +kernel
theorem dX9_rankOfLines_16 : decode cX9_rankOfLines 16 = .ok (.iload_n 3, 1) := by decide +kernel
theorem dX9_rankOfLines_17 : decode cX9_rankOfLines 17 = .ok (.istore 5, 2) := by decide +kernel
theorem dX9_rankOfLines_19 : decode cX9_rankOfLines 19 = .ok (.iload 5, 2) := by decide +kernel
theorem dX9_rankOfLines_21 : decode cX9_rankOfLines 21 = .ok (.iload_n 1, 1) := by decide +kernel
theorem dX9_rankOfLines_22 : decode cX9_rankOfLines 22 = .ok (.if_icmp .ge 25, 3) := by decide +kernel
theorem dX9_rankOfLines_25 : decode cX9_rankOfLines 25 = .ok (.aload_n 0, 1) := by decide +kernel
theorem dX9_rankOfLines_26 : decode cX9_rankOfLines 26 = .ok (.getfield 51, 3) := by decide +kernel
theorem dX9_rankOfLines_29 : decode cX9_rankOfLines 29 = .ok (.bipush 81, 2) := by decide +kernel
theorem dX9_rankOfLines_31 : decode cX9_rankOfLines 31 = .ok (.iload 5, 2) := by decide +kernel
theorem dX9_rankOfLines_33 : decode cX9_rankOfLines 33 = .ok (.imul, 1) := by decide +kernel
theorem dX9_rankOfLines_34 : decode cX9_rankOfLines 34 = .ok (.iload 4, 2) := by decide +kernel
theorem dX9_rankOfLines_36 : decode cX9_rankOfLines 36 = .ok (.iadd, 1) := by decide +kernel
theorem dX9_rankOfLines_37 : decode cX9_rankOfLines 37 = .ok (.iaload, 1) := by decide +kernel
theorem dX9_rankOfLines_38 : decode cX9_rankOfLines 38 = .ok (.ifCond .ne 9, 3) := by decide +kernel
theorem dX9_rankOfLines_41 : decode cX9_rankOfLines 41 = .ok (.iinc 5 1, 3) := by decide +kernel
theorem dX9_rankOfLines_44 : decode cX9_rankOfLines 44 = .ok (.goto (-25), 3) := by decide +kernel
theorem dX9_rankOfLines_47 : decode cX9_rankOfLines 47 = .ok (.iload 5, 2) := by decide +kernel
theorem dX9_rankOfLines_49 : decode cX9_rankOfLines 49 = .ok (.iload_n 1, 1) := by decide +kernel
theorem dX9_rankOfLines_50 : decode cX9_rankOfLines 50 = .ok (.if_icmp .ge 17, 3) := by decide +kernel
theorem dX9_rankOfLines_53 : decode cX9_rankOfLines 53 = .ok (.aload_n 0, 1) := by decide +kernel
theorem dX9_rankOfLines_54 : decode cX9_rankOfLines 54 = .ok (.iload 5, 2) := by decide +kernel
theorem dX9_rankOfLines_56 : decode cX9_rankOfLines 56 = .ok (.iload_n 3, 1) := by decide +kernel
theorem dX9_rankOfLines_57 : decode cX9_rankOfLines 57 = .ok (.iload 4, 2) := by decide +kernel
theorem dX9_rankOfLines_59 : decode cX9_rankOfLines 59 = .ok (.iload_n 1, 1) := by decide +kernel
theorem dX9_rankOfLines_60 : decode cX9_rankOfLines 60 = .ok (.iload_n 2, 1) := by decide +kernel
theorem dX9_rankOfLines_61 : decode cX9_rankOfLines 61 = .ok (.invokevirtual 182, 3) := by decide +kernel
theorem dX9_rankOfLines_64 : decode cX9_rankOfLines 64 = .ok (.iinc 3 1, 3) := by decide +kernel
theorem dX9_rankOfLines_67 : decode cX9_rankOfLines 67 = .ok (.iinc 4 1, 3) := by decide +kernel
theorem dX9_rankOfLines_70 : decode cX9_rankOfLines 70 = .ok (.goto (-65), 3) := by decide +kernel
theorem dX9_rankOfLines_73 : decode cX9_rankOfLines 73 = .ok (.iload_n 3, 1) := by decide +kernel
theorem dX9_rankOfLines_74 : decode cX9_rankOfLines 74 = .ok (.ireturn, 1) := by decide +kernel
theorem dX9_takeLine_0 : decode cX9_takeLine 0 = .ok (.iconst 0, 1) := by decide +kernel
theorem dX9_takeLine_1 : decode cX9_takeLine 1 = .ok (.istore 6, 2) := by decide +kernel
theorem dX9_takeLine_3 : decode cX9_takeLine 3 = .ok (.iload 6, 2) := by decide +kernel
theorem dX9_takeLine_5 : decode cX9_takeLine 5 = .ok (.iload 5, 2) := by decide +kernel
theorem dX9_takeLine_7 : decode cX9_takeLine 7 = .ok (.if_icmp .ge 61, 3) := by decide +kernel
theorem dX9_takeLine_10 : decode cX9_takeLine 10 = .ok (.aload_n 0, 1) := by decide +kernel
theorem dX9_takeLine_11 : decode cX9_takeLine 11 = .ok (.getfield 51, 3) := by decide +kernel
theorem dX9_takeLine_14 : decode cX9_takeLine 14 = .ok (.bipush 81, 2) := by decide +kernel
theorem dX9_takeLine_16 : decode cX9_takeLine 16 = .ok (.iload_n 1, 1) := by decide +kernel
theorem dX9_takeLine_17 : decode cX9_takeLine 17 = .ok (.imul, 1) := by decide +kernel
theorem dX9_takeLine_18 : decode cX9_takeLine 18 = .ok (.iload 6, 2) := by decide +kernel
theorem dX9_takeLine_20 : decode cX9_takeLine 20 = .ok (.iadd, 1) := by decide +kernel
theorem dX9_takeLine_21 : decode cX9_takeLine 21 = .ok (.iaload, 1) := by decide +kernel
theorem dX9_takeLine_22 : decode cX9_takeLine 22 = .ok (.istore 7, 2) := by decide +kernel
theorem dX9_takeLine_24 : decode cX9_takeLine 24 = .ok (.aload_n 0, 1) := by decide +kernel
theorem dX9_takeLine_25 : decode cX9_takeLine 25 = .ok (.getfield 51, 3) := by decide +kernel
theorem dX9_takeLine_28 : decode cX9_takeLine 28 = .ok (.bipush 81, 2) := by decide +kernel
theorem dX9_takeLine_30 : decode cX9_takeLine 30 = .ok (.iload_n 1, 1) := by decide +kernel
theorem dX9_takeLine_31 : decode cX9_takeLine 31 = .ok (.imul, 1) := by decide +kernel
theorem dX9_takeLine_32 : decode cX9_takeLine 32 = .ok (.iload 6, 2) := by decide +kernel
theorem dX9_takeLine_34 : decode cX9_takeLine 34 = .ok (.iadd, 1) := by decide +kernel
theorem dX9_takeLine_35 : decode cX9_takeLine 35 = .ok (.aload_n 0, 1) := by decide +kernel
theorem dX9_takeLine_36 : decode cX9_takeLine 36 = .ok (.getfield 51, 3) := by decide +kernel
theorem dX9_takeLine_39 : decode cX9_takeLine 39 = .ok (.bipush 81, 2) := by decide +kernel
theorem dX9_takeLine_41 : decode cX9_takeLine 41 = .ok (.iload_n 2, 1) := by decide +kernel
theorem dX9_takeLine_42 : decode cX9_takeLine 42 = .ok (.imul, 1) := by decide +kernel
theorem dX9_takeLine_43 : decode cX9_takeLine 43 = .ok (.iload 6, 2) := by decide +kernel
theorem dX9_takeLine_45 : decode cX9_takeLine 45 = .ok (.iadd, 1) := by decide +kernel
theorem dX9_takeLine_46 : decode cX9_takeLine 46 = .ok (.iaload, 1) := by decide +kernel
theorem dX9_takeLine_47 : decode cX9_takeLine 47 = .ok (.iastore, 1) := by decide +kernel
theorem dX9_takeLine_48 : decode cX9_takeLine 48 = .ok (.aload_n 0, 1) := by decide +kernel
theorem dX9_takeLine_49 : decode cX9_takeLine 49 = .ok (.getfield 51, 3) := by decide +kernel
theorem dX9_takeLine_52 : decode cX9_takeLine 52 = .ok (.bipush 81, 2) := by decide +kernel
theorem dX9_takeLine_54 : decode cX9_takeLine 54 = .ok (.iload_n 2, 1) := by decide +kernel
theorem dX9_takeLine_55 : decode cX9_takeLine 55 = .ok (.imul, 1) := by decide +kernel
theorem dX9_takeLine_56 : decode cX9_takeLine 56 = .ok (.iload 6, 2) := by decide +kernel
theorem dX9_takeLine_58 : decode cX9_takeLine 58 = .ok (.iadd, 1) := by decide +kernel
theorem dX9_takeLine_59 : decode cX9_takeLine 59 = .ok (.iload 7, 2) := by decide +kernel
theorem dX9_takeLine_61 : decode cX9_takeLine 61 = .ok (.iastore, 1) := by decide +kernel
theorem dX9_takeLine_62 : decode cX9_takeLine 62 = .ok (.iinc 6 1, 3) := by decide +kernel
theorem dX9_takeLine_65 : decode cX9_takeLine 65 = .ok (.goto (-62), 3) := by decide +kernel
theorem dX9_takeLine_68 : decode cX9_takeLine 68 = .ok (.aload_n 0, 1) := by decide +kernel
theorem dX9_takeLine_69 : decode cX9_takeLine 69 = .ok (.aload_n 0, 1) := by decide +kernel
theorem dX9_takeLine_70 : decode cX9_takeLine 70 = .ok (.getfield 51, 3) := by decide +kernel
theorem dX9_takeLine_73 : decode cX9_takeLine 73 = .ok (.bipush 81, 2) := by decide +kernel
theorem dX9_takeLine_75 : decode cX9_takeLine 75 = .ok (.iload_n 2, 1) := by decide +kernel
theorem dX9_takeLine_76 : decode cX9_takeLine 76 = .ok (.imul, 1) := by decide +kernel
theorem dX9_takeLine_77 : decode cX9_takeLine 77 = .ok (.iload_n 3, 1) := by decide +kernel
theorem dX9_takeLine_78 : decode cX9_takeLine 78 = .ok (.iadd, 1) := by decide +kernel
theorem dX9_takeLine_79 : decode cX9_takeLine 79 = .ok (.iaload, 1) := by decide +kernel
theorem dX9_takeLine_80 : decode cX9_takeLine 80 = .ok (.invokevirtual 147, 3) := by decide +kernel
theorem dX9_takeLine_83 : decode cX9_takeLine 83 = .ok (.istore 6, 2) := by decide +kernel
theorem dX9_takeLine_85 : decode cX9_takeLine 85 = .ok (.iload_n 2, 1) := by decide +kernel
theorem dX9_takeLine_86 : decode cX9_takeLine 86 = .ok (.iconst 1, 1) := by decide +kernel
theorem dX9_takeLine_87 : decode cX9_takeLine 87 = .ok (.iadd, 1) := by decide +kernel
theorem dX9_takeLine_88 : decode cX9_takeLine 88 = .ok (.istore 7, 2) := by decide +kernel
theorem dX9_takeLine_90 : decode cX9_takeLine 90 = .ok (.iload 7, 2) := by decide +kernel
theorem dX9_takeLine_92 : decode cX9_takeLine 92 = .ok (.iload 4, 2) := by decide +kernel
theorem dX9_takeLine_94 : decode cX9_takeLine 94 = .ok (.if_icmp .ge 109, 3) := by decide +kernel
theorem dX9_takeLine_97 : decode cX9_takeLine 97 = .ok (.aload_n 0, 1) := by decide +kernel
theorem dX9_takeLine_98 : decode cX9_takeLine 98 = .ok (.getfield 7, 3) := by decide +kernel
theorem dX9_takeLine_101 : decode cX9_takeLine 101 = .ok (.aload_n 0, 1) := by decide +kernel
theorem dX9_takeLine_102 : decode cX9_takeLine 102 = .ok (.getfield 51, 3) := by decide +kernel
theorem dX9_takeLine_105 : decode cX9_takeLine 105 = .ok (.bipush 81, 2) := by decide +kernel
theorem dX9_takeLine_107 : decode cX9_takeLine 107 = .ok (.iload 7, 2) := by decide +kernel
theorem dX9_takeLine_109 : decode cX9_takeLine 109 = .ok (.imul, 1) := by decide +kernel
theorem dX9_takeLine_110 : decode cX9_takeLine 110 = .ok (.iload_n 3, 1) := by decide +kernel
theorem dX9_takeLine_111 : decode cX9_takeLine 111 = .ok (.iadd, 1) := by decide +kernel
theorem dX9_takeLine_112 : decode cX9_takeLine 112 = .ok (.iaload, 1) := by decide +kernel
theorem dX9_takeLine_113 : decode cX9_takeLine 113 = .ok (.iload 6, 2) := by decide +kernel
theorem dX9_takeLine_115 : decode cX9_takeLine 115 = .ok (.imul, 1) := by decide +kernel
theorem dX9_takeLine_116 : decode cX9_takeLine 116 = .ok (.aload_n 0, 1) := by decide +kernel
theorem dX9_takeLine_117 : decode cX9_takeLine 117 = .ok (.getfield 7, 3) := by decide +kernel
theorem dX9_takeLine_120 : decode cX9_takeLine 120 = .ok (.irem, 1) := by decide +kernel
theorem dX9_takeLine_121 : decode cX9_takeLine 121 = .ok (.isub, 1) := by decide +kernel
theorem dX9_takeLine_122 : decode cX9_takeLine 122 = .ok (.aload_n 0, 1) := by decide +kernel
theorem dX9_takeLine_123 : decode cX9_takeLine 123 = .ok (.getfield 7, 3) := by decide +kernel
theorem dX9_takeLine_126 : decode cX9_takeLine 126 = .ok (.irem, 1) := by decide +kernel
theorem dX9_takeLine_127 : decode cX9_takeLine 127 = .ok (.istore 8, 2) := by decide +kernel
theorem dX9_takeLine_129 : decode cX9_takeLine 129 = .ok (.iload_n 3, 1) := by decide +kernel
theorem dX9_takeLine_130 : decode cX9_takeLine 130 = .ok (.istore 9, 2) := by decide +kernel
theorem dX9_takeLine_132 : decode cX9_takeLine 132 = .ok (.iload 9, 2) := by decide +kernel
theorem dX9_takeLine_134 : decode cX9_takeLine 134 = .ok (.iload 5, 2) := by decide +kernel
theorem dX9_takeLine_136 : decode cX9_takeLine 136 = .ok (.if_icmp .ge 61, 3) := by decide +kernel
theorem dX9_takeLine_139 : decode cX9_takeLine 139 = .ok (.iload 8, 2) := by decide +kernel
theorem dX9_takeLine_141 : decode cX9_takeLine 141 = .ok (.ifCond .le 56, 3) := by decide +kernel
theorem dX9_takeLine_144 : decode cX9_takeLine 144 = .ok (.aload_n 0, 1) := by decide +kernel
theorem dX9_takeLine_145 : decode cX9_takeLine 145 = .ok (.getfield 51, 3) := by decide +kernel
theorem dX9_takeLine_148 : decode cX9_takeLine 148 = .ok (.bipush 81, 2) := by decide +kernel
theorem dX9_takeLine_150 : decode cX9_takeLine 150 = .ok (.iload 7, 2) := by decide +kernel
theorem dX9_takeLine_152 : decode cX9_takeLine 152 = .ok (.imul, 1) := by decide +kernel
theorem dX9_takeLine_153 : decode cX9_takeLine 153 = .ok (.iload 9, 2) := by decide +kernel
theorem dX9_takeLine_155 : decode cX9_takeLine 155 = .ok (.iadd, 1) := by decide +kernel
theorem dX9_takeLine_156 : decode cX9_takeLine 156 = .ok (.aload_n 0, 1) := by decide +kernel
theorem dX9_takeLine_157 : decode cX9_takeLine 157 = .ok (.getfield 51, 3) := by decide +kernel
theorem dX9_takeLine_160 : decode cX9_takeLine 160 = .ok (.bipush 81, 2) := by decide +kernel
theorem dX9_takeLine_162 : decode cX9_takeLine 162 = .ok (.iload 7, 2) := by decide +kernel
theorem dX9_takeLine_164 : decode cX9_takeLine 164 = .ok (.imul, 1) := by decide +kernel
theorem dX9_takeLine_165 : decode cX9_takeLine 165 = .ok (.iload 9, 2) := by decide +kernel
theorem dX9_takeLine_167 : decode cX9_takeLine 167 = .ok (.iadd, 1) := by decide +kernel
theorem dX9_takeLine_168 : decode cX9_takeLine 168 = .ok (.iaload, 1) := by decide +kernel
theorem dX9_takeLine_169 : decode cX9_takeLine 169 = .ok (.iload 8, 2) := by decide +kernel
theorem dX9_takeLine_171 : decode cX9_takeLine 171 = .ok (.aload_n 0, 1) := by decide +kernel
theorem dX9_takeLine_172 : decode cX9_takeLine 172 = .ok (.getfield 51, 3) := by decide +kernel
theorem dX9_takeLine_175 : decode cX9_takeLine 175 = .ok (.bipush 81, 2) := by decide +kernel
theorem dX9_takeLine_177 : decode cX9_takeLine 177 = .ok (.iload_n 2, 1) := by decide +kernel
theorem dX9_takeLine_178 : decode cX9_takeLine 178 = .ok (.imul, 1) := by decide +kernel
theorem dX9_takeLine_179 : decode cX9_takeLine 179 = .ok (.iload 9, 2) := by decide +kernel
theorem dX9_takeLine_181 : decode cX9_takeLine 181 = .ok (.iadd, 1) := by decide +kernel
theorem dX9_takeLine_182 : decode cX9_takeLine 182 = .ok (.iaload, 1) := by decide +kernel
theorem dX9_takeLine_183 : decode cX9_takeLine 183 = .ok (.imul, 1) := by decide +kernel
theorem dX9_takeLine_184 : decode cX9_takeLine 184 = .ok (.iadd, 1) := by decide +kernel
theorem dX9_takeLine_185 : decode cX9_takeLine 185 = .ok (.aload_n 0, 1) := by decide +kernel
theorem dX9_takeLine_186 : decode cX9_takeLine 186 = .ok (.getfield 7, 3) := by decide +kernel
theorem dX9_takeLine_189 : decode cX9_takeLine 189 = .ok (.irem, 1) := by decide +kernel
theorem dX9_takeLine_190 : decode cX9_takeLine 190 = .ok (.iastore, 1) := by decide +kernel
theorem dX9_takeLine_191 : decode cX9_takeLine 191 = .ok (.iinc 9 1, 3) := by decide +kernel
theorem dX9_takeLine_194 : decode cX9_takeLine 194 = .ok (.goto (-62), 3) := by decide +kernel
theorem dX9_takeLine_197 : decode cX9_takeLine 197 = .ok (.iinc 7 1, 3) := by decide +kernel
theorem dX9_takeLine_200 : decode cX9_takeLine 200 = .ok (.goto (-110), 3) := by decide +kernel
theorem dX9_takeLine_203 : decode cX9_takeLine 203 = .ok (.return_, 1) := by decide +kernel
theorem dX9_rankBy_0 : decode cX9_rankBy 0 = .ok (.iload_n 1, 1) := by decide +kernel
theorem dX9_rankBy_1 : decode cX9_rankBy 1 = .ok (.ifCond .ne 8, 3) := by decide +kernel
theorem dX9_rankBy_4 : decode cX9_rankBy 4 = .ok (.bipush 81, 2) := by decide +kernel
theorem dX9_rankBy_6 : decode cX9_rankBy 6 = .ok (.goto 14, 3) := by decide +kernel
theorem dX9_rankBy_9 : decode cX9_rankBy 9 = .ok (.iload_n 1, 1) := by decide +kernel
theorem dX9_rankBy_10 : decode cX9_rankBy 10 = .ok (.iconst 1, 1) := by decide +kernel
theorem dX9_rankBy_11 : decode cX9_rankBy 11 = .ok (.if_icmp .ne 8, 3) := by decide +kernel
theorem dX9_rankBy_14 : decode cX9_rankBy 14 = .ok (.bipush 9, 2) := by decide +kernel
theorem dX9_rankBy_16 : decode cX9_rankBy 16 = .ok (.goto 4, 3) := by decide +kernel
theorem dX9_rankBy_19 : decode cX9_rankBy 19 = .ok (.iconst 1, 1) := by decide +kernel
theorem dX9_rankBy_20 : decode cX9_rankBy 20 = .ok (.istore_n 2, 1) := by decide +kernel
theorem dX9_rankBy_21 : decode cX9_rankBy 21 = .ok (.iload_n 1, 1) := by decide +kernel
theorem dX9_rankBy_22 : decode cX9_rankBy 22 = .ok (.ifCond .ne 8, 3) := by decide +kernel
theorem dX9_rankBy_25 : decode cX9_rankBy 25 = .ok (.bipush 9, 2) := by decide +kernel
theorem dX9_rankBy_27 : decode cX9_rankBy 27 = .ok (.goto 5, 3) := by decide +kernel
theorem dX9_rankBy_30 : decode cX9_rankBy 30 = .ok (.bipush 81, 2) := by decide +kernel
theorem dX9_rankBy_32 : decode cX9_rankBy 32 = .ok (.istore_n 3, 1) := by decide +kernel
theorem dX9_rankBy_33 : decode cX9_rankBy 33 = .ok (.iload_n 1, 1) := by decide +kernel
theorem dX9_rankBy_34 : decode cX9_rankBy 34 = .ok (.iconst 2, 1) := by decide +kernel
theorem dX9_rankBy_35 : decode cX9_rankBy 35 = .ok (.if_icmp .ne 8, 3) := by decide +kernel
theorem dX9_rankBy_38 : decode cX9_rankBy 38 = .ok (.bipush 9, 2) := by decide +kernel
theorem dX9_rankBy_40 : decode cX9_rankBy 40 = .ok (.goto 4, 3) := by decide +kernel
theorem dX9_rankBy_43 : decode cX9_rankBy 43 = .ok (.iconst 1, 1) := by decide +kernel
theorem dX9_rankBy_44 : decode cX9_rankBy 44 = .ok (.istore 4, 2) := by decide +kernel
theorem dX9_rankBy_46 : decode cX9_rankBy 46 = .ok (.iconst 0, 1) := by decide +kernel
theorem dX9_rankBy_47 : decode cX9_rankBy 47 = .ok (.istore 5, 2) := by decide +kernel
theorem dX9_rankBy_49 : decode cX9_rankBy 49 = .ok (.iload 5, 2) := by decide +kernel
theorem dX9_rankBy_51 : decode cX9_rankBy 51 = .ok (.bipush 9, 2) := by decide +kernel
theorem dX9_rankBy_53 : decode cX9_rankBy 53 = .ok (.if_icmp .ge 64, 3) := by decide +kernel
theorem dX9_rankBy_56 : decode cX9_rankBy 56 = .ok (.iconst 0, 1) := by decide +kernel
theorem dX9_rankBy_57 : decode cX9_rankBy 57 = .ok (.istore 6, 2) := by decide +kernel
theorem dX9_rankBy_59 : decode cX9_rankBy 59 = .ok (.iload 6, 2) := by decide +kernel
theorem dX9_rankBy_61 : decode cX9_rankBy 61 = .ok (.bipush 81, 2) := by decide +kernel
theorem dX9_rankBy_63 : decode cX9_rankBy 63 = .ok (.if_icmp .ge 48, 3) := by decide +kernel
theorem dX9_rankBy_66 : decode cX9_rankBy 66 = .ok (.aload_n 0, 1) := by decide +kernel
theorem dX9_rankBy_67 : decode cX9_rankBy 67 = .ok (.getfield 51, 3) := by decide +kernel
theorem dX9_rankBy_70 : decode cX9_rankBy 70 = .ok (.bipush 81, 2) := by decide +kernel
theorem dX9_rankBy_72 : decode cX9_rankBy 72 = .ok (.iload 5, 2) := by decide +kernel
theorem dX9_rankBy_74 : decode cX9_rankBy 74 = .ok (.imul, 1) := by decide +kernel
theorem dX9_rankBy_75 : decode cX9_rankBy 75 = .ok (.iload 6, 2) := by decide +kernel
theorem dX9_rankBy_77 : decode cX9_rankBy 77 = .ok (.iadd, 1) := by decide +kernel
theorem dX9_rankBy_78 : decode cX9_rankBy 78 = .ok (.aload_n 0, 1) := by decide +kernel
theorem dX9_rankBy_79 : decode cX9_rankBy 79 = .ok (.getfield 17, 3) := by decide +kernel
theorem dX9_rankBy_82 : decode cX9_rankBy 82 = .ok (.iload_n 2, 1) := by decide +kernel
theorem dX9_rankBy_83 : decode cX9_rankBy 83 = .ok (.iload 5, 2) := by decide +kernel
theorem dX9_rankBy_85 : decode cX9_rankBy 85 = .ok (.imul, 1) := by decide +kernel
theorem dX9_rankBy_86 : decode cX9_rankBy 86 = .ok (.iload_n 3, 1) := by decide +kernel
theorem dX9_rankBy_87 : decode cX9_rankBy 87 = .ok (.iload 6, 2) := by decide +kernel
theorem dX9_rankBy_89 : decode cX9_rankBy 89 = .ok (.bipush 9, 2) := by decide +kernel
theorem dX9_rankBy_91 : decode cX9_rankBy 91 = .ok (.idiv, 1) := by decide +kernel
theorem dX9_rankBy_92 : decode cX9_rankBy 92 = .ok (.imul, 1) := by decide +kernel
theorem dX9_rankBy_93 : decode cX9_rankBy 93 = .ok (.iadd, 1) := by decide +kernel
theorem dX9_rankBy_94 : decode cX9_rankBy 94 = .ok (.iload 4, 2) := by decide +kernel
theorem dX9_rankBy_96 : decode cX9_rankBy 96 = .ok (.iload 6, 2) := by decide +kernel
theorem dX9_rankBy_98 : decode cX9_rankBy 98 = .ok (.bipush 9, 2) := by decide +kernel
theorem dX9_rankBy_100 : decode cX9_rankBy 100 = .ok (.irem, 1) := by decide +kernel
theorem dX9_rankBy_101 : decode cX9_rankBy 101 = .ok (.imul, 1) := by decide +kernel
theorem dX9_rankBy_102 : decode cX9_rankBy 102 = .ok (.iadd, 1) := by decide +kernel
theorem dX9_rankBy_103 : decode cX9_rankBy 103 = .ok (.iaload, 1) := by decide +kernel
theorem dX9_rankBy_104 : decode cX9_rankBy 104 = .ok (.iastore, 1) := by decide +kernel
theorem dX9_rankBy_105 : decode cX9_rankBy 105 = .ok (.iinc 6 1, 3) := by decide +kernel
theorem dX9_rankBy_108 : decode cX9_rankBy 108 = .ok (.goto (-49), 3) := by decide +kernel
theorem dX9_rankBy_111 : decode cX9_rankBy 111 = .ok (.iinc 5 1, 3) := by decide +kernel
theorem dX9_rankBy_114 : decode cX9_rankBy 114 = .ok (.goto (-65), 3) := by decide +kernel
theorem dX9_rankBy_117 : decode cX9_rankBy 117 = .ok (.aload_n 0, 1) := by decide +kernel
theorem dX9_rankBy_118 : decode cX9_rankBy 118 = .ok (.aload_n 0, 1) := by decide +kernel
theorem dX9_rankBy_119 : decode cX9_rankBy 119 = .ok (.getfield 13, 3) := by decide +kernel
theorem dX9_rankBy_122 : decode cX9_rankBy 122 = .ok (.iload_n 1, 1) := by decide +kernel
theorem dX9_rankBy_123 : decode cX9_rankBy 123 = .ok (.iaload, 1) := by decide +kernel
theorem dX9_rankBy_124 : decode cX9_rankBy 124 = .ok (.bipush 81, 2) := by decide +kernel
theorem dX9_rankBy_126 : decode cX9_rankBy 126 = .ok (.invokevirtual 185, 3) := by decide +kernel
theorem dX9_rankBy_129 : decode cX9_rankBy 129 = .ok (.ireturn, 1) := by decide +kernel
theorem dX9_rank_0 : decode cX9_rank 0 = .ok (.iload_n 1, 1) := by decide +kernel
theorem dX9_rank_1 : decode cX9_rank 1 = .ok (.i2l, 1) := by decide +kernel
theorem dX9_rank_2 : decode cX9_rank 2 = .ok (.lconst 0, 1) := by decide +kernel
theorem dX9_rank_3 : decode cX9_rank 3 = .ok (.ldc2_w 188, 3) := by decide +kernel
theorem dX9_rank_6 : decode cX9_rank 6 = .ok (.invokestatic 97, 3) := by decide +kernel
theorem dX9_rank_9 : decode cX9_rank 9 = .ok (.ifCond .ne 5, 3) := by decide +kernel
theorem dX9_rank_12 : decode cX9_rank 12 = .ok (.iconst (-1), 1) := by decide +kernel
theorem dX9_rank_13 : decode cX9_rank 13 = .ok (.ireturn, 1) := by decide +kernel
theorem dX9_rank_14 : decode cX9_rank 14 = .ok (.iload_n 1, 1) := by decide +kernel
theorem dX9_rank_15 : decode cX9_rank 15 = .ok (.iconst 3, 1) := by decide +kernel
theorem dX9_rank_16 : decode cX9_rank 16 = .ok (.if_icmp .ge 9, 3) := by decide +kernel
theorem dX9_rank_19 : decode cX9_rank 19 = .ok (.aload_n 0, 1) := by decide +kernel
theorem dX9_rank_20 : decode cX9_rank 20 = .ok (.iload_n 1, 1) := by decide +kernel
theorem dX9_rank_21 : decode cX9_rank 21 = .ok (.invokevirtual 190, 3) := by decide +kernel
theorem dX9_rank_24 : decode cX9_rank 24 = .ok (.ireturn, 1) := by decide +kernel
theorem dX9_rank_25 : decode cX9_rank 25 = .ok (.aload_n 0, 1) := by decide +kernel
theorem dX9_rank_26 : decode cX9_rank 26 = .ok (.iconst 0, 1) := by decide +kernel
theorem dX9_rank_27 : decode cX9_rank 27 = .ok (.invokevirtual 190, 3) := by decide +kernel
theorem dX9_rank_30 : decode cX9_rank 30 = .ok (.istore_n 2, 1) := by decide +kernel
theorem dX9_rank_31 : decode cX9_rank 31 = .ok (.iload_n 2, 1) := by decide +kernel
theorem dX9_rank_32 : decode cX9_rank 32 = .ok (.aload_n 0, 1) := by decide +kernel
theorem dX9_rank_33 : decode cX9_rank 33 = .ok (.iconst 1, 1) := by decide +kernel
theorem dX9_rank_34 : decode cX9_rank 34 = .ok (.invokevirtual 190, 3) := by decide +kernel
theorem dX9_rank_37 : decode cX9_rank 37 = .ok (.invokestatic 193, 3) := by decide +kernel
theorem dX9_rank_40 : decode cX9_rank 40 = .ok (.istore_n 2, 1) := by decide +kernel
theorem dX9_rank_41 : decode cX9_rank 41 = .ok (.iload_n 2, 1) := by decide +kernel
theorem dX9_rank_42 : decode cX9_rank 42 = .ok (.aload_n 0, 1) := by decide +kernel
theorem dX9_rank_43 : decode cX9_rank 43 = .ok (.iconst 2, 1) := by decide +kernel
theorem dX9_rank_44 : decode cX9_rank 44 = .ok (.invokevirtual 190, 3) := by decide +kernel
theorem dX9_rank_47 : decode cX9_rank 47 = .ok (.invokestatic 193, 3) := by decide +kernel
theorem dX9_rank_50 : decode cX9_rank 50 = .ok (.ireturn, 1) := by decide +kernel
theorem dX9_ones_0 : decode cX9_ones 0 = .ok (.aload_n 0, 1) := by decide +kernel
theorem dX9_ones_1 : decode cX9_ones 1 = .ok (.iload_n 1, 1) := by decide +kernel
theorem dX9_ones_2 : decode cX9_ones 2 = .ok (.invokevirtual 115, 3) := by decide +kernel
theorem dX9_ones_5 : decode cX9_ones 5 = .ok (.i2l, 1) := by decide +kernel
theorem dX9_ones_6 : decode cX9_ones 6 = .ok (.lconst 1, 1) := by decide +kernel
theorem dX9_ones_7 : decode cX9_ones 7 = .ok (.lsub, 1) := by decide +kernel
theorem dX9_ones_8 : decode cX9_ones 8 = .ok (.aload_n 0, 1) := by decide +kernel
theorem dX9_ones_9 : decode cX9_ones 9 = .ok (.getfield 7, 3) := by decide +kernel
theorem dX9_ones_12 : decode cX9_ones 12 = .ok (.i2l, 1) := by decide +kernel
theorem dX9_ones_13 : decode cX9_ones 13 = .ok (.lconst 1, 1) := by decide +kernel
theorem dX9_ones_14 : decode cX9_ones 14 = .ok (.lsub, 1) := by decide +kernel
theorem dX9_ones_15 : decode cX9_ones 15 = .ok (.ldiv, 1) := by decide +kernel
theorem dX9_ones_16 : decode cX9_ones 16 = .ok (.lreturn, 1) := by decide +kernel
theorem dX9_isOne_0 : decode cX9_isOne 0 = .ok (.iload_n 1, 1) := by decide +kernel
theorem dX9_isOne_1 : decode cX9_isOne 1 = .ok (.istore_n 2, 1) := by decide +kernel
theorem dX9_isOne_2 : decode cX9_isOne 2 = .ok (.iload_n 2, 1) := by decide +kernel
theorem dX9_isOne_3 : decode cX9_isOne 3 = .ok (.ifCond .le 22, 3) := by decide +kernel
theorem dX9_isOne_6 : decode cX9_isOne 6 = .ok (.iload_n 2, 1) := by decide +kernel
theorem dX9_isOne_7 : decode cX9_isOne 7 = .ok (.aload_n 0, 1) := by decide +kernel
theorem dX9_isOne_8 : decode cX9_isOne 8 = .ok (.getfield 7, 3) := by decide +kernel
theorem dX9_isOne_11 : decode cX9_isOne 11 = .ok (.irem, 1) := by decide +kernel
