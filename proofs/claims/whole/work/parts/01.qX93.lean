theorem dX9_hasBoth_35 : decode cX9_hasBoth 35 = .ok (.getfield 7, 3) := by decide +kernel
theorem dX9_hasBoth_38 : decode cX9_hasBoth 38 = .ok (.irem, 1) := by decide +kernel
theorem dX9_hasBoth_39 : decode cX9_hasBoth 39 = .ok (.if_icmp .ne 7, 3) := by decide +kernel
theorem dX9_hasBoth_42 : decode cX9_hasBoth 42 = .ok (.iconst 1, 1) := by decide +kernel
theorem dX9_hasBoth_43 : decode cX9_hasBoth 43 = .ok (.goto 4, 3) := by decide +kernel
theorem dX9_hasBoth_46 : decode cX9_hasBoth 46 = .ok (.iconst 0, 1) := by decide +kernel
theorem dX9_hasBoth_47 : decode cX9_hasBoth 47 = .ok (.ireturn, 1) := by decide +kernel
theorem dX9_rowsWith_0 : decode cX9_rowsWith 0 = .ok (.iconst 0, 1) := by decide +kernel
theorem dX9_rowsWith_1 : decode cX9_rowsWith 1 = .ok (.istore 4, 2) := by decide +kernel
theorem dX9_rowsWith_3 : decode cX9_rowsWith 3 = .ok (.iconst 0, 1) := by decide +kernel
theorem dX9_rowsWith_4 : decode cX9_rowsWith 4 = .ok (.istore 5, 2) := by decide +kernel
theorem dX9_rowsWith_6 : decode cX9_rowsWith 6 = .ok (.iload 5, 2) := by decide +kernel
theorem dX9_rowsWith_8 : decode cX9_rowsWith 8 = .ok (.aload_n 0, 1) := by decide +kernel
theorem dX9_rowsWith_9 : decode cX9_rowsWith 9 = .ok (.getfield 85, 3) := by decide +kernel
theorem dX9_rowsWith_12 : decode cX9_rowsWith 12 = .ok (.if_icmp .ge 31, 3) := by decide +kernel
theorem dX9_rowsWith_15 : decode cX9_rowsWith 15 = .ok (.iload 4, 2) := by decide +kernel
theorem dX9_rowsWith_17 : decode cX9_rowsWith 17 = .ok (.aload_n 0, 1) := by decide +kernel
theorem dX9_rowsWith_18 : decode cX9_rowsWith 18 = .ok (.iload 5, 2) := by decide +kernel
theorem dX9_rowsWith_20 : decode cX9_rowsWith 20 = .ok (.iload_n 1, 1) := by decide +kernel
theorem dX9_rowsWith_21 : decode cX9_rowsWith 21 = .ok (.iload_n 2, 1) := by decide +kernel
theorem dX9_rowsWith_22 : decode cX9_rowsWith 22 = .ok (.iload_n 3, 1) := by decide +kernel
theorem dX9_rowsWith_23 : decode cX9_rowsWith 23 = .ok (.invokevirtual 241, 3) := by decide +kernel
theorem dX9_rowsWith_26 : decode cX9_rowsWith 26 = .ok (.ifCond .eq 7, 3) := by decide +kernel
theorem dX9_rowsWith_29 : decode cX9_rowsWith 29 = .ok (.iconst 1, 1) := by decide +kernel
theorem dX9_rowsWith_30 : decode cX9_rowsWith 30 = .ok (.goto 4, 3) := by decide +kernel
theorem dX9_rowsWith_33 : decode cX9_rowsWith 33 = .ok (.iconst 0, 1) := by decide +kernel
theorem dX9_rowsWith_34 : decode cX9_rowsWith 34 = .ok (.iadd, 1) := by decide +kernel
theorem dX9_rowsWith_35 : decode cX9_rowsWith 35 = .ok (.istore 4, 2) := by decide +kernel
theorem dX9_rowsWith_37 : decode cX9_rowsWith 37 = .ok (.iinc 5 1, 3) := by decide +kernel
theorem dX9_rowsWith_40 : decode cX9_rowsWith 40 = .ok (.goto (-34), 3) := by decide +kernel
theorem dX9_rowsWith_43 : decode cX9_rowsWith 43 = .ok (.iload 4, 2) := by decide +kernel
theorem dX9_rowsWith_45 : decode cX9_rowsWith 45 = .ok (.ireturn, 1) := by decide +kernel
theorem dX9_share_0 : decode cX9_share 0 = .ok (.iconst 1, 1) := by decide +kernel
theorem dX9_share_1 : decode cX9_share 1 = .ok (.istore_n 1, 1) := by decide +kernel
theorem dX9_share_2 : decode cX9_share 2 = .ok (.iconst 0, 1) := by decide +kernel
theorem dX9_share_3 : decode cX9_share 3 = .ok (.istore_n 2, 1) := by decide +kernel
theorem dX9_share_4 : decode cX9_share 4 = .ok (.iconst 0, 1) := by decide +kernel
theorem dX9_share_5 : decode cX9_share 5 = .ok (.istore_n 3, 1) := by decide +kernel
theorem dX9_share_6 : decode cX9_share 6 = .ok (.iconst 0, 1) := by decide +kernel
theorem dX9_share_7 : decode cX9_share 7 = .ok (.istore 4, 2) := by decide +kernel
theorem dX9_share_9 : decode cX9_share 9 = .ok (.iconst 0, 1) := by decide +kernel
theorem dX9_share_10 : decode cX9_share 10 = .ok (.istore 5, 2) := by decide +kernel
theorem dX9_share_12 : decode cX9_share 12 = .ok (.iload 5, 2) := by decide +kernel
theorem dX9_share_14 : decode cX9_share 14 = .ok (.aload_n 0, 1) := by decide +kernel
theorem dX9_share_15 : decode cX9_share 15 = .ok (.getfield 245, 3) := by decide +kernel
theorem dX9_share_18 : decode cX9_share 18 = .ok (.if_icmp .ge 79, 3) := by decide +kernel
theorem dX9_share_21 : decode cX9_share 21 = .ok (.iload 5, 2) := by decide +kernel
theorem dX9_share_23 : decode cX9_share 23 = .ok (.iconst 1, 1) := by decide +kernel
theorem dX9_share_24 : decode cX9_share 24 = .ok (.iadd, 1) := by decide +kernel
theorem dX9_share_25 : decode cX9_share 25 = .ok (.istore 6, 2) := by decide +kernel
theorem dX9_share_27 : decode cX9_share 27 = .ok (.iload 6, 2) := by decide +kernel
theorem dX9_share_29 : decode cX9_share 29 = .ok (.aload_n 0, 1) := by decide +kernel
theorem dX9_share_30 : decode cX9_share 30 = .ok (.getfield 245, 3) := by decide +kernel
theorem dX9_share_33 : decode cX9_share 33 = .ok (.if_icmp .ge 58, 3) := by decide +kernel
theorem dX9_share_36 : decode cX9_share 36 = .ok (.iconst 1, 1) := by decide +kernel
theorem dX9_share_37 : decode cX9_share 37 = .ok (.istore 7, 2) := by decide +kernel
theorem dX9_share_39 : decode cX9_share 39 = .ok (.iload 7, 2) := by decide +kernel
theorem dX9_share_41 : decode cX9_share 41 = .ok (.aload_n 0, 1) := by decide +kernel
theorem dX9_share_42 : decode cX9_share 42 = .ok (.getfield 7, 3) := by decide +kernel
theorem dX9_share_45 : decode cX9_share 45 = .ok (.if_icmp .ge 40, 3) := by decide +kernel
theorem dX9_share_48 : decode cX9_share 48 = .ok (.aload_n 0, 1) := by decide +kernel
theorem dX9_share_49 : decode cX9_share 49 = .ok (.iload 5, 2) := by decide +kernel
theorem dX9_share_51 : decode cX9_share 51 = .ok (.iload 6, 2) := by decide +kernel
theorem dX9_share_53 : decode cX9_share 53 = .ok (.iload 7, 2) := by decide +kernel
theorem dX9_share_55 : decode cX9_share 55 = .ok (.invokevirtual 248, 3) := by decide +kernel
theorem dX9_share_58 : decode cX9_share 58 = .ok (.istore 8, 2) := by decide +kernel
theorem dX9_share_60 : decode cX9_share 60 = .ok (.iload 8, 2) := by decide +kernel
theorem dX9_share_62 : decode cX9_share 62 = .ok (.iload_n 1, 1) := by decide +kernel
theorem dX9_share_63 : decode cX9_share 63 = .ok (.if_icmp .le 16, 3) := by decide +kernel
theorem dX9_share_66 : decode cX9_share 66 = .ok (.iload 8, 2) := by decide +kernel
theorem dX9_share_68 : decode cX9_share 68 = .ok (.istore_n 1, 1) := by decide +kernel
theorem dX9_share_69 : decode cX9_share 69 = .ok (.iload 5, 2) := by decide +kernel
theorem dX9_share_71 : decode cX9_share 71 = .ok (.istore_n 2, 1) := by decide +kernel
theorem dX9_share_72 : decode cX9_share 72 = .ok (.iload 6, 2) := by decide +kernel
theorem dX9_share_74 : decode cX9_share 74 = .ok (.istore_n 3, 1) := by decide +kernel
theorem dX9_share_75 : decode cX9_share 75 = .ok (.iload 7, 2) := by decide +kernel
theorem dX9_share_77 : decode cX9_share 77 = .ok (.istore 4, 2) := by decide +kernel
theorem dX9_share_79 : decode cX9_share 79 = .ok (.iinc 7 1, 3) := by decide +kernel
theorem dX9_share_82 : decode cX9_share 82 = .ok (.goto (-43), 3) := by decide +kernel
theorem dX9_share_85 : decode cX9_share 85 = .ok (.iinc 6 1, 3) := by decide +kernel
theorem dX9_share_88 : decode cX9_share 88 = .ok (.goto (-61), 3) := by decide +kernel
theorem dX9_share_91 : decode cX9_share 91 = .ok (.iinc 5 1, 3) := by decide +kernel
theorem dX9_share_94 : decode cX9_share 94 = .ok (.goto (-82), 3) := by decide +kernel
theorem dX9_share_97 : decode cX9_share 97 = .ok (.iload_n 1, 1) := by decide +kernel
theorem dX9_share_98 : decode cX9_share 98 = .ok (.iconst 2, 1) := by decide +kernel
theorem dX9_share_99 : decode cX9_share 99 = .ok (.if_icmp .ge 5, 3) := by decide +kernel
theorem dX9_share_102 : decode cX9_share 102 = .ok (.iconst 0, 1) := by decide +kernel
theorem dX9_share_103 : decode cX9_share 103 = .ok (.ireturn, 1) := by decide +kernel
theorem dX9_share_104 : decode cX9_share 104 = .ok (.iconst 0, 1) := by decide +kernel
theorem dX9_share_105 : decode cX9_share 105 = .ok (.istore 5, 2) := by decide +kernel
theorem dX9_share_107 : decode cX9_share 107 = .ok (.iload 5, 2) := by decide +kernel
theorem dX9_share_109 : decode cX9_share 109 = .ok (.aload_n 0, 1) := by decide +kernel
theorem dX9_share_110 : decode cX9_share 110 = .ok (.getfield 85, 3) := by decide +kernel
theorem dX9_share_113 : decode cX9_share 113 = .ok (.if_icmp .ge 88, 3) := by decide +kernel
theorem dX9_share_116 : decode cX9_share 116 = .ok (.aload_n 0, 1) := by decide +kernel
theorem dX9_share_117 : decode cX9_share 117 = .ok (.iload 5, 2) := by decide +kernel
theorem dX9_share_119 : decode cX9_share 119 = .ok (.iload_n 2, 1) := by decide +kernel
theorem dX9_share_120 : decode cX9_share 120 = .ok (.iload_n 3, 1) := by decide +kernel
theorem dX9_share_121 : decode cX9_share 121 = .ok (.iload 4, 2) := by decide +kernel
theorem dX9_share_123 : decode cX9_share 123 = .ok (.invokevirtual 241, 3) := by decide +kernel
theorem dX9_share_126 : decode cX9_share 126 = .ok (.istore 6, 2) := by decide +kernel
theorem dX9_share_128 : decode cX9_share 128 = .ok (.aload_n 0, 1) := by decide +kernel
theorem dX9_share_129 : decode cX9_share 129 = .ok (.getfield 78, 3) := by decide +kernel
theorem dX9_share_132 : decode cX9_share 132 = .ok (.bipush 49, 2) := by decide +kernel
theorem dX9_share_134 : decode cX9_share 134 = .ok (.iload 5, 2) := by decide +kernel
theorem dX9_share_136 : decode cX9_share 136 = .ok (.imul, 1) := by decide +kernel
theorem dX9_share_137 : decode cX9_share 137 = .ok (.aload_n 0, 1) := by decide +kernel
theorem dX9_share_138 : decode cX9_share 138 = .ok (.getfield 245, 3) := by decide +kernel
theorem dX9_share_141 : decode cX9_share 141 = .ok (.iadd, 1) := by decide +kernel
theorem dX9_share_142 : decode cX9_share 142 = .ok (.iload 6, 2) := by decide +kernel
theorem dX9_share_144 : decode cX9_share 144 = .ok (.ifCond .eq 18, 3) := by decide +kernel
theorem dX9_share_147 : decode cX9_share 147 = .ok (.aload_n 0, 1) := by decide +kernel
theorem dX9_share_148 : decode cX9_share 148 = .ok (.getfield 78, 3) := by decide +kernel
theorem dX9_share_151 : decode cX9_share 151 = .ok (.bipush 49, 2) := by decide +kernel
theorem dX9_share_153 : decode cX9_share 153 = .ok (.iload 5, 2) := by decide +kernel
theorem dX9_share_155 : decode cX9_share 155 = .ok (.imul, 1) := by decide +kernel
theorem dX9_share_156 : decode cX9_share 156 = .ok (.iload_n 2, 1) := by decide +kernel
theorem dX9_share_157 : decode cX9_share 157 = .ok (.iadd, 1) := by decide +kernel
theorem dX9_share_158 : decode cX9_share 158 = .ok (.iaload, 1) := by decide +kernel
theorem dX9_share_159 : decode cX9_share 159 = .ok (.goto 4, 3) := by decide +kernel
theorem dX9_share_162 : decode cX9_share 162 = .ok (.iconst 0, 1) := by decide +kernel
theorem dX9_share_163 : decode cX9_share 163 = .ok (.iastore, 1) := by decide +kernel
theorem dX9_share_164 : decode cX9_share 164 = .ok (.iload 6, 2) := by decide +kernel
theorem dX9_share_166 : decode cX9_share 166 = .ok (.ifCond .eq 29, 3) := by decide +kernel
theorem dX9_share_169 : decode cX9_share 169 = .ok (.aload_n 0, 1) := by decide +kernel
theorem dX9_share_170 : decode cX9_share 170 = .ok (.getfield 78, 3) := by decide +kernel
theorem dX9_share_173 : decode cX9_share 173 = .ok (.bipush 49, 2) := by decide +kernel
theorem dX9_share_175 : decode cX9_share 175 = .ok (.iload 5, 2) := by decide +kernel
theorem dX9_share_177 : decode cX9_share 177 = .ok (.imul, 1) := by decide +kernel
theorem dX9_share_178 : decode cX9_share 178 = .ok (.iload_n 2, 1) := by decide +kernel
theorem dX9_share_179 : decode cX9_share 179 = .ok (.iadd, 1) := by decide +kernel
theorem dX9_share_180 : decode cX9_share 180 = .ok (.iconst 0, 1) := by decide +kernel
theorem dX9_share_181 : decode cX9_share 181 = .ok (.iastore, 1) := by decide +kernel
theorem dX9_share_182 : decode cX9_share 182 = .ok (.aload_n 0, 1) := by decide +kernel
theorem dX9_share_183 : decode cX9_share 183 = .ok (.getfield 78, 3) := by decide +kernel
theorem dX9_share_186 : decode cX9_share 186 = .ok (.bipush 49, 2) := by decide +kernel
theorem dX9_share_188 : decode cX9_share 188 = .ok (.iload 5, 2) := by decide +kernel
theorem dX9_share_190 : decode cX9_share 190 = .ok (.imul, 1) := by decide +kernel
theorem dX9_share_191 : decode cX9_share 191 = .ok (.iload_n 3, 1) := by decide +kernel
theorem dX9_share_192 : decode cX9_share 192 = .ok (.iadd, 1) := by decide +kernel
theorem dX9_share_193 : decode cX9_share 193 = .ok (.iconst 0, 1) := by decide +kernel
theorem dX9_share_194 : decode cX9_share 194 = .ok (.iastore, 1) := by decide +kernel
theorem dX9_share_195 : decode cX9_share 195 = .ok (.iinc 5 1, 3) := by decide +kernel
theorem dX9_share_198 : decode cX9_share 198 = .ok (.goto (-91), 3) := by decide +kernel
theorem dX9_share_201 : decode cX9_share 201 = .ok (.aload_n 0, 1) := by decide +kernel
theorem dX9_share_202 : decode cX9_share 202 = .ok (.dup, 1) := by decide +kernel
theorem dX9_share_203 : decode cX9_share 203 = .ok (.getfield 245, 3) := by decide +kernel
theorem dX9_share_206 : decode cX9_share 206 = .ok (.iconst 1, 1) := by decide +kernel
theorem dX9_share_207 : decode cX9_share 207 = .ok (.iadd, 1) := by decide +kernel
theorem dX9_share_208 : decode cX9_share 208 = .ok (.putfield 245, 3) := by decide +kernel
theorem dX9_share_211 : decode cX9_share 211 = .ok (.iconst 1, 1) := by decide +kernel
theorem dX9_share_212 : decode cX9_share 212 = .ok (.ireturn, 1) := by decide +kernel
theorem dX9_sums_0 : decode cX9_sums 0 = .ok (.iload_n 1, 1) := by decide +kernel
theorem dX9_sums_1 : decode cX9_sums 1 = .ok (.i2l, 1) := by decide +kernel
theorem dX9_sums_2 : decode cX9_sums 2 = .ok (.lconst 0, 1) := by decide +kernel
theorem dX9_sums_3 : decode cX9_sums 3 = .ok (.lconst 1, 1) := by decide +kernel
theorem dX9_sums_4 : decode cX9_sums 4 = .ok (.invokestatic 97, 3) := by decide +kernel
theorem dX9_sums_7 : decode cX9_sums 7 = .ok (.ifCond .eq 13, 3) := by decide +kernel
theorem dX9_sums_10 : decode cX9_sums 10 = .ok (.iload_n 2, 1) := by decide +kernel
theorem dX9_sums_11 : decode cX9_sums 11 = .ok (.i2l, 1) := by decide +kernel
theorem dX9_sums_12 : decode cX9_sums 12 = .ok (.lconst 0, 1) := by decide +kernel
theorem dX9_sums_13 : decode cX9_sums 13 = .ok (.lconst 1, 1) := by decide +kernel
theorem dX9_sums_14 : decode cX9_sums 14 = .ok (.invokestatic 97, 3) := by decide +kernel
theorem dX9_sums_17 : decode cX9_sums 17 = .ok (.ifCond .ne 5, 3) := by decide +kernel
theorem dX9_sums_20 : decode cX9_sums 20 = .ok (.iconst (-1), 1) := by decide +kernel
theorem dX9_sums_21 : decode cX9_sums 21 = .ok (.ireturn, 1) := by decide +kernel
theorem dX9_sums_22 : decode cX9_sums 22 = .ok (.aload_n 0, 1) := by decide +kernel
theorem dX9_sums_23 : decode cX9_sums 23 = .ok (.aload_n 0, 1) := by decide +kernel
theorem dX9_sums_24 : decode cX9_sums 24 = .ok (.getfield 13, 3) := by decide +kernel
theorem dX9_sums_27 : decode cX9_sums 27 = .ok (.iload_n 1, 1) := by decide +kernel
theorem dX9_sums_28 : decode cX9_sums 28 = .ok (.iaload, 1) := by decide +kernel
theorem dX9_sums_29 : decode cX9_sums 29 = .ok (.putfield 245, 3) := by decide +kernel
theorem dX9_sums_32 : decode cX9_sums 32 = .ok (.iconst 0, 1) := by decide +kernel
theorem dX9_sums_33 : decode cX9_sums 33 = .ok (.istore_n 3, 1) := by decide +kernel
theorem dX9_sums_34 : decode cX9_sums 34 = .ok (.iload_n 3, 1) := by decide +kernel
theorem dX9_sums_35 : decode cX9_sums 35 = .ok (.aload_n 0, 1) := by decide +kernel
theorem dX9_sums_36 : decode cX9_sums 36 = .ok (.getfield 85, 3) := by decide +kernel
theorem dX9_sums_39 : decode cX9_sums 39 = .ok (.if_icmp .ge 54, 3) := by decide +kernel
theorem dX9_sums_42 : decode cX9_sums 42 = .ok (.iconst 0, 1) := by decide +kernel
theorem dX9_sums_43 : decode cX9_sums 43 = .ok (.istore 4, 2) := by decide +kernel
theorem dX9_sums_45 : decode cX9_sums 45 = .ok (.iload 4, 2) := by decide +kernel
theorem dX9_sums_47 : decode cX9_sums 47 = .ok (.bipush 9, 2) := by decide +kernel
theorem dX9_sums_49 : decode cX9_sums 49 = .ok (.if_icmp .ge 38, 3) := by decide +kernel
theorem dX9_sums_52 : decode cX9_sums 52 = .ok (.aload_n 0, 1) := by decide +kernel
theorem dX9_sums_53 : decode cX9_sums 53 = .ok (.getfield 78, 3) := by decide +kernel
theorem dX9_sums_56 : decode cX9_sums 56 = .ok (.bipush 49, 2) := by decide +kernel
theorem dX9_sums_58 : decode cX9_sums 58 = .ok (.iload_n 3, 1) := by decide +kernel
theorem dX9_sums_59 : decode cX9_sums 59 = .ok (.imul, 1) := by decide +kernel
theorem dX9_sums_60 : decode cX9_sums 60 = .ok (.iload 4, 2) := by decide +kernel
theorem dX9_sums_62 : decode cX9_sums 62 = .ok (.iadd, 1) := by decide +kernel
theorem dX9_sums_63 : decode cX9_sums 63 = .ok (.aload_n 0, 1) := by decide +kernel
theorem dX9_sums_64 : decode cX9_sums 64 = .ok (.getfield 20, 3) := by decide +kernel
theorem dX9_sums_67 : decode cX9_sums 67 = .ok (.bipush 27, 2) := by decide +kernel
theorem dX9_sums_69 : decode cX9_sums 69 = .ok (.iload_n 3, 1) := by decide +kernel
theorem dX9_sums_70 : decode cX9_sums 70 = .ok (.imul, 1) := by decide +kernel
theorem dX9_sums_71 : decode cX9_sums 71 = .ok (.bipush 9, 2) := by decide +kernel
theorem dX9_sums_73 : decode cX9_sums 73 = .ok (.iload_n 1, 1) := by decide +kernel
theorem dX9_sums_74 : decode cX9_sums 74 = .ok (.imul, 1) := by decide +kernel
theorem dX9_sums_75 : decode cX9_sums 75 = .ok (.iadd, 1) := by decide +kernel
theorem dX9_sums_76 : decode cX9_sums 76 = .ok (.iload 4, 2) := by decide +kernel
theorem dX9_sums_78 : decode cX9_sums 78 = .ok (.iadd, 1) := by decide +kernel
theorem dX9_sums_79 : decode cX9_sums 79 = .ok (.iaload, 1) := by decide +kernel
theorem dX9_sums_80 : decode cX9_sums 80 = .ok (.iastore, 1) := by decide +kernel
theorem dX9_sums_81 : decode cX9_sums 81 = .ok (.iinc 4 1, 3) := by decide +kernel
theorem dX9_sums_84 : decode cX9_sums 84 = .ok (.goto (-39), 3) := by decide +kernel
theorem dX9_sums_87 : decode cX9_sums 87 = .ok (.iinc 3 1, 3) := by decide +kernel
theorem dX9_sums_90 : decode cX9_sums 90 = .ok (.goto (-56), 3) := by decide +kernel
theorem dX9_sums_93 : decode cX9_sums 93 = .ok (.iconst 0, 1) := by decide +kernel
theorem dX9_sums_94 : decode cX9_sums 94 = .ok (.istore_n 3, 1) := by decide +kernel
theorem dX9_sums_95 : decode cX9_sums 95 = .ok (.iload_n 2, 1) := by decide +kernel
theorem dX9_sums_96 : decode cX9_sums 96 = .ok (.iconst 1, 1) := by decide +kernel
theorem dX9_sums_97 : decode cX9_sums 97 = .ok (.if_icmp .ne 7, 3) := by decide +kernel
theorem dX9_sums_100 : decode cX9_sums 100 = .ok (.iconst 1, 1) := by decide +kernel
theorem dX9_sums_101 : decode cX9_sums 101 = .ok (.goto 4, 3) := by decide +kernel
theorem dX9_sums_104 : decode cX9_sums 104 = .ok (.iconst 0, 1) := by decide +kernel
theorem dX9_sums_105 : decode cX9_sums 105 = .ok (.istore 4, 2) := by decide +kernel
theorem dX9_sums_107 : decode cX9_sums 107 = .ok (.iload 4, 2) := by decide +kernel
theorem dX9_sums_109 : decode cX9_sums 109 = .ok (.ifCond .eq 31, 3) := by decide +kernel
theorem dX9_sums_112 : decode cX9_sums 112 = .ok (.iload_n 3, 1) := by decide +kernel
theorem dX9_sums_113 : decode cX9_sums 113 = .ok (.bipush 40, 2) := by decide +kernel
theorem dX9_sums_115 : decode cX9_sums 115 = .ok (.if_icmp .ge 25, 3) := by decide +kernel
theorem dX9_sums_118 : decode cX9_sums 118 = .ok (.aload_n 0, 1) := by decide +kernel
theorem dX9_sums_119 : decode cX9_sums 119 = .ok (.invokevirtual 251, 3) := by decide +kernel
theorem dX9_sums_122 : decode cX9_sums 122 = .ok (.istore 4, 2) := by decide +kernel
theorem dX9_sums_124 : decode cX9_sums 124 = .ok (.iload_n 3, 1) := by decide +kernel
theorem dX9_sums_125 : decode cX9_sums 125 = .ok (.iload 4, 2) := by decide +kernel
theorem dX9_sums_127 : decode cX9_sums 127 = .ok (.ifCond .eq 7, 3) := by decide +kernel
theorem dX9_sums_130 : decode cX9_sums 130 = .ok (.iconst 1, 1) := by decide +kernel
theorem dX9_sums_131 : decode cX9_sums 131 = .ok (.goto 4, 3) := by decide +kernel
theorem dX9_sums_134 : decode cX9_sums 134 = .ok (.iconst 0, 1) := by decide +kernel
theorem dX9_sums_135 : decode cX9_sums 135 = .ok (.iadd, 1) := by decide +kernel
theorem dX9_sums_136 : decode cX9_sums 136 = .ok (.istore_n 3, 1) := by decide +kernel
theorem dX9_sums_137 : decode cX9_sums 137 = .ok (.goto (-30), 3) := by decide +kernel
theorem dX9_sums_140 : decode cX9_sums 140 = .ok (.iload_n 3, 1) := by decide +kernel
theorem dX9_sums_141 : decode cX9_sums 141 = .ok (.aload_n 0, 1) := by decide +kernel
theorem dX9_sums_142 : decode cX9_sums 142 = .ok (.aload_n 0, 1) := by decide +kernel
theorem dX9_sums_143 : decode cX9_sums 143 = .ok (.getfield 245, 3) := by decide +kernel
theorem dX9_sums_146 : decode cX9_sums 146 = .ok (.invokevirtual 254, 3) := by decide +kernel
theorem dX9_sums_149 : decode cX9_sums 149 = .ok (.iadd, 1) := by decide +kernel
theorem dX9_sums_150 : decode cX9_sums 150 = .ok (.ireturn, 1) := by decide +kernel
theorem dX9_isKeep_0 : decode cX9_isKeep 0 = .ok (.iload_n 0, 1) := by decide +kernel
theorem dX9_isKeep_1 : decode cX9_isKeep 1 = .ok (.i2l, 1) := by decide +kernel
theorem dX9_isKeep_2 : decode cX9_isKeep 2 = .ok (.lconst 0, 1) := by decide +kernel
theorem dX9_isKeep_3 : decode cX9_isKeep 3 = .ok (.ldc2_w 188, 3) := by decide +kernel
theorem dX9_isKeep_6 : decode cX9_isKeep 6 = .ok (.invokestatic 97, 3) := by decide +kernel
theorem dX9_isKeep_9 : decode cX9_isKeep 9 = .ok (.ireturn, 1) := by decide +kernel
theorem dX9_keep_0 : decode cX9_keep 0 = .ok (.iload_n 1, 1) := by decide +kernel
theorem dX9_keep_1 : decode cX9_keep 1 = .ok (.invokestatic 257, 3) := by decide +kernel
theorem dX9_keep_4 : decode cX9_keep 4 = .ok (.ifCond .ne 5, 3) := by decide +kernel
theorem dX9_keep_7 : decode cX9_keep 7 = .ok (.iconst (-1), 1) := by decide +kernel
theorem dX9_keep_8 : decode cX9_keep 8 = .ok (.ireturn, 1) := by decide +kernel
theorem dX9_keep_9 : decode cX9_keep 9 = .ok (.aload_n 0, 1) := by decide +kernel
theorem dX9_keep_10 : decode cX9_keep 10 = .ok (.getfield 26, 3) := by decide +kernel
theorem dX9_keep_13 : decode cX9_keep 13 = .ok (.iload_n 1, 1) := by decide +kernel
theorem dX9_keep_14 : decode cX9_keep 14 = .ok (.iconst 1, 1) := by decide +kernel
theorem dX9_keep_15 : decode cX9_keep 15 = .ok (.bastore, 1) := by decide +kernel
theorem dX9_keep_16 : decode cX9_keep 16 = .ok (.aload_n 0, 1) := by decide +kernel
theorem dX9_keep_17 : decode cX9_keep 17 = .ok (.getfield 39, 3) := by decide +kernel
theorem dX9_keep_20 : decode cX9_keep 20 = .ok (.iload_n 1, 1) := by decide +kernel
theorem dX9_keep_21 : decode cX9_keep 21 = .ok (.aload_n 0, 1) := by decide +kernel
theorem dX9_keep_22 : decode cX9_keep 22 = .ok (.getfield 85, 3) := by decide +kernel
theorem dX9_keep_25 : decode cX9_keep 25 = .ok (.iastore, 1) := by decide +kernel
theorem dX9_keep_26 : decode cX9_keep 26 = .ok (.iconst 0, 1) := by decide +kernel
theorem dX9_keep_27 : decode cX9_keep 27 = .ok (.istore_n 2, 1) := by decide +kernel
theorem dX9_keep_28 : decode cX9_keep 28 = .ok (.iload_n 2, 1) := by decide +kernel
theorem dX9_keep_29 : decode cX9_keep 29 = .ok (.iconst 3, 1) := by decide +kernel
theorem dX9_keep_30 : decode cX9_keep 30 = .ok (.if_icmp .ge 25, 3) := by decide +kernel
theorem dX9_keep_33 : decode cX9_keep 33 = .ok (.aload_n 0, 1) := by decide +kernel
theorem dX9_keep_34 : decode cX9_keep 34 = .ok (.getfield 30, 3) := by decide +kernel
theorem dX9_keep_37 : decode cX9_keep 37 = .ok (.iconst 3, 1) := by decide +kernel
theorem dX9_keep_38 : decode cX9_keep 38 = .ok (.iload_n 1, 1) := by decide +kernel
theorem dX9_keep_39 : decode cX9_keep 39 = .ok (.imul, 1) := by decide +kernel
theorem dX9_keep_40 : decode cX9_keep 40 = .ok (.iload_n 2, 1) := by decide +kernel
theorem dX9_keep_41 : decode cX9_keep 41 = .ok (.iadd, 1) := by decide +kernel
theorem dX9_keep_42 : decode cX9_keep 42 = .ok (.aload_n 0, 1) := by decide +kernel
theorem dX9_keep_43 : decode cX9_keep 43 = .ok (.getfield 13, 3) := by decide +kernel
theorem dX9_keep_46 : decode cX9_keep 46 = .ok (.iload_n 2, 1) := by decide +kernel
theorem dX9_keep_47 : decode cX9_keep 47 = .ok (.iaload, 1) := by decide +kernel
theorem dX9_keep_48 : decode cX9_keep 48 = .ok (.iastore, 1) := by decide +kernel
theorem dX9_keep_49 : decode cX9_keep 49 = .ok (.iinc 2 1, 3) := by decide +kernel
theorem dX9_keep_52 : decode cX9_keep 52 = .ok (.goto (-24), 3) := by decide +kernel
theorem dX9_keep_55 : decode cX9_keep 55 = .ok (.iconst 0, 1) := by decide +kernel
theorem dX9_keep_56 : decode cX9_keep 56 = .ok (.istore_n 2, 1) := by decide +kernel
theorem dX9_keep_57 : decode cX9_keep 57 = .ok (.iload_n 2, 1) := by decide +kernel
theorem dX9_keep_58 : decode cX9_keep 58 = .ok (.sipush 729, 3) := by decide +kernel
theorem dX9_keep_61 : decode cX9_keep 61 = .ok (.if_icmp .ge 27, 3) := by decide +kernel
theorem dX9_keep_64 : decode cX9_keep 64 = .ok (.aload_n 0, 1) := by decide +kernel
theorem dX9_keep_65 : decode cX9_keep 65 = .ok (.getfield 33, 3) := by decide +kernel
theorem dX9_keep_68 : decode cX9_keep 68 = .ok (.sipush 729, 3) := by decide +kernel
theorem dX9_keep_71 : decode cX9_keep 71 = .ok (.iload_n 1, 1) := by decide +kernel
theorem dX9_keep_72 : decode cX9_keep 72 = .ok (.imul, 1) := by decide +kernel
theorem dX9_keep_73 : decode cX9_keep 73 = .ok (.iload_n 2, 1) := by decide +kernel
theorem dX9_keep_74 : decode cX9_keep 74 = .ok (.iadd, 1) := by decide +kernel
theorem dX9_keep_75 : decode cX9_keep 75 = .ok (.aload_n 0, 1) := by decide +kernel
theorem dX9_keep_76 : decode cX9_keep 76 = .ok (.getfield 17, 3) := by decide +kernel
theorem dX9_keep_79 : decode cX9_keep 79 = .ok (.iload_n 2, 1) := by decide +kernel
theorem dX9_keep_80 : decode cX9_keep 80 = .ok (.iaload, 1) := by decide +kernel
theorem dX9_keep_81 : decode cX9_keep 81 = .ok (.iastore, 1) := by decide +kernel
theorem dX9_keep_82 : decode cX9_keep 82 = .ok (.iinc 2 1, 3) := by decide +kernel
theorem dX9_keep_85 : decode cX9_keep 85 = .ok (.goto (-28), 3) := by decide +kernel
theorem dX9_keep_88 : decode cX9_keep 88 = .ok (.iconst 0, 1) := by decide +kernel
theorem dX9_keep_89 : decode cX9_keep 89 = .ok (.istore_n 2, 1) := by decide +kernel
theorem dX9_keep_90 : decode cX9_keep 90 = .ok (.iload_n 2, 1) := by decide +kernel
theorem dX9_keep_91 : decode cX9_keep 91 = .ok (.bipush 27, 2) := by decide +kernel
theorem dX9_keep_93 : decode cX9_keep 93 = .ok (.aload_n 0, 1) := by decide +kernel
theorem dX9_keep_94 : decode cX9_keep 94 = .ok (.getfield 85, 3) := by decide +kernel
theorem dX9_keep_97 : decode cX9_keep 97 = .ok (.imul, 1) := by decide +kernel
theorem dX9_keep_98 : decode cX9_keep 98 = .ok (.if_icmp .ge 27, 3) := by decide +kernel
theorem dX9_keep_101 : decode cX9_keep 101 = .ok (.aload_n 0, 1) := by decide +kernel
theorem dX9_keep_102 : decode cX9_keep 102 = .ok (.getfield 36, 3) := by decide +kernel
theorem dX9_keep_105 : decode cX9_keep 105 = .ok (.sipush 1080, 3) := by decide +kernel
theorem dX9_keep_108 : decode cX9_keep 108 = .ok (.iload_n 1, 1) := by decide +kernel
theorem dX9_keep_109 : decode cX9_keep 109 = .ok (.imul, 1) := by decide +kernel
theorem dX9_keep_110 : decode cX9_keep 110 = .ok (.iload_n 2, 1) := by decide +kernel
theorem dX9_keep_111 : decode cX9_keep 111 = .ok (.iadd, 1) := by decide +kernel
theorem dX9_keep_112 : decode cX9_keep 112 = .ok (.aload_n 0, 1) := by decide +kernel
theorem dX9_keep_113 : decode cX9_keep 113 = .ok (.getfield 20, 3) := by decide +kernel
theorem dX9_keep_116 : decode cX9_keep 116 = .ok (.iload_n 2, 1) := by decide +kernel
theorem dX9_keep_117 : decode cX9_keep 117 = .ok (.iaload, 1) := by decide +kernel
theorem dX9_keep_118 : decode cX9_keep 118 = .ok (.iastore, 1) := by decide +kernel
theorem dX9_keep_119 : decode cX9_keep 119 = .ok (.iinc 2 1, 3) := by decide +kernel
theorem dX9_keep_122 : decode cX9_keep 122 = .ok (.goto (-32), 3) := by decide +kernel
theorem dX9_keep_125 : decode cX9_keep 125 = .ok (.iconst 1, 1) := by decide +kernel
theorem dX9_keep_126 : decode cX9_keep 126 = .ok (.ireturn, 1) := by decide +kernel
theorem dX9_back_0 : decode cX9_back 0 = .ok (.iload_n 1, 1) := by decide +kernel
theorem dX9_back_1 : decode cX9_back 1 = .ok (.invokestatic 257, 3) := by decide +kernel
theorem dX9_back_4 : decode cX9_back 4 = .ok (.ifCond .ne 5, 3) := by decide +kernel
theorem dX9_back_7 : decode cX9_back 7 = .ok (.iconst (-1), 1) := by decide +kernel
theorem dX9_back_8 : decode cX9_back 8 = .ok (.ireturn, 1) := by decide +kernel
theorem dX9_back_9 : decode cX9_back 9 = .ok (.aload_n 0, 1) := by decide +kernel
theorem dX9_back_10 : decode cX9_back 10 = .ok (.getfield 26, 3) := by decide +kernel
theorem dX9_back_13 : decode cX9_back 13 = .ok (.iload_n 1, 1) := by decide +kernel
theorem dX9_back_14 : decode cX9_back 14 = .ok (.baload, 1) := by decide +kernel
theorem dX9_back_15 : decode cX9_back 15 = .ok (.ifCond .ne 6, 3) := by decide +kernel
theorem dX9_back_18 : decode cX9_back 18 = .ok (.bipush (-4), 2) := by decide +kernel
theorem dX9_back_20 : decode cX9_back 20 = .ok (.ireturn, 1) := by decide +kernel
theorem dX9_back_21 : decode cX9_back 21 = .ok (.aload_n 0, 1) := by decide +kernel
theorem dX9_back_22 : decode cX9_back 22 = .ok (.aload_n 0, 1) := by decide +kernel
theorem dX9_back_23 : decode cX9_back 23 = .ok (.getfield 30, 3) := by decide +kernel
theorem dX9_back_26 : decode cX9_back 26 = .ok (.iconst 3, 1) := by decide +kernel
theorem dX9_back_27 : decode cX9_back 27 = .ok (.iload_n 1, 1) := by decide +kernel
theorem dX9_back_28 : decode cX9_back 28 = .ok (.imul, 1) := by decide +kernel
theorem dX9_back_29 : decode cX9_back 29 = .ok (.iaload, 1) := by decide +kernel
theorem dX9_back_30 : decode cX9_back 30 = .ok (.aload_n 0, 1) := by decide +kernel
theorem dX9_back_31 : decode cX9_back 31 = .ok (.getfield 30, 3) := by decide +kernel
theorem dX9_back_34 : decode cX9_back 34 = .ok (.iconst 3, 1) := by decide +kernel
theorem dX9_back_35 : decode cX9_back 35 = .ok (.iload_n 1, 1) := by decide +kernel
theorem dX9_back_36 : decode cX9_back 36 = .ok (.imul, 1) := by decide +kernel
theorem dX9_back_37 : decode cX9_back 37 = .ok (.iconst 1, 1) := by decide +kernel
theorem dX9_back_38 : decode cX9_back 38 = .ok (.iadd, 1) := by decide +kernel
theorem dX9_back_39 : decode cX9_back 39 = .ok (.iaload, 1) := by decide +kernel
theorem dX9_back_40 : decode cX9_back 40 = .ok (.aload_n 0, 1) := by decide +kernel
theorem dX9_back_41 : decode cX9_back 41 = .ok (.getfield 30, 3) := by decide +kernel
theorem dX9_back_44 : decode cX9_back 44 = .ok (.iconst 3, 1) := by decide +kernel
theorem dX9_back_45 : decode cX9_back 45 = .ok (.iload_n 1, 1) := by decide +kernel
theorem dX9_back_46 : decode cX9_back 46 = .ok (.imul, 1) := by decide +kernel
theorem dX9_back_47 : decode cX9_back 47 = .ok (.iconst 2, 1) := by decide +kernel
theorem dX9_back_48 : decode cX9_back 48 = .ok (.iadd, 1) := by decide +kernel
theorem dX9_back_49 : decode cX9_back 49 = .ok (.iaload, 1) := by decide +kernel
theorem dX9_back_50 : decode cX9_back 50 = .ok (.invokevirtual 81, 3) := by decide +kernel
theorem dX9_back_53 : decode cX9_back 53 = .ok (.aload_n 0, 1) := by decide +kernel
theorem dX9_back_54 : decode cX9_back 54 = .ok (.aload_n 0, 1) := by decide +kernel
theorem dX9_back_55 : decode cX9_back 55 = .ok (.getfield 39, 3) := by decide +kernel
theorem dX9_back_58 : decode cX9_back 58 = .ok (.iload_n 1, 1) := by decide +kernel
theorem dX9_back_59 : decode cX9_back 59 = .ok (.iaload, 1) := by decide +kernel
theorem dX9_back_60 : decode cX9_back 60 = .ok (.putfield 85, 3) := by decide +kernel
theorem dX9_back_63 : decode cX9_back 63 = .ok (.iconst 0, 1) := by decide +kernel
theorem dX9_back_64 : decode cX9_back 64 = .ok (.istore_n 2, 1) := by decide +kernel
theorem dX9_back_65 : decode cX9_back 65 = .ok (.iload_n 2, 1) := by decide +kernel
theorem dX9_back_66 : decode cX9_back 66 = .ok (.sipush 729, 3) := by decide +kernel
theorem dX9_back_69 : decode cX9_back 69 = .ok (.if_icmp .ge 27, 3) := by decide +kernel
theorem dX9_back_72 : decode cX9_back 72 = .ok (.aload_n 0, 1) := by decide +kernel
theorem dX9_back_73 : decode cX9_back 73 = .ok (.getfield 17, 3) := by decide +kernel
theorem dX9_back_76 : decode cX9_back 76 = .ok (.iload_n 2, 1) := by decide +kernel
theorem dX9_back_77 : decode cX9_back 77 = .ok (.aload_n 0, 1) := by decide +kernel
theorem dX9_back_78 : decode cX9_back 78 = .ok (.getfield 33, 3) := by decide +kernel
theorem dX9_back_81 : decode cX9_back 81 = .ok (.sipush 729, 3) := by decide +kernel
theorem dX9_back_84 : decode cX9_back 84 = .ok (.iload_n 1, 1) := by decide +kernel
theorem dX9_back_85 : decode cX9_back 85 = .ok (.imul, 1) := by decide +kernel
theorem dX9_back_86 : decode cX9_back 86 = .ok (.iload_n 2, 1) := by decide +kernel
theorem dX9_back_87 : decode cX9_back 87 = .ok (.iadd, 1) := by decide +kernel
theorem dX9_back_88 : decode cX9_back 88 = .ok (.iaload, 1) := by decide +kernel
theorem dX9_back_89 : decode cX9_back 89 = .ok (.iastore, 1) := by decide +kernel
theorem dX9_back_90 : decode cX9_back 90 = .ok (.iinc 2 1, 3) := by decide +kernel
theorem dX9_back_93 : decode cX9_back 93 = .ok (.goto (-28), 3) := by decide +kernel
theorem dX9_back_96 : decode cX9_back 96 = .ok (.iconst 0, 1) := by decide +kernel
theorem dX9_back_97 : decode cX9_back 97 = .ok (.istore_n 2, 1) := by decide +kernel
theorem dX9_back_98 : decode cX9_back 98 = .ok (.iload_n 2, 1) := by decide +kernel
theorem dX9_back_99 : decode cX9_back 99 = .ok (.bipush 27, 2) := by decide +kernel
theorem dX9_back_101 : decode cX9_back 101 = .ok (.aload_n 0, 1) := by decide +kernel
theorem dX9_back_102 : decode cX9_back 102 = .ok (.getfield 85, 3) := by decide +kernel
theorem dX9_back_105 : decode cX9_back 105 = .ok (.imul, 1) := by decide +kernel
theorem dX9_back_106 : decode cX9_back 106 = .ok (.if_icmp .ge 27, 3) := by decide +kernel
theorem dX9_back_109 : decode cX9_back 109 = .ok (.aload_n 0, 1) := by decide +kernel
theorem dX9_back_110 : decode cX9_back 110 = .ok (.getfield 20, 3) := by decide +kernel
theorem dX9_back_113 : decode cX9_back 113 = .ok (.iload_n 2, 1) := by decide +kernel
theorem dX9_back_114 : decode cX9_back 114 = .ok (.aload_n 0, 1) := by decide +kernel
theorem dX9_back_115 : decode cX9_back 115 = .ok (.getfield 36, 3) := by decide +kernel
theorem dX9_back_118 : decode cX9_back 118 = .ok (.sipush 1080, 3) := by decide +kernel
theorem dX9_back_121 : decode cX9_back 121 = .ok (.iload_n 1, 1) := by decide +kernel
theorem dX9_back_122 : decode cX9_back 122 = .ok (.imul, 1) := by decide +kernel
theorem dX9_back_123 : decode cX9_back 123 = .ok (.iload_n 2, 1) := by decide +kernel
theorem dX9_back_124 : decode cX9_back 124 = .ok (.iadd, 1) := by decide +kernel
theorem dX9_back_125 : decode cX9_back 125 = .ok (.iaload, 1) := by decide +kernel
theorem dX9_back_126 : decode cX9_back 126 = .ok (.iastore, 1) := by decide +kernel
theorem dX9_back_127 : decode cX9_back 127 = .ok (.iinc 2 1, 3) := by decide +kernel
theorem dX9_back_130 : decode cX9_back 130 = .ok (.goto (-32), 3) := by decide +kernel
theorem dX9_back_133 : decode cX9_back 133 = .ok (.iconst 1, 1) := by decide +kernel
theorem dX9_back_134 : decode cX9_back 134 = .ok (.ireturn, 1) := by decide +kernel
theorem dX9_beside_0 : decode cX9_beside 0 = .ok (.iload_n 1, 1) := by decide +kernel
theorem dX9_beside_1 : decode cX9_beside 1 = .ok (.invokestatic 257, 3) := by decide +kernel
theorem dX9_beside_4 : decode cX9_beside 4 = .ok (.ifCond .ne 5, 3) := by decide +kernel
theorem dX9_beside_7 : decode cX9_beside 7 = .ok (.iconst (-1), 1) := by decide +kernel
theorem dX9_beside_8 : decode cX9_beside 8 = .ok (.ireturn, 1) := by decide +kernel
theorem dX9_beside_9 : decode cX9_beside 9 = .ok (.aload_n 0, 1) := by decide +kernel
theorem dX9_beside_10 : decode cX9_beside 10 = .ok (.getfield 26, 3) := by decide +kernel
theorem dX9_beside_13 : decode cX9_beside 13 = .ok (.iload_n 1, 1) := by decide +kernel
theorem dX9_beside_14 : decode cX9_beside 14 = .ok (.baload, 1) := by decide +kernel
theorem dX9_beside_15 : decode cX9_beside 15 = .ok (.ifCond .ne 6, 3) := by decide +kernel
theorem dX9_beside_18 : decode cX9_beside 18 = .ok (.bipush (-4), 2) := by decide +kernel
theorem dX9_beside_20 : decode cX9_beside 20 = .ok (.ireturn, 1) := by decide +kernel
theorem dX9_beside_21 : decode cX9_beside 21 = .ok (.aload_n 0, 1) := by decide +kernel
theorem dX9_beside_22 : decode cX9_beside 22 = .ok (.getfield 30, 3) := by decide +kernel
theorem dX9_beside_25 : decode cX9_beside 25 = .ok (.astore_n 2, 1) := by decide +kernel
theorem dX9_beside_26 : decode cX9_beside 26 = .ok (.aload_n 0, 1) := by decide +kernel
theorem dX9_beside_27 : decode cX9_beside 27 = .ok (.getfield 13, 3) := by decide +kernel
theorem dX9_beside_30 : decode cX9_beside 30 = .ok (.iconst 0, 1) := by decide +kernel
theorem dX9_beside_31 : decode cX9_beside 31 = .ok (.iaload, 1) := by decide +kernel
theorem dX9_beside_32 : decode cX9_beside 32 = .ok (.aload_n 2, 1) := by decide +kernel
theorem dX9_beside_33 : decode cX9_beside 33 = .ok (.iconst 3, 1) := by decide +kernel
theorem dX9_beside_34 : decode cX9_beside 34 = .ok (.iload_n 1, 1) := by decide +kernel
theorem dX9_beside_35 : decode cX9_beside 35 = .ok (.imul, 1) := by decide +kernel
theorem dX9_beside_36 : decode cX9_beside 36 = .ok (.iaload, 1) := by decide +kernel
theorem dX9_beside_37 : decode cX9_beside 37 = .ok (.iadd, 1) := by decide +kernel
theorem dX9_beside_38 : decode cX9_beside 38 = .ok (.aload_n 0, 1) := by decide +kernel
theorem dX9_beside_39 : decode cX9_beside 39 = .ok (.getfield 13, 3) := by decide +kernel
theorem dX9_beside_42 : decode cX9_beside 42 = .ok (.iconst 1, 1) := by decide +kernel
theorem dX9_beside_43 : decode cX9_beside 43 = .ok (.iaload, 1) := by decide +kernel
theorem dX9_beside_44 : decode cX9_beside 44 = .ok (.aload_n 2, 1) := by decide +kernel
theorem dX9_beside_45 : decode cX9_beside 45 = .ok (.iconst 3, 1) := by decide +kernel
theorem dX9_beside_46 : decode cX9_beside 46 = .ok (.iload_n 1, 1) := by decide +kernel
theorem dX9_beside_47 : decode cX9_beside 47 = .ok (.imul, 1) := by decide +kernel
theorem dX9_beside_48 : decode cX9_beside 48 = .ok (.iconst 1, 1) := by decide +kernel
theorem dX9_beside_49 : decode cX9_beside 49 = .ok (.iadd, 1) := by decide +kernel
theorem dX9_beside_50 : decode cX9_beside 50 = .ok (.iaload, 1) := by decide +kernel
theorem dX9_beside_51 : decode cX9_beside 51 = .ok (.iadd, 1) := by decide +kernel
theorem dX9_beside_52 : decode cX9_beside 52 = .ok (.aload_n 0, 1) := by decide +kernel
theorem dX9_beside_53 : decode cX9_beside 53 = .ok (.getfield 13, 3) := by decide +kernel
theorem dX9_beside_56 : decode cX9_beside 56 = .ok (.iconst 2, 1) := by decide +kernel
theorem dX9_beside_57 : decode cX9_beside 57 = .ok (.iaload, 1) := by decide +kernel
theorem dX9_beside_58 : decode cX9_beside 58 = .ok (.aload_n 2, 1) := by decide +kernel
theorem dX9_beside_59 : decode cX9_beside 59 = .ok (.iconst 3, 1) := by decide +kernel
theorem dX9_beside_60 : decode cX9_beside 60 = .ok (.iload_n 1, 1) := by decide +kernel
theorem dX9_beside_61 : decode cX9_beside 61 = .ok (.imul, 1) := by decide +kernel
theorem dX9_beside_62 : decode cX9_beside 62 = .ok (.iconst 2, 1) := by decide +kernel
theorem dX9_beside_63 : decode cX9_beside 63 = .ok (.iadd, 1) := by decide +kernel
theorem dX9_beside_64 : decode cX9_beside 64 = .ok (.iaload, 1) := by decide +kernel
theorem dX9_beside_65 : decode cX9_beside 65 = .ok (.iadd, 1) := by decide +kernel
theorem dX9_beside_66 : decode cX9_beside 66 = .ok (.invokestatic 101, 3) := by decide +kernel
theorem dX9_beside_69 : decode cX9_beside 69 = .ok (.ifCond .ne 6, 3) := by decide +kernel
theorem dX9_beside_72 : decode cX9_beside 72 = .ok (.bipush (-3), 2) := by decide +kernel
theorem dX9_beside_74 : decode cX9_beside 74 = .ok (.ireturn, 1) := by decide +kernel
theorem dX9_beside_75 : decode cX9_beside 75 = .ok (.aload_n 0, 1) := by decide +kernel
theorem dX9_beside_76 : decode cX9_beside 76 = .ok (.getfield 85, 3) := by decide +kernel
theorem dX9_beside_79 : decode cX9_beside 79 = .ok (.aload_n 0, 1) := by decide +kernel
theorem dX9_beside_80 : decode cX9_beside 80 = .ok (.getfield 39, 3) := by decide +kernel
theorem dX9_beside_83 : decode cX9_beside 83 = .ok (.iload_n 1, 1) := by decide +kernel
theorem dX9_beside_84 : decode cX9_beside 84 = .ok (.iaload, 1) := by decide +kernel
theorem dX9_beside_85 : decode cX9_beside 85 = .ok (.iadd, 1) := by decide +kernel
theorem dX9_beside_86 : decode cX9_beside 86 = .ok (.bipush 40, 2) := by decide +kernel
theorem dX9_beside_88 : decode cX9_beside 88 = .ok (.if_icmp .le 6, 3) := by decide +kernel
theorem dX9_beside_91 : decode cX9_beside 91 = .ok (.bipush (-2), 2) := by decide +kernel
theorem dX9_beside_93 : decode cX9_beside 93 = .ok (.ireturn, 1) := by decide +kernel
theorem dX9_beside_94 : decode cX9_beside 94 = .ok (.iconst 0, 1) := by decide +kernel
theorem dX9_beside_95 : decode cX9_beside 95 = .ok (.istore_n 3, 1) := by decide +kernel
theorem dX9_beside_96 : decode cX9_beside 96 = .ok (.iload_n 3, 1) := by decide +kernel
theorem dX9_beside_97 : decode cX9_beside 97 = .ok (.aload_n 2, 1) := by decide +kernel
theorem dX9_beside_98 : decode cX9_beside 98 = .ok (.iconst 3, 1) := by decide +kernel
theorem dX9_beside_99 : decode cX9_beside 99 = .ok (.iload_n 1, 1) := by decide +kernel
theorem dX9_beside_100 : decode cX9_beside 100 = .ok (.imul, 1) := by decide +kernel
theorem dX9_beside_101 : decode cX9_beside 101 = .ok (.iaload, 1) := by decide +kernel
theorem dX9_beside_102 : decode cX9_beside 102 = .ok (.if_icmp .ge 114, 3) := by decide +kernel
theorem dX9_beside_105 : decode cX9_beside 105 = .ok (.iconst 0, 1) := by decide +kernel
theorem dX9_beside_106 : decode cX9_beside 106 = .ok (.istore 4, 2) := by decide +kernel
theorem dX9_beside_108 : decode cX9_beside 108 = .ok (.iload 4, 2) := by decide +kernel
theorem dX9_beside_110 : decode cX9_beside 110 = .ok (.aload_n 2, 1) := by decide +kernel
theorem dX9_beside_111 : decode cX9_beside 111 = .ok (.iconst 3, 1) := by decide +kernel
theorem dX9_beside_112 : decode cX9_beside 112 = .ok (.iload_n 1, 1) := by decide +kernel
theorem dX9_beside_113 : decode cX9_beside 113 = .ok (.imul, 1) := by decide +kernel
theorem dX9_beside_114 : decode cX9_beside 114 = .ok (.iconst 1, 1) := by decide +kernel
theorem dX9_beside_115 : decode cX9_beside 115 = .ok (.iadd, 1) := by decide +kernel
theorem dX9_beside_116 : decode cX9_beside 116 = .ok (.iaload, 1) := by decide +kernel
theorem dX9_beside_117 : decode cX9_beside 117 = .ok (.if_icmp .ge 93, 3) := by decide +kernel
theorem dX9_beside_120 : decode cX9_beside 120 = .ok (.iconst 0, 1) := by decide +kernel
theorem dX9_beside_121 : decode cX9_beside 121 = .ok (.istore 5, 2) := by decide +kernel
theorem dX9_beside_123 : decode cX9_beside 123 = .ok (.iload 5, 2) := by decide +kernel
theorem dX9_beside_125 : decode cX9_beside 125 = .ok (.aload_n 2, 1) := by decide +kernel
theorem dX9_beside_126 : decode cX9_beside 126 = .ok (.iconst 3, 1) := by decide +kernel
theorem dX9_beside_127 : decode cX9_beside 127 = .ok (.iload_n 1, 1) := by decide +kernel
theorem dX9_beside_128 : decode cX9_beside 128 = .ok (.imul, 1) := by decide +kernel
theorem dX9_beside_129 : decode cX9_beside 129 = .ok (.iconst 2, 1) := by decide +kernel
theorem dX9_beside_130 : decode cX9_beside 130 = .ok (.iadd, 1) := by decide +kernel
theorem dX9_beside_131 : decode cX9_beside 131 = .ok (.iaload, 1) := by decide +kernel
theorem dX9_beside_132 : decode cX9_beside 132 = .ok (.if_icmp .ge 72, 3) := by decide +kernel
theorem dX9_beside_135 : decode cX9_beside 135 = .ok (.aload_n 0, 1) := by decide +kernel
theorem dX9_beside_136 : decode cX9_beside 136 = .ok (.getfield 17, 3) := by decide +kernel
theorem dX9_beside_139 : decode cX9_beside 139 = .ok (.bipush 81, 2) := by decide +kernel
theorem dX9_beside_141 : decode cX9_beside 141 = .ok (.aload_n 0, 1) := by decide +kernel
theorem dX9_beside_142 : decode cX9_beside 142 = .ok (.getfield 13, 3) := by decide +kernel
theorem dX9_beside_145 : decode cX9_beside 145 = .ok (.iconst 0, 1) := by decide +kernel
theorem dX9_beside_146 : decode cX9_beside 146 = .ok (.iaload, 1) := by decide +kernel
theorem dX9_beside_147 : decode cX9_beside 147 = .ok (.iload_n 3, 1) := by decide +kernel
theorem dX9_beside_148 : decode cX9_beside 148 = .ok (.iadd, 1) := by decide +kernel
theorem dX9_beside_149 : decode cX9_beside 149 = .ok (.imul, 1) := by decide +kernel
theorem dX9_beside_150 : decode cX9_beside 150 = .ok (.bipush 9, 2) := by decide +kernel
theorem dX9_beside_152 : decode cX9_beside 152 = .ok (.aload_n 0, 1) := by decide +kernel
theorem dX9_beside_153 : decode cX9_beside 153 = .ok (.getfield 13, 3) := by decide +kernel
theorem dX9_beside_156 : decode cX9_beside 156 = .ok (.iconst 1, 1) := by decide +kernel
theorem dX9_beside_157 : decode cX9_beside 157 = .ok (.iaload, 1) := by decide +kernel
theorem dX9_beside_158 : decode cX9_beside 158 = .ok (.iload 4, 2) := by decide +kernel
theorem dX9_beside_160 : decode cX9_beside 160 = .ok (.iadd, 1) := by decide +kernel
theorem dX9_beside_161 : decode cX9_beside 161 = .ok (.imul, 1) := by decide +kernel
theorem dX9_beside_162 : decode cX9_beside 162 = .ok (.iadd, 1) := by decide +kernel
theorem dX9_beside_163 : decode cX9_beside 163 = .ok (.aload_n 0, 1) := by decide +kernel
theorem dX9_beside_164 : decode cX9_beside 164 = .ok (.getfield 13, 3) := by decide +kernel
theorem dX9_beside_167 : decode cX9_beside 167 = .ok (.iconst 2, 1) := by decide +kernel
theorem dX9_beside_168 : decode cX9_beside 168 = .ok (.iaload, 1) := by decide +kernel
theorem dX9_beside_169 : decode cX9_beside 169 = .ok (.iadd, 1) := by decide +kernel
theorem dX9_beside_170 : decode cX9_beside 170 = .ok (.iload 5, 2) := by decide +kernel
theorem dX9_beside_172 : decode cX9_beside 172 = .ok (.iadd, 1) := by decide +kernel
theorem dX9_beside_173 : decode cX9_beside 173 = .ok (.aload_n 0, 1) := by decide +kernel
theorem dX9_beside_174 : decode cX9_beside 174 = .ok (.getfield 33, 3) := by decide +kernel
theorem dX9_beside_177 : decode cX9_beside 177 = .ok (.sipush 729, 3) := by decide +kernel
theorem dX9_beside_180 : decode cX9_beside 180 = .ok (.iload_n 1, 1) := by decide +kernel
theorem dX9_beside_181 : decode cX9_beside 181 = .ok (.imul, 1) := by decide +kernel
theorem dX9_beside_182 : decode cX9_beside 182 = .ok (.bipush 81, 2) := by decide +kernel
theorem dX9_beside_184 : decode cX9_beside 184 = .ok (.iload_n 3, 1) := by decide +kernel
theorem dX9_beside_185 : decode cX9_beside 185 = .ok (.imul, 1) := by decide +kernel
theorem dX9_beside_186 : decode cX9_beside 186 = .ok (.iadd, 1) := by decide +kernel
theorem dX9_beside_187 : decode cX9_beside 187 = .ok (.bipush 9, 2) := by decide +kernel
theorem dX9_beside_189 : decode cX9_beside 189 = .ok (.iload 4, 2) := by decide +kernel
theorem dX9_beside_191 : decode cX9_beside 191 = .ok (.imul, 1) := by decide +kernel
theorem dX9_beside_192 : decode cX9_beside 192 = .ok (.iadd, 1) := by decide +kernel
theorem dX9_beside_193 : decode cX9_beside 193 = .ok (.iload 5, 2) := by decide +kernel
theorem dX9_beside_195 : decode cX9_beside 195 = .ok (.iadd, 1) := by decide +kernel
theorem dX9_beside_196 : decode cX9_beside 196 = .ok (.iaload, 1) := by decide +kernel
theorem dX9_beside_197 : decode cX9_beside 197 = .ok (.iastore, 1) := by decide +kernel
theorem dX9_beside_198 : decode cX9_beside 198 = .ok (.iinc 5 1, 3) := by decide +kernel
theorem dX9_beside_201 : decode cX9_beside 201 = .ok (.goto (-78), 3) := by decide +kernel
theorem dX9_beside_204 : decode cX9_beside 204 = .ok (.iinc 4 1, 3) := by decide +kernel
theorem dX9_beside_207 : decode cX9_beside 207 = .ok (.goto (-99), 3) := by decide +kernel
theorem dX9_beside_210 : decode cX9_beside 210 = .ok (.iinc 3 1, 3) := by decide +kernel
theorem dX9_beside_213 : decode cX9_beside 213 = .ok (.goto (-117), 3) := by decide +kernel
theorem dX9_beside_216 : decode cX9_beside 216 = .ok (.iconst 0, 1) := by decide +kernel
theorem dX9_beside_217 : decode cX9_beside 217 = .ok (.istore_n 3, 1) := by decide +kernel
theorem dX9_beside_218 : decode cX9_beside 218 = .ok (.iload_n 3, 1) := by decide +kernel
theorem dX9_beside_219 : decode cX9_beside 219 = .ok (.aload_n 0, 1) := by decide +kernel
theorem dX9_beside_220 : decode cX9_beside 220 = .ok (.getfield 39, 3) := by decide +kernel
theorem dX9_beside_223 : decode cX9_beside 223 = .ok (.iload_n 1, 1) := by decide +kernel
theorem dX9_beside_224 : decode cX9_beside 224 = .ok (.iaload, 1) := by decide +kernel
theorem dX9_beside_225 : decode cX9_beside 225 = .ok (.if_icmp .ge 135, 3) := by decide +kernel
theorem dX9_beside_228 : decode cX9_beside 228 = .ok (.iconst 0, 1) := by decide +kernel
theorem dX9_beside_229 : decode cX9_beside 229 = .ok (.istore 4, 2) := by decide +kernel
theorem dX9_beside_231 : decode cX9_beside 231 = .ok (.iload 4, 2) := by decide +kernel
theorem dX9_beside_233 : decode cX9_beside 233 = .ok (.bipush 27, 2) := by decide +kernel
theorem dX9_beside_235 : decode cX9_beside 235 = .ok (.if_icmp .ge 27, 3) := by decide +kernel
theorem dX9_beside_238 : decode cX9_beside 238 = .ok (.aload_n 0, 1) := by decide +kernel
theorem dX9_beside_239 : decode cX9_beside 239 = .ok (.getfield 20, 3) := by decide +kernel
theorem dX9_beside_242 : decode cX9_beside 242 = .ok (.bipush 27, 2) := by decide +kernel
theorem dX9_beside_244 : decode cX9_beside 244 = .ok (.aload_n 0, 1) := by decide +kernel
theorem dX9_beside_245 : decode cX9_beside 245 = .ok (.getfield 85, 3) := by decide +kernel
theorem dX9_beside_248 : decode cX9_beside 248 = .ok (.iload_n 3, 1) := by decide +kernel
theorem dX9_beside_249 : decode cX9_beside 249 = .ok (.iadd, 1) := by decide +kernel
theorem dX9_beside_250 : decode cX9_beside 250 = .ok (.imul, 1) := by decide +kernel
theorem dX9_beside_251 : decode cX9_beside 251 = .ok (.iload 4, 2) := by decide +kernel
theorem dX9_beside_253 : decode cX9_beside 253 = .ok (.iadd, 1) := by decide +kernel
theorem dX9_beside_254 : decode cX9_beside 254 = .ok (.iconst 0, 1) := by decide +kernel
theorem dX9_beside_255 : decode cX9_beside 255 = .ok (.iastore, 1) := by decide +kernel
theorem dX9_beside_256 : decode cX9_beside 256 = .ok (.iinc 4 1, 3) := by decide +kernel
theorem dX9_beside_259 : decode cX9_beside 259 = .ok (.goto (-28), 3) := by decide +kernel
theorem dX9_beside_262 : decode cX9_beside 262 = .ok (.iconst 0, 1) := by decide +kernel
theorem dX9_beside_263 : decode cX9_beside 263 = .ok (.istore 4, 2) := by decide +kernel
theorem dX9_beside_265 : decode cX9_beside 265 = .ok (.iload 4, 2) := by decide +kernel
theorem dX9_beside_267 : decode cX9_beside 267 = .ok (.iconst 3, 1) := by decide +kernel
theorem dX9_beside_268 : decode cX9_beside 268 = .ok (.if_icmp .ge 86, 3) := by decide +kernel
theorem dX9_beside_271 : decode cX9_beside 271 = .ok (.iconst 0, 1) := by decide +kernel
theorem dX9_beside_272 : decode cX9_beside 272 = .ok (.istore 5, 2) := by decide +kernel
theorem dX9_beside_274 : decode cX9_beside 274 = .ok (.iload 5, 2) := by decide +kernel
theorem dX9_beside_276 : decode cX9_beside 276 = .ok (.aload_n 2, 1) := by decide +kernel
theorem dX9_beside_277 : decode cX9_beside 277 = .ok (.iconst 3, 1) := by decide +kernel
theorem dX9_beside_278 : decode cX9_beside 278 = .ok (.iload_n 1, 1) := by decide +kernel
theorem dX9_beside_279 : decode cX9_beside 279 = .ok (.imul, 1) := by decide +kernel
theorem dX9_beside_280 : decode cX9_beside 280 = .ok (.iload 4, 2) := by decide +kernel
theorem dX9_beside_282 : decode cX9_beside 282 = .ok (.iadd, 1) := by decide +kernel
theorem dX9_beside_283 : decode cX9_beside 283 = .ok (.iaload, 1) := by decide +kernel
theorem dX9_beside_284 : decode cX9_beside 284 = .ok (.if_icmp .ge 64, 3) := by decide +kernel
theorem dX9_beside_287 : decode cX9_beside 287 = .ok (.aload_n 0, 1) := by decide +kernel
theorem dX9_beside_288 : decode cX9_beside 288 = .ok (.getfield 20, 3) := by decide +kernel
theorem dX9_beside_291 : decode cX9_beside 291 = .ok (.bipush 27, 2) := by decide +kernel
theorem dX9_beside_293 : decode cX9_beside 293 = .ok (.aload_n 0, 1) := by decide +kernel
theorem dX9_beside_294 : decode cX9_beside 294 = .ok (.getfield 85, 3) := by decide +kernel
theorem dX9_beside_297 : decode cX9_beside 297 = .ok (.iload_n 3, 1) := by decide +kernel
theorem dX9_beside_298 : decode cX9_beside 298 = .ok (.iadd, 1) := by decide +kernel
theorem dX9_beside_299 : decode cX9_beside 299 = .ok (.imul, 1) := by decide +kernel
theorem dX9_beside_300 : decode cX9_beside 300 = .ok (.bipush 9, 2) := by decide +kernel
theorem dX9_beside_302 : decode cX9_beside 302 = .ok (.iload 4, 2) := by decide +kernel
theorem dX9_beside_304 : decode cX9_beside 304 = .ok (.imul, 1) := by decide +kernel
theorem dX9_beside_305 : decode cX9_beside 305 = .ok (.iadd, 1) := by decide +kernel
theorem dX9_beside_306 : decode cX9_beside 306 = .ok (.aload_n 0, 1) := by decide +kernel
theorem dX9_beside_307 : decode cX9_beside 307 = .ok (.getfield 13, 3) := by decide +kernel
theorem dX9_beside_310 : decode cX9_beside 310 = .ok (.iload 4, 2) := by decide +kernel
theorem dX9_beside_312 : decode cX9_beside 312 = .ok (.iaload, 1) := by decide +kernel
theorem dX9_beside_313 : decode cX9_beside 313 = .ok (.iadd, 1) := by decide +kernel
theorem dX9_beside_314 : decode cX9_beside 314 = .ok (.iload 5, 2) := by decide +kernel
theorem dX9_beside_316 : decode cX9_beside 316 = .ok (.iadd, 1) := by decide +kernel
theorem dX9_beside_317 : decode cX9_beside 317 = .ok (.aload_n 0, 1) := by decide +kernel
theorem dX9_beside_318 : decode cX9_beside 318 = .ok (.getfield 36, 3) := by decide +kernel
theorem dX9_beside_321 : decode cX9_beside 321 = .ok (.sipush 1080, 3) := by decide +kernel
theorem dX9_beside_324 : decode cX9_beside 324 = .ok (.iload_n 1, 1) := by decide +kernel
theorem dX9_beside_325 : decode cX9_beside 325 = .ok (.imul, 1) := by decide +kernel
theorem dX9_beside_326 : decode cX9_beside 326 = .ok (.bipush 27, 2) := by decide +kernel
theorem dX9_beside_328 : decode cX9_beside 328 = .ok (.iload_n 3, 1) := by decide +kernel
theorem dX9_beside_329 : decode cX9_beside 329 = .ok (.imul, 1) := by decide +kernel
theorem dX9_beside_330 : decode cX9_beside 330 = .ok (.iadd, 1) := by decide +kernel
theorem dX9_beside_331 : decode cX9_beside 331 = .ok (.bipush 9, 2) := by decide +kernel
theorem dX9_beside_333 : decode cX9_beside 333 = .ok (.iload 4, 2) := by decide +kernel
theorem dX9_beside_335 : decode cX9_beside 335 = .ok (.imul, 1) := by decide +kernel
theorem dX9_beside_336 : decode cX9_beside 336 = .ok (.iadd, 1) := by decide +kernel
theorem dX9_beside_337 : decode cX9_beside 337 = .ok (.iload 5, 2) := by decide +kernel
theorem dX9_beside_339 : decode cX9_beside 339 = .ok (.iadd, 1) := by decide +kernel
theorem dX9_beside_340 : decode cX9_beside 340 = .ok (.iaload, 1) := by decide +kernel
theorem dX9_beside_341 : decode cX9_beside 341 = .ok (.iastore, 1) := by decide +kernel
theorem dX9_beside_342 : decode cX9_beside 342 = .ok (.iinc 5 1, 3) := by decide +kernel
theorem dX9_beside_345 : decode cX9_beside 345 = .ok (.goto (-71), 3) := by decide +kernel
theorem dX9_beside_348 : decode cX9_beside 348 = .ok (.iinc 4 1, 3) := by decide +kernel
theorem dX9_beside_351 : decode cX9_beside 351 = .ok (.goto (-86), 3) := by decide +kernel
theorem dX9_beside_354 : decode cX9_beside 354 = .ok (.iinc 3 1, 3) := by decide +kernel
theorem dX9_beside_357 : decode cX9_beside 357 = .ok (.goto (-139), 3) := by decide +kernel
theorem dX9_beside_360 : decode cX9_beside 360 = .ok (.aload_n 0, 1) := by decide +kernel
theorem dX9_beside_361 : decode cX9_beside 361 = .ok (.dup, 1) := by decide +kernel
theorem dX9_beside_362 : decode cX9_beside 362 = .ok (.getfield 85, 3) := by decide +kernel
theorem dX9_beside_365 : decode cX9_beside 365 = .ok (.aload_n 0, 1) := by decide +kernel
theorem dX9_beside_366 : decode cX9_beside 366 = .ok (.getfield 39, 3) := by decide +kernel
theorem dX9_beside_369 : decode cX9_beside 369 = .ok (.iload_n 1, 1) := by decide +kernel
theorem dX9_beside_370 : decode cX9_beside 370 = .ok (.iaload, 1) := by decide +kernel
theorem dX9_beside_371 : decode cX9_beside 371 = .ok (.iadd, 1) := by decide +kernel
theorem dX9_beside_372 : decode cX9_beside 372 = .ok (.putfield 85, 3) := by decide +kernel
theorem dX9_beside_375 : decode cX9_beside 375 = .ok (.iconst 0, 1) := by decide +kernel
theorem dX9_beside_376 : decode cX9_beside 376 = .ok (.istore_n 3, 1) := by decide +kernel
theorem dX9_beside_377 : decode cX9_beside 377 = .ok (.iload_n 3, 1) := by decide +kernel
theorem dX9_beside_378 : decode cX9_beside 378 = .ok (.iconst 3, 1) := by decide +kernel
theorem dX9_beside_379 : decode cX9_beside 379 = .ok (.if_icmp .ge 25, 3) := by decide +kernel
theorem dX9_beside_382 : decode cX9_beside 382 = .ok (.aload_n 0, 1) := by decide +kernel
theorem dX9_beside_383 : decode cX9_beside 383 = .ok (.getfield 13, 3) := by decide +kernel
theorem dX9_beside_386 : decode cX9_beside 386 = .ok (.iload_n 3, 1) := by decide +kernel
theorem dX9_beside_387 : decode cX9_beside 387 = .ok (.dup2, 1) := by decide +kernel
theorem dX9_beside_388 : decode cX9_beside 388 = .ok (.iaload, 1) := by decide +kernel
theorem dX9_beside_389 : decode cX9_beside 389 = .ok (.aload_n 2, 1) := by decide +kernel
theorem dX9_beside_390 : decode cX9_beside 390 = .ok (.iconst 3, 1) := by decide +kernel
theorem dX9_beside_391 : decode cX9_beside 391 = .ok (.iload_n 1, 1) := by decide +kernel
theorem dX9_beside_392 : decode cX9_beside 392 = .ok (.imul, 1) := by decide +kernel
theorem dX9_beside_393 : decode cX9_beside 393 = .ok (.iload_n 3, 1) := by decide +kernel
theorem dX9_beside_394 : decode cX9_beside 394 = .ok (.iadd, 1) := by decide +kernel
theorem dX9_beside_395 : decode cX9_beside 395 = .ok (.iaload, 1) := by decide +kernel
theorem dX9_beside_396 : decode cX9_beside 396 = .ok (.iadd, 1) := by decide +kernel
theorem dX9_beside_397 : decode cX9_beside 397 = .ok (.iastore, 1) := by decide +kernel
theorem dX9_beside_398 : decode cX9_beside 398 = .ok (.iinc 3 1, 3) := by decide +kernel
theorem dX9_beside_401 : decode cX9_beside 401 = .ok (.goto (-24), 3) := by decide +kernel
theorem dX9_beside_404 : decode cX9_beside 404 = .ok (.aload_n 0, 1) := by decide +kernel
theorem dX9_beside_405 : decode cX9_beside 405 = .ok (.invokevirtual 88, 3) := by decide +kernel
theorem dX9_beside_408 : decode cX9_beside 408 = .ok (.aload_n 0, 1) := by decide +kernel
theorem dX9_beside_409 : decode cX9_beside 409 = .ok (.iconst 0, 1) := by decide +kernel
theorem dX9_beside_410 : decode cX9_beside 410 = .ok (.putfield 91, 3) := by decide +kernel
theorem dX9_beside_413 : decode cX9_beside 413 = .ok (.aload_n 0, 1) := by decide +kernel
theorem dX9_beside_414 : decode cX9_beside 414 = .ok (.getfield 85, 3) := by decide +kernel
theorem dX9_beside_417 : decode cX9_beside 417 = .ok (.ireturn, 1) := by decide +kernel
theorem dX9_within_0 : decode cX9_within 0 = .ok (.iload_n 1, 1) := by decide +kernel
theorem dX9_within_1 : decode cX9_within 1 = .ok (.invokestatic 257, 3) := by decide +kernel
theorem dX9_within_4 : decode cX9_within 4 = .ok (.ifCond .ne 5, 3) := by decide +kernel
theorem dX9_within_7 : decode cX9_within 7 = .ok (.iconst (-1), 1) := by decide +kernel
theorem dX9_within_8 : decode cX9_within 8 = .ok (.ireturn, 1) := by decide +kernel
theorem dX9_within_9 : decode cX9_within 9 = .ok (.aload_n 0, 1) := by decide +kernel
theorem dX9_within_10 : decode cX9_within 10 = .ok (.getfield 26, 3) := by decide +kernel
theorem dX9_within_13 : decode cX9_within 13 = .ok (.iload_n 1, 1) := by decide +kernel
theorem dX9_within_14 : decode cX9_within 14 = .ok (.baload, 1) := by decide +kernel
theorem dX9_within_15 : decode cX9_within 15 = .ok (.ifCond .ne 6, 3) := by decide +kernel
theorem dX9_within_18 : decode cX9_within 18 = .ok (.bipush (-4), 2) := by decide +kernel
theorem dX9_within_20 : decode cX9_within 20 = .ok (.ireturn, 1) := by decide +kernel
theorem dX9_within_21 : decode cX9_within 21 = .ok (.aload_n 0, 1) := by decide +kernel
theorem dX9_within_22 : decode cX9_within 22 = .ok (.getfield 30, 3) := by decide +kernel
theorem dX9_within_25 : decode cX9_within 25 = .ok (.iconst 3, 1) := by decide +kernel
theorem dX9_within_26 : decode cX9_within 26 = .ok (.iload_n 1, 1) := by decide +kernel
theorem dX9_within_27 : decode cX9_within 27 = .ok (.imul, 1) := by decide +kernel
theorem dX9_within_28 : decode cX9_within 28 = .ok (.iaload, 1) := by decide +kernel
theorem dX9_within_29 : decode cX9_within 29 = .ok (.istore_n 2, 1) := by decide +kernel
theorem dX9_within_30 : decode cX9_within 30 = .ok (.aload_n 0, 1) := by decide +kernel
theorem dX9_within_31 : decode cX9_within 31 = .ok (.getfield 30, 3) := by decide +kernel
theorem dX9_within_34 : decode cX9_within 34 = .ok (.iconst 3, 1) := by decide +kernel
theorem dX9_within_35 : decode cX9_within 35 = .ok (.iload_n 1, 1) := by decide +kernel
theorem dX9_within_36 : decode cX9_within 36 = .ok (.imul, 1) := by decide +kernel
theorem dX9_within_37 : decode cX9_within 37 = .ok (.iconst 1, 1) := by decide +kernel
theorem dX9_within_38 : decode cX9_within 38 = .ok (.iadd, 1) := by decide +kernel
theorem dX9_within_39 : decode cX9_within 39 = .ok (.iaload, 1) := by decide +kernel
theorem dX9_within_40 : decode cX9_within 40 = .ok (.istore_n 3, 1) := by decide +kernel
theorem dX9_within_41 : decode cX9_within 41 = .ok (.aload_n 0, 1) := by decide +kernel
theorem dX9_within_42 : decode cX9_within 42 = .ok (.getfield 30, 3) := by decide +kernel
theorem dX9_within_45 : decode cX9_within 45 = .ok (.iconst 3, 1) := by decide +kernel
theorem dX9_within_46 : decode cX9_within 46 = .ok (.iload_n 1, 1) := by decide +kernel
theorem dX9_within_47 : decode cX9_within 47 = .ok (.imul, 1) := by decide +kernel
theorem dX9_within_48 : decode cX9_within 48 = .ok (.iconst 2, 1) := by decide +kernel
theorem dX9_within_49 : decode cX9_within 49 = .ok (.iadd, 1) := by decide +kernel
theorem dX9_within_50 : decode cX9_within 50 = .ok (.iaload, 1) := by decide +kernel
theorem dX9_within_51 : decode cX9_within 51 = .ok (.istore 4, 2) := by decide +kernel
theorem dX9_within_53 : decode cX9_within 53 = .ok (.aload_n 0, 1) := by decide +kernel
theorem dX9_within_54 : decode cX9_within 54 = .ok (.getfield 13, 3) := by decide +kernel
theorem dX9_within_57 : decode cX9_within 57 = .ok (.iconst 0, 1) := by decide +kernel
theorem dX9_within_58 : decode cX9_within 58 = .ok (.iaload, 1) := by decide +kernel
theorem dX9_within_59 : decode cX9_within 59 = .ok (.iload_n 2, 1) := by decide +kernel
theorem dX9_within_60 : decode cX9_within 60 = .ok (.imul, 1) := by decide +kernel
theorem dX9_within_61 : decode cX9_within 61 = .ok (.aload_n 0, 1) := by decide +kernel
theorem dX9_within_62 : decode cX9_within 62 = .ok (.getfield 13, 3) := by decide +kernel
theorem dX9_within_65 : decode cX9_within 65 = .ok (.iconst 1, 1) := by decide +kernel
theorem dX9_within_66 : decode cX9_within 66 = .ok (.iaload, 1) := by decide +kernel
theorem dX9_within_67 : decode cX9_within 67 = .ok (.iload_n 3, 1) := by decide +kernel
theorem dX9_within_68 : decode cX9_within 68 = .ok (.imul, 1) := by decide +kernel
theorem dX9_within_69 : decode cX9_within 69 = .ok (.aload_n 0, 1) := by decide +kernel
theorem dX9_within_70 : decode cX9_within 70 = .ok (.getfield 13, 3) := by decide +kernel
theorem dX9_within_73 : decode cX9_within 73 = .ok (.iconst 2, 1) := by decide +kernel
theorem dX9_within_74 : decode cX9_within 74 = .ok (.iaload, 1) := by decide +kernel
theorem dX9_within_75 : decode cX9_within 75 = .ok (.iload 4, 2) := by decide +kernel
theorem dX9_within_77 : decode cX9_within 77 = .ok (.imul, 1) := by decide +kernel
theorem dX9_within_78 : decode cX9_within 78 = .ok (.invokestatic 101, 3) := by decide +kernel
theorem dX9_within_81 : decode cX9_within 81 = .ok (.ifCond .ne 6, 3) := by decide +kernel
theorem dX9_within_84 : decode cX9_within 84 = .ok (.bipush (-3), 2) := by decide +kernel
theorem dX9_within_86 : decode cX9_within 86 = .ok (.ireturn, 1) := by decide +kernel
theorem dX9_within_87 : decode cX9_within 87 = .ok (.aload_n 0, 1) := by decide +kernel
theorem dX9_within_88 : decode cX9_within 88 = .ok (.getfield 85, 3) := by decide +kernel
theorem dX9_within_91 : decode cX9_within 91 = .ok (.aload_n 0, 1) := by decide +kernel
theorem dX9_within_92 : decode cX9_within 92 = .ok (.getfield 39, 3) := by decide +kernel
theorem dX9_within_95 : decode cX9_within 95 = .ok (.iload_n 1, 1) := by decide +kernel
theorem dX9_within_96 : decode cX9_within 96 = .ok (.iaload, 1) := by decide +kernel
theorem dX9_within_97 : decode cX9_within 97 = .ok (.imul, 1) := by decide +kernel
theorem dX9_within_98 : decode cX9_within 98 = .ok (.bipush 40, 2) := by decide +kernel
theorem dX9_within_100 : decode cX9_within 100 = .ok (.if_icmp .le 6, 3) := by decide +kernel
theorem dX9_within_103 : decode cX9_within 103 = .ok (.bipush (-2), 2) := by decide +kernel
theorem dX9_within_105 : decode cX9_within 105 = .ok (.ireturn, 1) := by decide +kernel
theorem dX9_within_106 : decode cX9_within 106 = .ok (.iconst 0, 1) := by decide +kernel
theorem dX9_within_107 : decode cX9_within 107 = .ok (.istore 5, 2) := by decide +kernel
theorem dX9_within_109 : decode cX9_within 109 = .ok (.iload 5, 2) := by decide +kernel
theorem dX9_within_111 : decode cX9_within 111 = .ok (.sipush 729, 3) := by decide +kernel
theorem dX9_within_114 : decode cX9_within 114 = .ok (.if_icmp .ge 160, 3) := by decide +kernel
theorem dX9_within_117 : decode cX9_within 117 = .ok (.iload 5, 2) := by decide +kernel
theorem dX9_within_119 : decode cX9_within 119 = .ok (.bipush 81, 2) := by decide +kernel
theorem dX9_within_121 : decode cX9_within 121 = .ok (.idiv, 1) := by decide +kernel
theorem dX9_within_122 : decode cX9_within 122 = .ok (.istore 6, 2) := by decide +kernel
theorem dX9_within_124 : decode cX9_within 124 = .ok (.iload 5, 2) := by decide +kernel
theorem dX9_within_126 : decode cX9_within 126 = .ok (.bipush 9, 2) := by decide +kernel
theorem dX9_within_128 : decode cX9_within 128 = .ok (.idiv, 1) := by decide +kernel
theorem dX9_within_129 : decode cX9_within 129 = .ok (.bipush 9, 2) := by decide +kernel
theorem dX9_within_131 : decode cX9_within 131 = .ok (.irem, 1) := by decide +kernel
theorem dX9_within_132 : decode cX9_within 132 = .ok (.istore 7, 2) := by decide +kernel
theorem dX9_within_134 : decode cX9_within 134 = .ok (.iload 5, 2) := by decide +kernel
theorem dX9_within_136 : decode cX9_within 136 = .ok (.bipush 9, 2) := by decide +kernel
theorem dX9_within_138 : decode cX9_within 138 = .ok (.irem, 1) := by decide +kernel
theorem dX9_within_139 : decode cX9_within 139 = .ok (.istore 8, 2) := by decide +kernel
theorem dX9_within_141 : decode cX9_within 141 = .ok (.iload 6, 2) := by decide +kernel
theorem dX9_within_143 : decode cX9_within 143 = .ok (.aload_n 0, 1) := by decide +kernel
theorem dX9_within_144 : decode cX9_within 144 = .ok (.getfield 13, 3) := by decide +kernel
theorem dX9_within_147 : decode cX9_within 147 = .ok (.iconst 0, 1) := by decide +kernel
theorem dX9_within_148 : decode cX9_within 148 = .ok (.iaload, 1) := by decide +kernel
theorem dX9_within_149 : decode cX9_within 149 = .ok (.iload_n 2, 1) := by decide +kernel
theorem dX9_within_150 : decode cX9_within 150 = .ok (.imul, 1) := by decide +kernel
theorem dX9_within_151 : decode cX9_within 151 = .ok (.if_icmp .ge 34, 3) := by decide +kernel
theorem dX9_within_154 : decode cX9_within 154 = .ok (.iload 7, 2) := by decide +kernel
theorem dX9_within_156 : decode cX9_within 156 = .ok (.aload_n 0, 1) := by decide +kernel
theorem dX9_within_157 : decode cX9_within 157 = .ok (.getfield 13, 3) := by decide +kernel
theorem dX9_within_160 : decode cX9_within 160 = .ok (.iconst 1, 1) := by decide +kernel
theorem dX9_within_161 : decode cX9_within 161 = .ok (.iaload, 1) := by decide +kernel
theorem dX9_within_162 : decode cX9_within 162 = .ok (.iload_n 3, 1) := by decide +kernel
theorem dX9_within_163 : decode cX9_within 163 = .ok (.imul, 1) := by decide +kernel
theorem dX9_within_164 : decode cX9_within 164 = .ok (.if_icmp .ge 21, 3) := by decide +kernel
theorem dX9_within_167 : decode cX9_within 167 = .ok (.iload 8, 2) := by decide +kernel
theorem dX9_within_169 : decode cX9_within 169 = .ok (.aload_n 0, 1) := by decide +kernel
theorem dX9_within_170 : decode cX9_within 170 = .ok (.getfield 13, 3) := by decide +kernel
theorem dX9_within_173 : decode cX9_within 173 = .ok (.iconst 2, 1) := by decide +kernel
theorem dX9_within_174 : decode cX9_within 174 = .ok (.iaload, 1) := by decide +kernel
theorem dX9_within_175 : decode cX9_within 175 = .ok (.iload 4, 2) := by decide +kernel
theorem dX9_within_177 : decode cX9_within 177 = .ok (.imul, 1) := by decide +kernel
theorem dX9_within_178 : decode cX9_within 178 = .ok (.if_icmp .ge 7, 3) := by decide +kernel
theorem dX9_within_181 : decode cX9_within 181 = .ok (.iconst 1, 1) := by decide +kernel
theorem dX9_within_182 : decode cX9_within 182 = .ok (.goto 4, 3) := by decide +kernel
theorem dX9_within_185 : decode cX9_within 185 = .ok (.iconst 0, 1) := by decide +kernel
theorem dX9_within_186 : decode cX9_within 186 = .ok (.istore 9, 2) := by decide +kernel
theorem dX9_within_188 : decode cX9_within 188 = .ok (.aload_n 0, 1) := by decide +kernel
theorem dX9_within_189 : decode cX9_within 189 = .ok (.getfield 45, 3) := by decide +kernel
theorem dX9_within_192 : decode cX9_within 192 = .ok (.iload 5, 2) := by decide +kernel
theorem dX9_within_194 : decode cX9_within 194 = .ok (.iload 9, 2) := by decide +kernel
theorem dX9_within_196 : decode cX9_within 196 = .ok (.ifCond .ne 7, 3) := by decide +kernel
theorem dX9_within_199 : decode cX9_within 199 = .ok (.iconst 0, 1) := by decide +kernel
theorem dX9_within_200 : decode cX9_within 200 = .ok (.goto 67, 3) := by decide +kernel
theorem dX9_within_203 : decode cX9_within 203 = .ok (.aload_n 0, 1) := by decide +kernel
theorem dX9_within_204 : decode cX9_within 204 = .ok (.getfield 17, 3) := by decide +kernel
theorem dX9_within_207 : decode cX9_within 207 = .ok (.bipush 81, 2) := by decide +kernel
theorem dX9_within_209 : decode cX9_within 209 = .ok (.iload 6, 2) := by decide +kernel
theorem dX9_within_211 : decode cX9_within 211 = .ok (.iload_n 2, 1) := by decide +kernel
theorem dX9_within_212 : decode cX9_within 212 = .ok (.idiv, 1) := by decide +kernel
theorem dX9_within_213 : decode cX9_within 213 = .ok (.imul, 1) := by decide +kernel
theorem dX9_within_214 : decode cX9_within 214 = .ok (.bipush 9, 2) := by decide +kernel
theorem dX9_within_216 : decode cX9_within 216 = .ok (.iload 7, 2) := by decide +kernel
theorem dX9_within_218 : decode cX9_within 218 = .ok (.iload_n 3, 1) := by decide +kernel
theorem dX9_within_219 : decode cX9_within 219 = .ok (.idiv, 1) := by decide +kernel
theorem dX9_within_220 : decode cX9_within 220 = .ok (.imul, 1) := by decide +kernel
theorem dX9_within_221 : decode cX9_within 221 = .ok (.iadd, 1) := by decide +kernel
theorem dX9_within_222 : decode cX9_within 222 = .ok (.iload 8, 2) := by decide +kernel
theorem dX9_within_224 : decode cX9_within 224 = .ok (.iload 4, 2) := by decide +kernel
theorem dX9_within_226 : decode cX9_within 226 = .ok (.idiv, 1) := by decide +kernel
theorem dX9_within_227 : decode cX9_within 227 = .ok (.iadd, 1) := by decide +kernel
theorem dX9_within_228 : decode cX9_within 228 = .ok (.iaload, 1) := by decide +kernel
theorem dX9_within_229 : decode cX9_within 229 = .ok (.aload_n 0, 1) := by decide +kernel
theorem dX9_within_230 : decode cX9_within 230 = .ok (.getfield 33, 3) := by decide +kernel
theorem dX9_within_233 : decode cX9_within 233 = .ok (.sipush 729, 3) := by decide +kernel
theorem dX9_within_236 : decode cX9_within 236 = .ok (.iload_n 1, 1) := by decide +kernel
theorem dX9_within_237 : decode cX9_within 237 = .ok (.imul, 1) := by decide +kernel
theorem dX9_within_238 : decode cX9_within 238 = .ok (.bipush 81, 2) := by decide +kernel
theorem dX9_within_240 : decode cX9_within 240 = .ok (.iload 6, 2) := by decide +kernel
theorem dX9_within_242 : decode cX9_within 242 = .ok (.iload_n 2, 1) := by decide +kernel
theorem dX9_within_243 : decode cX9_within 243 = .ok (.irem, 1) := by decide +kernel
theorem dX9_within_244 : decode cX9_within 244 = .ok (.imul, 1) := by decide +kernel
theorem dX9_within_245 : decode cX9_within 245 = .ok (.iadd, 1) := by decide +kernel
theorem dX9_within_246 : decode cX9_within 246 = .ok (.bipush 9, 2) := by decide +kernel
theorem dX9_within_248 : decode cX9_within 248 = .ok (.iload 7, 2) := by decide +kernel
theorem dX9_within_250 : decode cX9_within 250 = .ok (.iload_n 3, 1) := by decide +kernel
theorem dX9_within_251 : decode cX9_within 251 = .ok (.irem, 1) := by decide +kernel
theorem dX9_within_252 : decode cX9_within 252 = .ok (.imul, 1) := by decide +kernel
theorem dX9_within_253 : decode cX9_within 253 = .ok (.iadd, 1) := by decide +kernel
theorem dX9_within_254 : decode cX9_within 254 = .ok (.iload 8, 2) := by decide +kernel
theorem dX9_within_256 : decode cX9_within 256 = .ok (.iload 4, 2) := by decide +kernel
theorem dX9_within_258 : decode cX9_within 258 = .ok (.irem, 1) := by decide +kernel
theorem dX9_within_259 : decode cX9_within 259 = .ok (.iadd, 1) := by decide +kernel
theorem dX9_within_260 : decode cX9_within 260 = .ok (.iaload, 1) := by decide +kernel
theorem dX9_within_261 : decode cX9_within 261 = .ok (.imul, 1) := by decide +kernel
theorem dX9_within_262 : decode cX9_within 262 = .ok (.aload_n 0, 1) := by decide +kernel
theorem dX9_within_263 : decode cX9_within 263 = .ok (.getfield 7, 3) := by decide +kernel
theorem dX9_within_266 : decode cX9_within 266 = .ok (.irem, 1) := by decide +kernel
theorem dX9_within_267 : decode cX9_within 267 = .ok (.iastore, 1) := by decide +kernel
theorem dX9_within_268 : decode cX9_within 268 = .ok (.iinc 5 1, 3) := by decide +kernel
theorem dX9_within_271 : decode cX9_within 271 = .ok (.goto (-162), 3) := by decide +kernel
theorem dX9_within_274 : decode cX9_within 274 = .ok (.iconst 0, 1) := by decide +kernel
theorem dX9_within_275 : decode cX9_within 275 = .ok (.istore 5, 2) := by decide +kernel
theorem dX9_within_277 : decode cX9_within 277 = .ok (.iconst 0, 1) := by decide +kernel
theorem dX9_within_278 : decode cX9_within 278 = .ok (.istore 6, 2) := by decide +kernel
theorem dX9_within_280 : decode cX9_within 280 = .ok (.iload 6, 2) := by decide +kernel
theorem dX9_within_282 : decode cX9_within 282 = .ok (.aload_n 0, 1) := by decide +kernel
theorem dX9_within_283 : decode cX9_within 283 = .ok (.getfield 85, 3) := by decide +kernel
theorem dX9_within_286 : decode cX9_within 286 = .ok (.if_icmp .ge 80, 3) := by decide +kernel
theorem dX9_within_289 : decode cX9_within 289 = .ok (.iconst 0, 1) := by decide +kernel
theorem dX9_within_290 : decode cX9_within 290 = .ok (.istore 7, 2) := by decide +kernel
theorem dX9_within_292 : decode cX9_within 292 = .ok (.iload 7, 2) := by decide +kernel
theorem dX9_within_294 : decode cX9_within 294 = .ok (.aload_n 0, 1) := by decide +kernel
theorem dX9_within_295 : decode cX9_within 295 = .ok (.getfield 39, 3) := by decide +kernel
theorem dX9_within_298 : decode cX9_within 298 = .ok (.iload_n 1, 1) := by decide +kernel
theorem dX9_within_299 : decode cX9_within 299 = .ok (.iaload, 1) := by decide +kernel
theorem dX9_within_300 : decode cX9_within 300 = .ok (.if_icmp .ge 60, 3) := by decide +kernel
theorem dX9_within_303 : decode cX9_within 303 = .ok (.iconst 0, 1) := by decide +kernel
theorem dX9_within_304 : decode cX9_within 304 = .ok (.istore 8, 2) := by decide +kernel
theorem dX9_within_306 : decode cX9_within 306 = .ok (.iload 8, 2) := by decide +kernel
theorem dX9_within_308 : decode cX9_within 308 = .ok (.bipush 27, 2) := by decide +kernel
theorem dX9_within_310 : decode cX9_within 310 = .ok (.if_icmp .ge 41, 3) := by decide +kernel
theorem dX9_within_313 : decode cX9_within 313 = .ok (.aload_n 0, 1) := by decide +kernel
theorem dX9_within_314 : decode cX9_within 314 = .ok (.getfield 48, 3) := by decide +kernel
theorem dX9_within_317 : decode cX9_within 317 = .ok (.bipush 27, 2) := by decide +kernel
theorem dX9_within_319 : decode cX9_within 319 = .ok (.iload 5, 2) := by decide +kernel
theorem dX9_within_321 : decode cX9_within 321 = .ok (.imul, 1) := by decide +kernel
theorem dX9_within_322 : decode cX9_within 322 = .ok (.iload 8, 2) := by decide +kernel
theorem dX9_within_324 : decode cX9_within 324 = .ok (.iadd, 1) := by decide +kernel
theorem dX9_within_325 : decode cX9_within 325 = .ok (.aload_n 0, 1) := by decide +kernel
theorem dX9_within_326 : decode cX9_within 326 = .ok (.iload_n 1, 1) := by decide +kernel
theorem dX9_within_327 : decode cX9_within 327 = .ok (.iload 6, 2) := by decide +kernel
theorem dX9_within_329 : decode cX9_within 329 = .ok (.iload 7, 2) := by decide +kernel
theorem dX9_within_331 : decode cX9_within 331 = .ok (.iload 8, 2) := by decide +kernel
theorem dX9_within_333 : decode cX9_within 333 = .ok (.bipush 9, 2) := by decide +kernel
theorem dX9_within_335 : decode cX9_within 335 = .ok (.idiv, 1) := by decide +kernel
theorem dX9_within_336 : decode cX9_within 336 = .ok (.iload 8, 2) := by decide +kernel
theorem dX9_within_338 : decode cX9_within 338 = .ok (.bipush 9, 2) := by decide +kernel
theorem dX9_within_340 : decode cX9_within 340 = .ok (.irem, 1) := by decide +kernel
theorem dX9_within_341 : decode cX9_within 341 = .ok (.invokevirtual 260, 3) := by decide +kernel
theorem dX9_within_344 : decode cX9_within 344 = .ok (.iastore, 1) := by decide +kernel
theorem dX9_within_345 : decode cX9_within 345 = .ok (.iinc 8 1, 3) := by decide +kernel
theorem dX9_within_348 : decode cX9_within 348 = .ok (.goto (-42), 3) := by decide +kernel
theorem dX9_within_351 : decode cX9_within 351 = .ok (.iinc 5 1, 3) := by decide +kernel
theorem dX9_within_354 : decode cX9_within 354 = .ok (.iinc 7 1, 3) := by decide +kernel
theorem dX9_within_357 : decode cX9_within 357 = .ok (.goto (-65), 3) := by decide +kernel
theorem dX9_within_360 : decode cX9_within 360 = .ok (.iinc 6 1, 3) := by decide +kernel
theorem dX9_within_363 : decode cX9_within 363 = .ok (.goto (-83), 3) := by decide +kernel
theorem dX9_within_366 : decode cX9_within 366 = .ok (.aload_n 0, 1) := by decide +kernel
theorem dX9_within_367 : decode cX9_within 367 = .ok (.iload 5, 2) := by decide +kernel
theorem dX9_within_369 : decode cX9_within 369 = .ok (.putfield 85, 3) := by decide +kernel
theorem dX9_within_372 : decode cX9_within 372 = .ok (.iconst 0, 1) := by decide +kernel
theorem dX9_within_373 : decode cX9_within 373 = .ok (.istore 6, 2) := by decide +kernel
theorem dX9_within_375 : decode cX9_within 375 = .ok (.iload 6, 2) := by decide +kernel
theorem dX9_within_377 : decode cX9_within 377 = .ok (.sipush 729, 3) := by decide +kernel
theorem dX9_within_380 : decode cX9_within 380 = .ok (.if_icmp .ge 23, 3) := by decide +kernel
theorem dX9_within_383 : decode cX9_within 383 = .ok (.aload_n 0, 1) := by decide +kernel
theorem dX9_within_384 : decode cX9_within 384 = .ok (.getfield 17, 3) := by decide +kernel
theorem dX9_within_387 : decode cX9_within 387 = .ok (.iload 6, 2) := by decide +kernel
theorem dX9_within_389 : decode cX9_within 389 = .ok (.aload_n 0, 1) := by decide +kernel
theorem dX9_within_390 : decode cX9_within 390 = .ok (.getfield 45, 3) := by decide +kernel
theorem dX9_within_393 : decode cX9_within 393 = .ok (.iload 6, 2) := by decide +kernel
theorem dX9_within_395 : decode cX9_within 395 = .ok (.iaload, 1) := by decide +kernel
theorem dX9_within_396 : decode cX9_within 396 = .ok (.iastore, 1) := by decide +kernel
theorem dX9_within_397 : decode cX9_within 397 = .ok (.iinc 6 1, 3) := by decide +kernel
theorem dX9_within_400 : decode cX9_within 400 = .ok (.goto (-25), 3) := by decide +kernel
theorem dX9_within_403 : decode cX9_within 403 = .ok (.iconst 0, 1) := by decide +kernel
theorem dX9_within_404 : decode cX9_within 404 = .ok (.istore 6, 2) := by decide +kernel
theorem dX9_within_406 : decode cX9_within 406 = .ok (.iload 6, 2) := by decide +kernel
theorem dX9_within_408 : decode cX9_within 408 = .ok (.bipush 27, 2) := by decide +kernel
theorem dX9_within_410 : decode cX9_within 410 = .ok (.iload 5, 2) := by decide +kernel
theorem dX9_within_412 : decode cX9_within 412 = .ok (.imul, 1) := by decide +kernel
theorem dX9_within_413 : decode cX9_within 413 = .ok (.if_icmp .ge 23, 3) := by decide +kernel
theorem dX9_within_416 : decode cX9_within 416 = .ok (.aload_n 0, 1) := by decide +kernel
theorem dX9_within_417 : decode cX9_within 417 = .ok (.getfield 20, 3) := by decide +kernel
theorem dX9_within_420 : decode cX9_within 420 = .ok (.iload 6, 2) := by decide +kernel
theorem dX9_within_422 : decode cX9_within 422 = .ok (.aload_n 0, 1) := by decide +kernel
theorem dX9_within_423 : decode cX9_within 423 = .ok (.getfield 48, 3) := by decide +kernel
theorem dX9_within_426 : decode cX9_within 426 = .ok (.iload 6, 2) := by decide +kernel
theorem dX9_within_428 : decode cX9_within 428 = .ok (.iaload, 1) := by decide +kernel
theorem dX9_within_429 : decode cX9_within 429 = .ok (.iastore, 1) := by decide +kernel
theorem dX9_within_430 : decode cX9_within 430 = .ok (.iinc 6 1, 3) := by decide +kernel
theorem dX9_within_433 : decode cX9_within 433 = .ok (.goto (-27), 3) := by decide +kernel
theorem dX9_within_436 : decode cX9_within 436 = .ok (.iconst 0, 1) := by decide +kernel
theorem dX9_within_437 : decode cX9_within 437 = .ok (.istore 6, 2) := by decide +kernel
theorem dX9_within_439 : decode cX9_within 439 = .ok (.iload 6, 2) := by decide +kernel
theorem dX9_within_441 : decode cX9_within 441 = .ok (.iconst 3, 1) := by decide +kernel
theorem dX9_within_442 : decode cX9_within 442 = .ok (.if_icmp .ge 30, 3) := by decide +kernel
theorem dX9_within_445 : decode cX9_within 445 = .ok (.aload_n 0, 1) := by decide +kernel
theorem dX9_within_446 : decode cX9_within 446 = .ok (.getfield 13, 3) := by decide +kernel
theorem dX9_within_449 : decode cX9_within 449 = .ok (.iload 6, 2) := by decide +kernel
theorem dX9_within_451 : decode cX9_within 451 = .ok (.dup2, 1) := by decide +kernel
theorem dX9_within_452 : decode cX9_within 452 = .ok (.iaload, 1) := by decide +kernel
theorem dX9_within_453 : decode cX9_within 453 = .ok (.aload_n 0, 1) := by decide +kernel
theorem dX9_within_454 : decode cX9_within 454 = .ok (.getfield 30, 3) := by decide +kernel
theorem dX9_within_457 : decode cX9_within 457 = .ok (.iconst 3, 1) := by decide +kernel
theorem dX9_within_458 : decode cX9_within 458 = .ok (.iload_n 1, 1) := by decide +kernel
theorem dX9_within_459 : decode cX9_within 459 = .ok (.imul, 1) := by decide +kernel
theorem dX9_within_460 : decode cX9_within 460 = .ok (.iload 6, 2) := by decide +kernel
theorem dX9_within_462 : decode cX9_within 462 = .ok (.iadd, 1) := by decide +kernel
theorem dX9_within_463 : decode cX9_within 463 = .ok (.iaload, 1) := by decide +kernel
theorem dX9_within_464 : decode cX9_within 464 = .ok (.imul, 1) := by decide +kernel
theorem dX9_within_465 : decode cX9_within 465 = .ok (.iastore, 1) := by decide +kernel
theorem dX9_within_466 : decode cX9_within 466 = .ok (.iinc 6 1, 3) := by decide +kernel
theorem dX9_within_469 : decode cX9_within 469 = .ok (.goto (-30), 3) := by decide +kernel
theorem dX9_within_472 : decode cX9_within 472 = .ok (.aload_n 0, 1) := by decide +kernel
theorem dX9_within_473 : decode cX9_within 473 = .ok (.invokevirtual 88, 3) := by decide +kernel
theorem dX9_within_476 : decode cX9_within 476 = .ok (.aload_n 0, 1) := by decide +kernel
theorem dX9_within_477 : decode cX9_within 477 = .ok (.iconst 0, 1) := by decide +kernel
theorem dX9_within_478 : decode cX9_within 478 = .ok (.putfield 91, 3) := by decide +kernel
theorem dX9_within_481 : decode cX9_within 481 = .ok (.aload_n 0, 1) := by decide +kernel
theorem dX9_within_482 : decode cX9_within 482 = .ok (.getfield 85, 3) := by decide +kernel
theorem dX9_within_485 : decode cX9_within 485 = .ok (.ireturn, 1) := by decide +kernel
theorem dX9_productAt_0 : decode cX9_productAt 0 = .ok (.aload_n 0, 1) := by decide +kernel
theorem dX9_productAt_1 : decode cX9_productAt 1 = .ok (.getfield 30, 3) := by decide +kernel
theorem dX9_productAt_4 : decode cX9_productAt 4 = .ok (.iconst 3, 1) := by decide +kernel
theorem dX9_productAt_5 : decode cX9_productAt 5 = .ok (.iload_n 1, 1) := by decide +kernel
theorem dX9_productAt_6 : decode cX9_productAt 6 = .ok (.imul, 1) := by decide +kernel
theorem dX9_productAt_7 : decode cX9_productAt 7 = .ok (.iload 4, 2) := by decide +kernel
theorem dX9_productAt_9 : decode cX9_productAt 9 = .ok (.iadd, 1) := by decide +kernel
theorem dX9_productAt_10 : decode cX9_productAt 10 = .ok (.iaload, 1) := by decide +kernel
theorem dX9_productAt_11 : decode cX9_productAt 11 = .ok (.istore 6, 2) := by decide +kernel
theorem dX9_productAt_13 : decode cX9_productAt 13 = .ok (.iload 5, 2) := by decide +kernel
theorem dX9_productAt_15 : decode cX9_productAt 15 = .ok (.aload_n 0, 1) := by decide +kernel
theorem dX9_productAt_16 : decode cX9_productAt 16 = .ok (.getfield 13, 3) := by decide +kernel
theorem dX9_productAt_19 : decode cX9_productAt 19 = .ok (.iload 4, 2) := by decide +kernel
theorem dX9_productAt_21 : decode cX9_productAt 21 = .ok (.iaload, 1) := by decide +kernel
theorem dX9_productAt_22 : decode cX9_productAt 22 = .ok (.iload 6, 2) := by decide +kernel
theorem dX9_productAt_24 : decode cX9_productAt 24 = .ok (.imul, 1) := by decide +kernel
theorem dX9_productAt_25 : decode cX9_productAt 25 = .ok (.if_icmp .lt 5, 3) := by decide +kernel
theorem dX9_productAt_28 : decode cX9_productAt 28 = .ok (.iconst 0, 1) := by decide +kernel
theorem dX9_productAt_29 : decode cX9_productAt 29 = .ok (.ireturn, 1) := by decide +kernel
theorem dX9_productAt_30 : decode cX9_productAt 30 = .ok (.aload_n 0, 1) := by decide +kernel
theorem dX9_productAt_31 : decode cX9_productAt 31 = .ok (.getfield 20, 3) := by decide +kernel
theorem dX9_productAt_34 : decode cX9_productAt 34 = .ok (.bipush 27, 2) := by decide +kernel
theorem dX9_productAt_36 : decode cX9_productAt 36 = .ok (.iload_n 2, 1) := by decide +kernel
theorem dX9_productAt_37 : decode cX9_productAt 37 = .ok (.imul, 1) := by decide +kernel
theorem dX9_productAt_38 : decode cX9_productAt 38 = .ok (.bipush 9, 2) := by decide +kernel
theorem dX9_productAt_40 : decode cX9_productAt 40 = .ok (.iload 4, 2) := by decide +kernel
theorem dX9_productAt_42 : decode cX9_productAt 42 = .ok (.imul, 1) := by decide +kernel
theorem dX9_productAt_43 : decode cX9_productAt 43 = .ok (.iadd, 1) := by decide +kernel
theorem dX9_productAt_44 : decode cX9_productAt 44 = .ok (.iload 5, 2) := by decide +kernel
theorem dX9_productAt_46 : decode cX9_productAt 46 = .ok (.iload 6, 2) := by decide +kernel
theorem dX9_productAt_48 : decode cX9_productAt 48 = .ok (.idiv, 1) := by decide +kernel
theorem dX9_productAt_49 : decode cX9_productAt 49 = .ok (.iadd, 1) := by decide +kernel
theorem dX9_productAt_50 : decode cX9_productAt 50 = .ok (.iaload, 1) := by decide +kernel
theorem dX9_productAt_51 : decode cX9_productAt 51 = .ok (.aload_n 0, 1) := by decide +kernel
theorem dX9_productAt_52 : decode cX9_productAt 52 = .ok (.getfield 36, 3) := by decide +kernel
theorem dX9_productAt_55 : decode cX9_productAt 55 = .ok (.sipush 1080, 3) := by decide +kernel
theorem dX9_productAt_58 : decode cX9_productAt 58 = .ok (.iload_n 1, 1) := by decide +kernel
theorem dX9_productAt_59 : decode cX9_productAt 59 = .ok (.imul, 1) := by decide +kernel
theorem dX9_productAt_60 : decode cX9_productAt 60 = .ok (.bipush 27, 2) := by decide +kernel
theorem dX9_productAt_62 : decode cX9_productAt 62 = .ok (.iload_n 3, 1) := by decide +kernel
theorem dX9_productAt_63 : decode cX9_productAt 63 = .ok (.imul, 1) := by decide +kernel
theorem dX9_productAt_64 : decode cX9_productAt 64 = .ok (.iadd, 1) := by decide +kernel
theorem dX9_productAt_65 : decode cX9_productAt 65 = .ok (.bipush 9, 2) := by decide +kernel
theorem dX9_productAt_67 : decode cX9_productAt 67 = .ok (.iload 4, 2) := by decide +kernel
theorem dX9_productAt_69 : decode cX9_productAt 69 = .ok (.imul, 1) := by decide +kernel
theorem dX9_productAt_70 : decode cX9_productAt 70 = .ok (.iadd, 1) := by decide +kernel
theorem dX9_productAt_71 : decode cX9_productAt 71 = .ok (.iload 5, 2) := by decide +kernel
theorem dX9_productAt_73 : decode cX9_productAt 73 = .ok (.iload 6, 2) := by decide +kernel
theorem dX9_productAt_75 : decode cX9_productAt 75 = .ok (.irem, 1) := by decide +kernel
theorem dX9_productAt_76 : decode cX9_productAt 76 = .ok (.iadd, 1) := by decide +kernel
theorem dX9_productAt_77 : decode cX9_productAt 77 = .ok (.iaload, 1) := by decide +kernel
theorem dX9_productAt_78 : decode cX9_productAt 78 = .ok (.imul, 1) := by decide +kernel
theorem dX9_productAt_79 : decode cX9_productAt 79 = .ok (.aload_n 0, 1) := by decide +kernel
theorem dX9_productAt_80 : decode cX9_productAt 80 = .ok (.getfield 7, 3) := by decide +kernel
theorem dX9_productAt_83 : decode cX9_productAt 83 = .ok (.irem, 1) := by decide +kernel
theorem dX9_productAt_84 : decode cX9_productAt 84 = .ok (.ireturn, 1) := by decide +kernel
