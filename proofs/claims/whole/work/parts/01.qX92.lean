theorem dX9_isOne_12 : decode cX9_isOne 12 = .ok (.ifCond .ne 13, 3) := by decide +kernel
theorem dX9_isOne_15 : decode cX9_isOne 15 = .ok (.iload_n 2, 1) := by decide +kernel
theorem dX9_isOne_16 : decode cX9_isOne 16 = .ok (.aload_n 0, 1) := by decide +kernel
theorem dX9_isOne_17 : decode cX9_isOne 17 = .ok (.getfield 7, 3) := by decide +kernel
theorem dX9_isOne_20 : decode cX9_isOne 20 = .ok (.idiv, 1) := by decide +kernel
theorem dX9_isOne_21 : decode cX9_isOne 21 = .ok (.istore_n 2, 1) := by decide +kernel
theorem dX9_isOne_22 : decode cX9_isOne 22 = .ok (.goto (-20), 3) := by decide +kernel
theorem dX9_isOne_25 : decode cX9_isOne 25 = .ok (.iload_n 2, 1) := by decide +kernel
theorem dX9_isOne_26 : decode cX9_isOne 26 = .ok (.aload_n 0, 1) := by decide +kernel
theorem dX9_isOne_27 : decode cX9_isOne 27 = .ok (.getfield 7, 3) := by decide +kernel
theorem dX9_isOne_30 : decode cX9_isOne 30 = .ok (.irem, 1) := by decide +kernel
theorem dX9_isOne_31 : decode cX9_isOne 31 = .ok (.iconst 1, 1) := by decide +kernel
theorem dX9_isOne_32 : decode cX9_isOne 32 = .ok (.if_icmp .ne 7, 3) := by decide +kernel
theorem dX9_isOne_35 : decode cX9_isOne 35 = .ok (.iconst 1, 1) := by decide +kernel
theorem dX9_isOne_36 : decode cX9_isOne 36 = .ok (.goto 4, 3) := by decide +kernel
theorem dX9_isOne_39 : decode cX9_isOne 39 = .ok (.iconst 0, 1) := by decide +kernel
theorem dX9_isOne_40 : decode cX9_isOne 40 = .ok (.ireturn, 1) := by decide +kernel
theorem dX9_findPairs_0 : decode cX9_findPairs 0 = .ok (.aload_n 0, 1) := by decide +kernel
theorem dX9_findPairs_1 : decode cX9_findPairs 1 = .ok (.iconst 0, 1) := by decide +kernel
theorem dX9_findPairs_2 : decode cX9_findPairs 2 = .ok (.putfield 198, 3) := by decide +kernel
theorem dX9_findPairs_5 : decode cX9_findPairs 5 = .ok (.iconst 0, 1) := by decide +kernel
theorem dX9_findPairs_6 : decode cX9_findPairs 6 = .ok (.istore_n 1, 1) := by decide +kernel
theorem dX9_findPairs_7 : decode cX9_findPairs 7 = .ok (.iload_n 1, 1) := by decide +kernel
theorem dX9_findPairs_8 : decode cX9_findPairs 8 = .ok (.aload_n 0, 1) := by decide +kernel
theorem dX9_findPairs_9 : decode cX9_findPairs 9 = .ok (.iconst 0, 1) := by decide +kernel
theorem dX9_findPairs_10 : decode cX9_findPairs 10 = .ok (.invokevirtual 115, 3) := by decide +kernel
theorem dX9_findPairs_13 : decode cX9_findPairs 13 = .ok (.if_icmp .ge 72, 3) := by decide +kernel
theorem dX9_findPairs_16 : decode cX9_findPairs 16 = .ok (.iconst 0, 1) := by decide +kernel
theorem dX9_findPairs_17 : decode cX9_findPairs 17 = .ok (.istore_n 2, 1) := by decide +kernel
theorem dX9_findPairs_18 : decode cX9_findPairs 18 = .ok (.iload_n 2, 1) := by decide +kernel
theorem dX9_findPairs_19 : decode cX9_findPairs 19 = .ok (.aload_n 0, 1) := by decide +kernel
theorem dX9_findPairs_20 : decode cX9_findPairs 20 = .ok (.iconst 1, 1) := by decide +kernel
theorem dX9_findPairs_21 : decode cX9_findPairs 21 = .ok (.invokevirtual 115, 3) := by decide +kernel
theorem dX9_findPairs_24 : decode cX9_findPairs 24 = .ok (.if_icmp .ge 55, 3) := by decide +kernel
theorem dX9_findPairs_27 : decode cX9_findPairs 27 = .ok (.aload_n 0, 1) := by decide +kernel
theorem dX9_findPairs_28 : decode cX9_findPairs 28 = .ok (.iload_n 1, 1) := by decide +kernel
theorem dX9_findPairs_29 : decode cX9_findPairs 29 = .ok (.invokevirtual 201, 3) := by decide +kernel
theorem dX9_findPairs_32 : decode cX9_findPairs 32 = .ok (.ifCond .eq 47, 3) := by decide +kernel
theorem dX9_findPairs_35 : decode cX9_findPairs 35 = .ok (.aload_n 0, 1) := by decide +kernel
theorem dX9_findPairs_36 : decode cX9_findPairs 36 = .ok (.iload_n 2, 1) := by decide +kernel
theorem dX9_findPairs_37 : decode cX9_findPairs 37 = .ok (.invokevirtual 201, 3) := by decide +kernel
theorem dX9_findPairs_40 : decode cX9_findPairs 40 = .ok (.ifCond .eq 33, 3) := by decide +kernel
theorem dX9_findPairs_43 : decode cX9_findPairs 43 = .ok (.aload_n 0, 1) := by decide +kernel
theorem dX9_findPairs_44 : decode cX9_findPairs 44 = .ok (.getfield 54, 3) := by decide +kernel
theorem dX9_findPairs_47 : decode cX9_findPairs 47 = .ok (.aload_n 0, 1) := by decide +kernel
theorem dX9_findPairs_48 : decode cX9_findPairs 48 = .ok (.getfield 198, 3) := by decide +kernel
theorem dX9_findPairs_51 : decode cX9_findPairs 51 = .ok (.iload_n 1, 1) := by decide +kernel
theorem dX9_findPairs_52 : decode cX9_findPairs 52 = .ok (.iastore, 1) := by decide +kernel
theorem dX9_findPairs_53 : decode cX9_findPairs 53 = .ok (.aload_n 0, 1) := by decide +kernel
theorem dX9_findPairs_54 : decode cX9_findPairs 54 = .ok (.getfield 57, 3) := by decide +kernel
theorem dX9_findPairs_57 : decode cX9_findPairs 57 = .ok (.aload_n 0, 1) := by decide +kernel
theorem dX9_findPairs_58 : decode cX9_findPairs 58 = .ok (.getfield 198, 3) := by decide +kernel
theorem dX9_findPairs_61 : decode cX9_findPairs 61 = .ok (.iload_n 2, 1) := by decide +kernel
theorem dX9_findPairs_62 : decode cX9_findPairs 62 = .ok (.iastore, 1) := by decide +kernel
theorem dX9_findPairs_63 : decode cX9_findPairs 63 = .ok (.aload_n 0, 1) := by decide +kernel
theorem dX9_findPairs_64 : decode cX9_findPairs 64 = .ok (.dup, 1) := by decide +kernel
theorem dX9_findPairs_65 : decode cX9_findPairs 65 = .ok (.getfield 198, 3) := by decide +kernel
theorem dX9_findPairs_68 : decode cX9_findPairs 68 = .ok (.iconst 1, 1) := by decide +kernel
theorem dX9_findPairs_69 : decode cX9_findPairs 69 = .ok (.iadd, 1) := by decide +kernel
theorem dX9_findPairs_70 : decode cX9_findPairs 70 = .ok (.putfield 198, 3) := by decide +kernel
theorem dX9_findPairs_73 : decode cX9_findPairs 73 = .ok (.iinc 2 1, 3) := by decide +kernel
theorem dX9_findPairs_76 : decode cX9_findPairs 76 = .ok (.goto (-58), 3) := by decide +kernel
theorem dX9_findPairs_79 : decode cX9_findPairs 79 = .ok (.iinc 1 1, 3) := by decide +kernel
theorem dX9_findPairs_82 : decode cX9_findPairs 82 = .ok (.goto (-75), 3) := by decide +kernel
theorem dX9_findPairs_85 : decode cX9_findPairs 85 = .ok (.return_, 1) := by decide +kernel
theorem dX9_digit_0 : decode cX9_digit 0 = .ok (.iload_n 1, 1) := by decide +kernel
theorem dX9_digit_1 : decode cX9_digit 1 = .ok (.istore_n 3, 1) := by decide +kernel
theorem dX9_digit_2 : decode cX9_digit 2 = .ok (.iconst 0, 1) := by decide +kernel
theorem dX9_digit_3 : decode cX9_digit 3 = .ok (.istore 4, 2) := by decide +kernel
theorem dX9_digit_5 : decode cX9_digit 5 = .ok (.iload 4, 2) := by decide +kernel
theorem dX9_digit_7 : decode cX9_digit 7 = .ok (.iload_n 2, 1) := by decide +kernel
theorem dX9_digit_8 : decode cX9_digit 8 = .ok (.if_icmp .ge 16, 3) := by decide +kernel
theorem dX9_digit_11 : decode cX9_digit 11 = .ok (.iload_n 3, 1) := by decide +kernel
theorem dX9_digit_12 : decode cX9_digit 12 = .ok (.aload_n 0, 1) := by decide +kernel
theorem dX9_digit_13 : decode cX9_digit 13 = .ok (.getfield 7, 3) := by decide +kernel
theorem dX9_digit_16 : decode cX9_digit 16 = .ok (.idiv, 1) := by decide +kernel
theorem dX9_digit_17 : decode cX9_digit 17 = .ok (.istore_n 3, 1) := by decide +kernel
theorem dX9_digit_18 : decode cX9_digit 18 = .ok (.iinc 4 1, 3) := by decide +kernel
theorem dX9_digit_21 : decode cX9_digit 21 = .ok (.goto (-16), 3) := by decide +kernel
theorem dX9_digit_24 : decode cX9_digit 24 = .ok (.iload_n 3, 1) := by decide +kernel
theorem dX9_digit_25 : decode cX9_digit 25 = .ok (.aload_n 0, 1) := by decide +kernel
theorem dX9_digit_26 : decode cX9_digit 26 = .ok (.getfield 7, 3) := by decide +kernel
theorem dX9_digit_29 : decode cX9_digit 29 = .ok (.irem, 1) := by decide +kernel
theorem dX9_digit_30 : decode cX9_digit 30 = .ok (.ireturn, 1) := by decide +kernel
theorem dX9_lay_0 : decode cX9_lay 0 = .ok (.bipush 81, 2) := by decide +kernel
theorem dX9_lay_2 : decode cX9_lay 2 = .ok (.iload_n 1, 1) := by decide +kernel
theorem dX9_lay_3 : decode cX9_lay 3 = .ok (.imul, 1) := by decide +kernel
theorem dX9_lay_4 : decode cX9_lay 4 = .ok (.istore_n 2, 1) := by decide +kernel
theorem dX9_lay_5 : decode cX9_lay 5 = .ok (.iconst 0, 1) := by decide +kernel
theorem dX9_lay_6 : decode cX9_lay 6 = .ok (.istore_n 3, 1) := by decide +kernel
theorem dX9_lay_7 : decode cX9_lay 7 = .ok (.iload_n 3, 1) := by decide +kernel
theorem dX9_lay_8 : decode cX9_lay 8 = .ok (.bipush 81, 2) := by decide +kernel
theorem dX9_lay_10 : decode cX9_lay 10 = .ok (.if_icmp .ge 61, 3) := by decide +kernel
theorem dX9_lay_13 : decode cX9_lay 13 = .ok (.aload_n 0, 1) := by decide +kernel
theorem dX9_lay_14 : decode cX9_lay 14 = .ok (.getfield 66, 3) := by decide +kernel
theorem dX9_lay_17 : decode cX9_lay 17 = .ok (.iload_n 2, 1) := by decide +kernel
theorem dX9_lay_18 : decode cX9_lay 18 = .ok (.iload_n 3, 1) := by decide +kernel
theorem dX9_lay_19 : decode cX9_lay 19 = .ok (.iadd, 1) := by decide +kernel
theorem dX9_lay_20 : decode cX9_lay 20 = .ok (.aload_n 0, 1) := by decide +kernel
theorem dX9_lay_21 : decode cX9_lay 21 = .ok (.aload_n 0, 1) := by decide +kernel
theorem dX9_lay_22 : decode cX9_lay 22 = .ok (.getfield 54, 3) := by decide +kernel
theorem dX9_lay_25 : decode cX9_lay 25 = .ok (.aload_n 0, 1) := by decide +kernel
theorem dX9_lay_26 : decode cX9_lay 26 = .ok (.getfield 60, 3) := by decide +kernel
theorem dX9_lay_29 : decode cX9_lay 29 = .ok (.iload_n 1, 1) := by decide +kernel
theorem dX9_lay_30 : decode cX9_lay 30 = .ok (.iaload, 1) := by decide +kernel
theorem dX9_lay_31 : decode cX9_lay 31 = .ok (.iaload, 1) := by decide +kernel
theorem dX9_lay_32 : decode cX9_lay 32 = .ok (.iload_n 3, 1) := by decide +kernel
theorem dX9_lay_33 : decode cX9_lay 33 = .ok (.bipush 9, 2) := by decide +kernel
theorem dX9_lay_35 : decode cX9_lay 35 = .ok (.idiv, 1) := by decide +kernel
theorem dX9_lay_36 : decode cX9_lay 36 = .ok (.invokevirtual 204, 3) := by decide +kernel
theorem dX9_lay_39 : decode cX9_lay 39 = .ok (.aload_n 0, 1) := by decide +kernel
theorem dX9_lay_40 : decode cX9_lay 40 = .ok (.aload_n 0, 1) := by decide +kernel
theorem dX9_lay_41 : decode cX9_lay 41 = .ok (.getfield 57, 3) := by decide +kernel
theorem dX9_lay_44 : decode cX9_lay 44 = .ok (.aload_n 0, 1) := by decide +kernel
theorem dX9_lay_45 : decode cX9_lay 45 = .ok (.getfield 60, 3) := by decide +kernel
theorem dX9_lay_48 : decode cX9_lay 48 = .ok (.iload_n 1, 1) := by decide +kernel
theorem dX9_lay_49 : decode cX9_lay 49 = .ok (.iaload, 1) := by decide +kernel
theorem dX9_lay_50 : decode cX9_lay 50 = .ok (.iaload, 1) := by decide +kernel
theorem dX9_lay_51 : decode cX9_lay 51 = .ok (.iload_n 3, 1) := by decide +kernel
theorem dX9_lay_52 : decode cX9_lay 52 = .ok (.bipush 9, 2) := by decide +kernel
theorem dX9_lay_54 : decode cX9_lay 54 = .ok (.irem, 1) := by decide +kernel
theorem dX9_lay_55 : decode cX9_lay 55 = .ok (.invokevirtual 204, 3) := by decide +kernel
theorem dX9_lay_58 : decode cX9_lay 58 = .ok (.imul, 1) := by decide +kernel
theorem dX9_lay_59 : decode cX9_lay 59 = .ok (.aload_n 0, 1) := by decide +kernel
theorem dX9_lay_60 : decode cX9_lay 60 = .ok (.getfield 7, 3) := by decide +kernel
theorem dX9_lay_63 : decode cX9_lay 63 = .ok (.irem, 1) := by decide +kernel
theorem dX9_lay_64 : decode cX9_lay 64 = .ok (.iastore, 1) := by decide +kernel
theorem dX9_lay_65 : decode cX9_lay 65 = .ok (.iinc 3 1, 3) := by decide +kernel
theorem dX9_lay_68 : decode cX9_lay 68 = .ok (.goto (-61), 3) := by decide +kernel
theorem dX9_lay_71 : decode cX9_lay 71 = .ok (.iconst 0, 1) := by decide +kernel
theorem dX9_lay_72 : decode cX9_lay 72 = .ok (.istore_n 3, 1) := by decide +kernel
theorem dX9_lay_73 : decode cX9_lay 73 = .ok (.iload_n 3, 1) := by decide +kernel
theorem dX9_lay_74 : decode cX9_lay 74 = .ok (.iload_n 1, 1) := by decide +kernel
theorem dX9_lay_75 : decode cX9_lay 75 = .ok (.if_icmp .ge 94, 3) := by decide +kernel
theorem dX9_lay_78 : decode cX9_lay 78 = .ok (.aload_n 0, 1) := by decide +kernel
theorem dX9_lay_79 : decode cX9_lay 79 = .ok (.getfield 7, 3) := by decide +kernel
theorem dX9_lay_82 : decode cX9_lay 82 = .ok (.aload_n 0, 1) := by decide +kernel
theorem dX9_lay_83 : decode cX9_lay 83 = .ok (.getfield 66, 3) := by decide +kernel
theorem dX9_lay_86 : decode cX9_lay 86 = .ok (.iload_n 2, 1) := by decide +kernel
theorem dX9_lay_87 : decode cX9_lay 87 = .ok (.aload_n 0, 1) := by decide +kernel
theorem dX9_lay_88 : decode cX9_lay 88 = .ok (.getfield 69, 3) := by decide +kernel
theorem dX9_lay_91 : decode cX9_lay 91 = .ok (.iload_n 3, 1) := by decide +kernel
theorem dX9_lay_92 : decode cX9_lay 92 = .ok (.iaload, 1) := by decide +kernel
theorem dX9_lay_93 : decode cX9_lay 93 = .ok (.iadd, 1) := by decide +kernel
theorem dX9_lay_94 : decode cX9_lay 94 = .ok (.iaload, 1) := by decide +kernel
theorem dX9_lay_95 : decode cX9_lay 95 = .ok (.isub, 1) := by decide +kernel
theorem dX9_lay_96 : decode cX9_lay 96 = .ok (.aload_n 0, 1) := by decide +kernel
theorem dX9_lay_97 : decode cX9_lay 97 = .ok (.getfield 7, 3) := by decide +kernel
theorem dX9_lay_100 : decode cX9_lay 100 = .ok (.irem, 1) := by decide +kernel
theorem dX9_lay_101 : decode cX9_lay 101 = .ok (.istore 4, 2) := by decide +kernel
theorem dX9_lay_103 : decode cX9_lay 103 = .ok (.iconst 0, 1) := by decide +kernel
theorem dX9_lay_104 : decode cX9_lay 104 = .ok (.istore 5, 2) := by decide +kernel
theorem dX9_lay_106 : decode cX9_lay 106 = .ok (.iload 5, 2) := by decide +kernel
theorem dX9_lay_108 : decode cX9_lay 108 = .ok (.bipush 81, 2) := by decide +kernel
theorem dX9_lay_110 : decode cX9_lay 110 = .ok (.if_icmp .ge 53, 3) := by decide +kernel
theorem dX9_lay_113 : decode cX9_lay 113 = .ok (.iload 4, 2) := by decide +kernel
theorem dX9_lay_115 : decode cX9_lay 115 = .ok (.ifCond .le 48, 3) := by decide +kernel
theorem dX9_lay_118 : decode cX9_lay 118 = .ok (.aload_n 0, 1) := by decide +kernel
theorem dX9_lay_119 : decode cX9_lay 119 = .ok (.getfield 66, 3) := by decide +kernel
theorem dX9_lay_122 : decode cX9_lay 122 = .ok (.iload_n 2, 1) := by decide +kernel
theorem dX9_lay_123 : decode cX9_lay 123 = .ok (.iload 5, 2) := by decide +kernel
theorem dX9_lay_125 : decode cX9_lay 125 = .ok (.iadd, 1) := by decide +kernel
theorem dX9_lay_126 : decode cX9_lay 126 = .ok (.aload_n 0, 1) := by decide +kernel
theorem dX9_lay_127 : decode cX9_lay 127 = .ok (.getfield 66, 3) := by decide +kernel
theorem dX9_lay_130 : decode cX9_lay 130 = .ok (.iload_n 2, 1) := by decide +kernel
theorem dX9_lay_131 : decode cX9_lay 131 = .ok (.iload 5, 2) := by decide +kernel
theorem dX9_lay_133 : decode cX9_lay 133 = .ok (.iadd, 1) := by decide +kernel
theorem dX9_lay_134 : decode cX9_lay 134 = .ok (.iaload, 1) := by decide +kernel
theorem dX9_lay_135 : decode cX9_lay 135 = .ok (.iload 4, 2) := by decide +kernel
theorem dX9_lay_137 : decode cX9_lay 137 = .ok (.aload_n 0, 1) := by decide +kernel
theorem dX9_lay_138 : decode cX9_lay 138 = .ok (.getfield 66, 3) := by decide +kernel
theorem dX9_lay_141 : decode cX9_lay 141 = .ok (.bipush 81, 2) := by decide +kernel
theorem dX9_lay_143 : decode cX9_lay 143 = .ok (.iload_n 3, 1) := by decide +kernel
theorem dX9_lay_144 : decode cX9_lay 144 = .ok (.imul, 1) := by decide +kernel
theorem dX9_lay_145 : decode cX9_lay 145 = .ok (.iload 5, 2) := by decide +kernel
theorem dX9_lay_147 : decode cX9_lay 147 = .ok (.iadd, 1) := by decide +kernel
theorem dX9_lay_148 : decode cX9_lay 148 = .ok (.iaload, 1) := by decide +kernel
theorem dX9_lay_149 : decode cX9_lay 149 = .ok (.imul, 1) := by decide +kernel
theorem dX9_lay_150 : decode cX9_lay 150 = .ok (.iadd, 1) := by decide +kernel
theorem dX9_lay_151 : decode cX9_lay 151 = .ok (.aload_n 0, 1) := by decide +kernel
theorem dX9_lay_152 : decode cX9_lay 152 = .ok (.getfield 7, 3) := by decide +kernel
theorem dX9_lay_155 : decode cX9_lay 155 = .ok (.irem, 1) := by decide +kernel
theorem dX9_lay_156 : decode cX9_lay 156 = .ok (.iastore, 1) := by decide +kernel
theorem dX9_lay_157 : decode cX9_lay 157 = .ok (.iinc 5 1, 3) := by decide +kernel
theorem dX9_lay_160 : decode cX9_lay 160 = .ok (.goto (-54), 3) := by decide +kernel
theorem dX9_lay_163 : decode cX9_lay 163 = .ok (.iinc 3 1, 3) := by decide +kernel
theorem dX9_lay_166 : decode cX9_lay 166 = .ok (.goto (-93), 3) := by decide +kernel
theorem dX9_lay_169 : decode cX9_lay 169 = .ok (.iconst 0, 1) := by decide +kernel
theorem dX9_lay_170 : decode cX9_lay 170 = .ok (.istore_n 3, 1) := by decide +kernel
theorem dX9_lay_171 : decode cX9_lay 171 = .ok (.iload_n 3, 1) := by decide +kernel
theorem dX9_lay_172 : decode cX9_lay 172 = .ok (.bipush 81, 2) := by decide +kernel
theorem dX9_lay_174 : decode cX9_lay 174 = .ok (.if_icmp .ge 20, 3) := by decide +kernel
theorem dX9_lay_177 : decode cX9_lay 177 = .ok (.aload_n 0, 1) := by decide +kernel
theorem dX9_lay_178 : decode cX9_lay 178 = .ok (.getfield 66, 3) := by decide +kernel
theorem dX9_lay_181 : decode cX9_lay 181 = .ok (.iload_n 2, 1) := by decide +kernel
theorem dX9_lay_182 : decode cX9_lay 182 = .ok (.iload_n 3, 1) := by decide +kernel
theorem dX9_lay_183 : decode cX9_lay 183 = .ok (.iadd, 1) := by decide +kernel
theorem dX9_lay_184 : decode cX9_lay 184 = .ok (.iaload, 1) := by decide +kernel
theorem dX9_lay_185 : decode cX9_lay 185 = .ok (.ifCond .ne 9, 3) := by decide +kernel
theorem dX9_lay_188 : decode cX9_lay 188 = .ok (.iinc 3 1, 3) := by decide +kernel
theorem dX9_lay_191 : decode cX9_lay 191 = .ok (.goto (-20), 3) := by decide +kernel
theorem dX9_lay_194 : decode cX9_lay 194 = .ok (.iload_n 3, 1) := by decide +kernel
theorem dX9_lay_195 : decode cX9_lay 195 = .ok (.bipush 81, 2) := by decide +kernel
theorem dX9_lay_197 : decode cX9_lay 197 = .ok (.if_icmp .ne 5, 3) := by decide +kernel
theorem dX9_lay_200 : decode cX9_lay 200 = .ok (.iconst 0, 1) := by decide +kernel
theorem dX9_lay_201 : decode cX9_lay 201 = .ok (.ireturn, 1) := by decide +kernel
theorem dX9_lay_202 : decode cX9_lay 202 = .ok (.aload_n 0, 1) := by decide +kernel
theorem dX9_lay_203 : decode cX9_lay 203 = .ok (.getfield 69, 3) := by decide +kernel
theorem dX9_lay_206 : decode cX9_lay 206 = .ok (.iload_n 1, 1) := by decide +kernel
theorem dX9_lay_207 : decode cX9_lay 207 = .ok (.iload_n 3, 1) := by decide +kernel
theorem dX9_lay_208 : decode cX9_lay 208 = .ok (.iastore, 1) := by decide +kernel
theorem dX9_lay_209 : decode cX9_lay 209 = .ok (.aload_n 0, 1) := by decide +kernel
theorem dX9_lay_210 : decode cX9_lay 210 = .ok (.aload_n 0, 1) := by decide +kernel
theorem dX9_lay_211 : decode cX9_lay 211 = .ok (.getfield 66, 3) := by decide +kernel
theorem dX9_lay_214 : decode cX9_lay 214 = .ok (.iload_n 2, 1) := by decide +kernel
theorem dX9_lay_215 : decode cX9_lay 215 = .ok (.iload_n 3, 1) := by decide +kernel
theorem dX9_lay_216 : decode cX9_lay 216 = .ok (.iadd, 1) := by decide +kernel
theorem dX9_lay_217 : decode cX9_lay 217 = .ok (.iaload, 1) := by decide +kernel
theorem dX9_lay_218 : decode cX9_lay 218 = .ok (.invokevirtual 147, 3) := by decide +kernel
theorem dX9_lay_221 : decode cX9_lay 221 = .ok (.istore 4, 2) := by decide +kernel
theorem dX9_lay_223 : decode cX9_lay 223 = .ok (.iconst 0, 1) := by decide +kernel
theorem dX9_lay_224 : decode cX9_lay 224 = .ok (.istore 5, 2) := by decide +kernel
theorem dX9_lay_226 : decode cX9_lay 226 = .ok (.iload 5, 2) := by decide +kernel
theorem dX9_lay_228 : decode cX9_lay 228 = .ok (.bipush 81, 2) := by decide +kernel
theorem dX9_lay_230 : decode cX9_lay 230 = .ok (.if_icmp .ge 35, 3) := by decide +kernel
theorem dX9_lay_233 : decode cX9_lay 233 = .ok (.aload_n 0, 1) := by decide +kernel
theorem dX9_lay_234 : decode cX9_lay 234 = .ok (.getfield 66, 3) := by decide +kernel
theorem dX9_lay_237 : decode cX9_lay 237 = .ok (.iload_n 2, 1) := by decide +kernel
theorem dX9_lay_238 : decode cX9_lay 238 = .ok (.iload 5, 2) := by decide +kernel
theorem dX9_lay_240 : decode cX9_lay 240 = .ok (.iadd, 1) := by decide +kernel
theorem dX9_lay_241 : decode cX9_lay 241 = .ok (.aload_n 0, 1) := by decide +kernel
theorem dX9_lay_242 : decode cX9_lay 242 = .ok (.getfield 66, 3) := by decide +kernel
theorem dX9_lay_245 : decode cX9_lay 245 = .ok (.iload_n 2, 1) := by decide +kernel
theorem dX9_lay_246 : decode cX9_lay 246 = .ok (.iload 5, 2) := by decide +kernel
theorem dX9_lay_248 : decode cX9_lay 248 = .ok (.iadd, 1) := by decide +kernel
theorem dX9_lay_249 : decode cX9_lay 249 = .ok (.iaload, 1) := by decide +kernel
theorem dX9_lay_250 : decode cX9_lay 250 = .ok (.iload 4, 2) := by decide +kernel
theorem dX9_lay_252 : decode cX9_lay 252 = .ok (.imul, 1) := by decide +kernel
theorem dX9_lay_253 : decode cX9_lay 253 = .ok (.aload_n 0, 1) := by decide +kernel
theorem dX9_lay_254 : decode cX9_lay 254 = .ok (.getfield 7, 3) := by decide +kernel
theorem dX9_lay_257 : decode cX9_lay 257 = .ok (.irem, 1) := by decide +kernel
theorem dX9_lay_258 : decode cX9_lay 258 = .ok (.iastore, 1) := by decide +kernel
theorem dX9_lay_259 : decode cX9_lay 259 = .ok (.iinc 5 1, 3) := by decide +kernel
theorem dX9_lay_262 : decode cX9_lay 262 = .ok (.goto (-36), 3) := by decide +kernel
theorem dX9_lay_265 : decode cX9_lay 265 = .ok (.iconst 0, 1) := by decide +kernel
theorem dX9_lay_266 : decode cX9_lay 266 = .ok (.istore 5, 2) := by decide +kernel
theorem dX9_lay_268 : decode cX9_lay 268 = .ok (.iload 5, 2) := by decide +kernel
theorem dX9_lay_270 : decode cX9_lay 270 = .ok (.aload_n 0, 1) := by decide +kernel
theorem dX9_lay_271 : decode cX9_lay 271 = .ok (.getfield 13, 3) := by decide +kernel
theorem dX9_lay_274 : decode cX9_lay 274 = .ok (.iconst 2, 1) := by decide +kernel
theorem dX9_lay_275 : decode cX9_lay 275 = .ok (.iaload, 1) := by decide +kernel
theorem dX9_lay_276 : decode cX9_lay 276 = .ok (.if_icmp .ge 101, 3) := by decide +kernel
theorem dX9_lay_279 : decode cX9_lay 279 = .ok (.sipush 729, 3) := by decide +kernel
theorem dX9_lay_282 : decode cX9_lay 282 = .ok (.iload_n 1, 1) := by decide +kernel
theorem dX9_lay_283 : decode cX9_lay 283 = .ok (.imul, 1) := by decide +kernel
theorem dX9_lay_284 : decode cX9_lay 284 = .ok (.bipush 81, 2) := by decide +kernel
theorem dX9_lay_286 : decode cX9_lay 286 = .ok (.iload 5, 2) := by decide +kernel
theorem dX9_lay_288 : decode cX9_lay 288 = .ok (.imul, 1) := by decide +kernel
theorem dX9_lay_289 : decode cX9_lay 289 = .ok (.iadd, 1) := by decide +kernel
theorem dX9_lay_290 : decode cX9_lay 290 = .ok (.istore 6, 2) := by decide +kernel
theorem dX9_lay_292 : decode cX9_lay 292 = .ok (.aload_n 0, 1) := by decide +kernel
theorem dX9_lay_293 : decode cX9_lay 293 = .ok (.getfield 7, 3) := by decide +kernel
theorem dX9_lay_296 : decode cX9_lay 296 = .ok (.aload_n 0, 1) := by decide +kernel
theorem dX9_lay_297 : decode cX9_lay 297 = .ok (.getfield 63, 3) := by decide +kernel
theorem dX9_lay_300 : decode cX9_lay 300 = .ok (.iload 6, 2) := by decide +kernel
theorem dX9_lay_302 : decode cX9_lay 302 = .ok (.iload_n 3, 1) := by decide +kernel
theorem dX9_lay_303 : decode cX9_lay 303 = .ok (.iadd, 1) := by decide +kernel
theorem dX9_lay_304 : decode cX9_lay 304 = .ok (.iaload, 1) := by decide +kernel
theorem dX9_lay_305 : decode cX9_lay 305 = .ok (.isub, 1) := by decide +kernel
theorem dX9_lay_306 : decode cX9_lay 306 = .ok (.aload_n 0, 1) := by decide +kernel
theorem dX9_lay_307 : decode cX9_lay 307 = .ok (.getfield 7, 3) := by decide +kernel
theorem dX9_lay_310 : decode cX9_lay 310 = .ok (.irem, 1) := by decide +kernel
theorem dX9_lay_311 : decode cX9_lay 311 = .ok (.istore 7, 2) := by decide +kernel
theorem dX9_lay_313 : decode cX9_lay 313 = .ok (.iconst 0, 1) := by decide +kernel
theorem dX9_lay_314 : decode cX9_lay 314 = .ok (.istore 8, 2) := by decide +kernel
theorem dX9_lay_316 : decode cX9_lay 316 = .ok (.iload 8, 2) := by decide +kernel
theorem dX9_lay_318 : decode cX9_lay 318 = .ok (.bipush 81, 2) := by decide +kernel
theorem dX9_lay_320 : decode cX9_lay 320 = .ok (.if_icmp .ge 51, 3) := by decide +kernel
theorem dX9_lay_323 : decode cX9_lay 323 = .ok (.aload_n 0, 1) := by decide +kernel
theorem dX9_lay_324 : decode cX9_lay 324 = .ok (.getfield 63, 3) := by decide +kernel
theorem dX9_lay_327 : decode cX9_lay 327 = .ok (.iload 6, 2) := by decide +kernel
theorem dX9_lay_329 : decode cX9_lay 329 = .ok (.sipush 729, 3) := by decide +kernel
theorem dX9_lay_332 : decode cX9_lay 332 = .ok (.iadd, 1) := by decide +kernel
theorem dX9_lay_333 : decode cX9_lay 333 = .ok (.iload 8, 2) := by decide +kernel
theorem dX9_lay_335 : decode cX9_lay 335 = .ok (.iadd, 1) := by decide +kernel
theorem dX9_lay_336 : decode cX9_lay 336 = .ok (.aload_n 0, 1) := by decide +kernel
theorem dX9_lay_337 : decode cX9_lay 337 = .ok (.getfield 63, 3) := by decide +kernel
theorem dX9_lay_340 : decode cX9_lay 340 = .ok (.iload 6, 2) := by decide +kernel
theorem dX9_lay_342 : decode cX9_lay 342 = .ok (.iload 8, 2) := by decide +kernel
theorem dX9_lay_344 : decode cX9_lay 344 = .ok (.iadd, 1) := by decide +kernel
theorem dX9_lay_345 : decode cX9_lay 345 = .ok (.iaload, 1) := by decide +kernel
theorem dX9_lay_346 : decode cX9_lay 346 = .ok (.iload 7, 2) := by decide +kernel
theorem dX9_lay_348 : decode cX9_lay 348 = .ok (.aload_n 0, 1) := by decide +kernel
theorem dX9_lay_349 : decode cX9_lay 349 = .ok (.getfield 66, 3) := by decide +kernel
theorem dX9_lay_352 : decode cX9_lay 352 = .ok (.iload_n 2, 1) := by decide +kernel
theorem dX9_lay_353 : decode cX9_lay 353 = .ok (.iload 8, 2) := by decide +kernel
theorem dX9_lay_355 : decode cX9_lay 355 = .ok (.iadd, 1) := by decide +kernel
theorem dX9_lay_356 : decode cX9_lay 356 = .ok (.iaload, 1) := by decide +kernel
theorem dX9_lay_357 : decode cX9_lay 357 = .ok (.imul, 1) := by decide +kernel
theorem dX9_lay_358 : decode cX9_lay 358 = .ok (.iadd, 1) := by decide +kernel
theorem dX9_lay_359 : decode cX9_lay 359 = .ok (.aload_n 0, 1) := by decide +kernel
theorem dX9_lay_360 : decode cX9_lay 360 = .ok (.getfield 7, 3) := by decide +kernel
theorem dX9_lay_363 : decode cX9_lay 363 = .ok (.irem, 1) := by decide +kernel
theorem dX9_lay_364 : decode cX9_lay 364 = .ok (.iastore, 1) := by decide +kernel
theorem dX9_lay_365 : decode cX9_lay 365 = .ok (.iinc 8 1, 3) := by decide +kernel
theorem dX9_lay_368 : decode cX9_lay 368 = .ok (.goto (-52), 3) := by decide +kernel
theorem dX9_lay_371 : decode cX9_lay 371 = .ok (.iinc 5 1, 3) := by decide +kernel
theorem dX9_lay_374 : decode cX9_lay 374 = .ok (.goto (-106), 3) := by decide +kernel
theorem dX9_lay_377 : decode cX9_lay 377 = .ok (.iconst 1, 1) := by decide +kernel
theorem dX9_lay_378 : decode cX9_lay 378 = .ok (.ireturn, 1) := by decide +kernel
theorem dX9_rankLeft_0 : decode cX9_rankLeft 0 = .ok (.iconst 0, 1) := by decide +kernel
theorem dX9_rankLeft_1 : decode cX9_rankLeft 1 = .ok (.istore_n 2, 1) := by decide +kernel
theorem dX9_rankLeft_2 : decode cX9_rankLeft 2 = .ok (.iload_n 2, 1) := by decide +kernel
theorem dX9_rankLeft_3 : decode cX9_rankLeft 3 = .ok (.aload_n 0, 1) := by decide +kernel
theorem dX9_rankLeft_4 : decode cX9_rankLeft 4 = .ok (.getfield 13, 3) := by decide +kernel
theorem dX9_rankLeft_7 : decode cX9_rankLeft 7 = .ok (.iconst 2, 1) := by decide +kernel
theorem dX9_rankLeft_8 : decode cX9_rankLeft 8 = .ok (.iaload, 1) := by decide +kernel
theorem dX9_rankLeft_9 : decode cX9_rankLeft 9 = .ok (.if_icmp .ge 51, 3) := by decide +kernel
theorem dX9_rankLeft_12 : decode cX9_rankLeft 12 = .ok (.iconst 0, 1) := by decide +kernel
theorem dX9_rankLeft_13 : decode cX9_rankLeft 13 = .ok (.istore_n 3, 1) := by decide +kernel
theorem dX9_rankLeft_14 : decode cX9_rankLeft 14 = .ok (.iload_n 3, 1) := by decide +kernel
theorem dX9_rankLeft_15 : decode cX9_rankLeft 15 = .ok (.bipush 81, 2) := by decide +kernel
theorem dX9_rankLeft_17 : decode cX9_rankLeft 17 = .ok (.if_icmp .ge 37, 3) := by decide +kernel
theorem dX9_rankLeft_20 : decode cX9_rankLeft 20 = .ok (.aload_n 0, 1) := by decide +kernel
theorem dX9_rankLeft_21 : decode cX9_rankLeft 21 = .ok (.getfield 51, 3) := by decide +kernel
theorem dX9_rankLeft_24 : decode cX9_rankLeft 24 = .ok (.bipush 81, 2) := by decide +kernel
theorem dX9_rankLeft_26 : decode cX9_rankLeft 26 = .ok (.iload_n 2, 1) := by decide +kernel
theorem dX9_rankLeft_27 : decode cX9_rankLeft 27 = .ok (.imul, 1) := by decide +kernel
theorem dX9_rankLeft_28 : decode cX9_rankLeft 28 = .ok (.iload_n 3, 1) := by decide +kernel
theorem dX9_rankLeft_29 : decode cX9_rankLeft 29 = .ok (.iadd, 1) := by decide +kernel
theorem dX9_rankLeft_30 : decode cX9_rankLeft 30 = .ok (.aload_n 0, 1) := by decide +kernel
theorem dX9_rankLeft_31 : decode cX9_rankLeft 31 = .ok (.getfield 63, 3) := by decide +kernel
theorem dX9_rankLeft_34 : decode cX9_rankLeft 34 = .ok (.sipush 729, 3) := by decide +kernel
theorem dX9_rankLeft_37 : decode cX9_rankLeft 37 = .ok (.iload_n 1, 1) := by decide +kernel
theorem dX9_rankLeft_38 : decode cX9_rankLeft 38 = .ok (.imul, 1) := by decide +kernel
theorem dX9_rankLeft_39 : decode cX9_rankLeft 39 = .ok (.bipush 81, 2) := by decide +kernel
theorem dX9_rankLeft_41 : decode cX9_rankLeft 41 = .ok (.iload_n 2, 1) := by decide +kernel
theorem dX9_rankLeft_42 : decode cX9_rankLeft 42 = .ok (.imul, 1) := by decide +kernel
theorem dX9_rankLeft_43 : decode cX9_rankLeft 43 = .ok (.iadd, 1) := by decide +kernel
theorem dX9_rankLeft_44 : decode cX9_rankLeft 44 = .ok (.iload_n 3, 1) := by decide +kernel
theorem dX9_rankLeft_45 : decode cX9_rankLeft 45 = .ok (.iadd, 1) := by decide +kernel
theorem dX9_rankLeft_46 : decode cX9_rankLeft 46 = .ok (.iaload, 1) := by decide +kernel
theorem dX9_rankLeft_47 : decode cX9_rankLeft 47 = .ok (.iastore, 1) := by decide +kernel
theorem dX9_rankLeft_48 : decode cX9_rankLeft 48 = .ok (.iinc 3 1, 3) := by decide +kernel
theorem dX9_rankLeft_51 : decode cX9_rankLeft 51 = .ok (.goto (-37), 3) := by decide +kernel
theorem dX9_rankLeft_54 : decode cX9_rankLeft 54 = .ok (.iinc 2 1, 3) := by decide +kernel
theorem dX9_rankLeft_57 : decode cX9_rankLeft 57 = .ok (.goto (-55), 3) := by decide +kernel
theorem dX9_rankLeft_60 : decode cX9_rankLeft 60 = .ok (.aload_n 0, 1) := by decide +kernel
theorem dX9_rankLeft_61 : decode cX9_rankLeft 61 = .ok (.aload_n 0, 1) := by decide +kernel
theorem dX9_rankLeft_62 : decode cX9_rankLeft 62 = .ok (.getfield 13, 3) := by decide +kernel
theorem dX9_rankLeft_65 : decode cX9_rankLeft 65 = .ok (.iconst 2, 1) := by decide +kernel
theorem dX9_rankLeft_66 : decode cX9_rankLeft 66 = .ok (.iaload, 1) := by decide +kernel
theorem dX9_rankLeft_67 : decode cX9_rankLeft 67 = .ok (.bipush 81, 2) := by decide +kernel
theorem dX9_rankLeft_69 : decode cX9_rankLeft 69 = .ok (.invokevirtual 185, 3) := by decide +kernel
theorem dX9_rankLeft_72 : decode cX9_rankLeft 72 = .ok (.ireturn, 1) := by decide +kernel
theorem dX9_isDoneBy_0 : decode cX9_isDoneBy 0 = .ok (.aload_n 0, 1) := by decide +kernel
theorem dX9_isDoneBy_1 : decode cX9_isDoneBy 1 = .ok (.iconst 0, 1) := by decide +kernel
theorem dX9_isDoneBy_2 : decode cX9_isDoneBy 2 = .ok (.invokevirtual 207, 3) := by decide +kernel
theorem dX9_isDoneBy_5 : decode cX9_isDoneBy 5 = .ok (.iload_n 1, 1) := by decide +kernel
theorem dX9_isDoneBy_6 : decode cX9_isDoneBy 6 = .ok (.if_icmp .le 5, 3) := by decide +kernel
theorem dX9_isDoneBy_9 : decode cX9_isDoneBy 9 = .ok (.iconst 0, 1) := by decide +kernel
theorem dX9_isDoneBy_10 : decode cX9_isDoneBy 10 = .ok (.ireturn, 1) := by decide +kernel
theorem dX9_isDoneBy_11 : decode cX9_isDoneBy 11 = .ok (.iconst 0, 1) := by decide +kernel
theorem dX9_isDoneBy_12 : decode cX9_isDoneBy 12 = .ok (.istore_n 2, 1) := by decide +kernel
theorem dX9_isDoneBy_13 : decode cX9_isDoneBy 13 = .ok (.aload_n 0, 1) := by decide +kernel
theorem dX9_isDoneBy_14 : decode cX9_isDoneBy 14 = .ok (.getfield 60, 3) := by decide +kernel
theorem dX9_isDoneBy_17 : decode cX9_isDoneBy 17 = .ok (.iconst 0, 1) := by decide +kernel
theorem dX9_isDoneBy_18 : decode cX9_isDoneBy 18 = .ok (.iconst (-1), 1) := by decide +kernel
theorem dX9_isDoneBy_19 : decode cX9_isDoneBy 19 = .ok (.iastore, 1) := by decide +kernel
theorem dX9_isDoneBy_20 : decode cX9_isDoneBy 20 = .ok (.iload_n 2, 1) := by decide +kernel
theorem dX9_isDoneBy_21 : decode cX9_isDoneBy 21 = .ok (.ifCond .lt 87, 3) := by decide +kernel
theorem dX9_isDoneBy_24 : decode cX9_isDoneBy 24 = .ok (.iload_n 2, 1) := by decide +kernel
theorem dX9_isDoneBy_25 : decode cX9_isDoneBy 25 = .ok (.iload_n 1, 1) := by decide +kernel
theorem dX9_isDoneBy_26 : decode cX9_isDoneBy 26 = .ok (.if_icmp .ne 5, 3) := by decide +kernel
theorem dX9_isDoneBy_29 : decode cX9_isDoneBy 29 = .ok (.iconst 1, 1) := by decide +kernel
theorem dX9_isDoneBy_30 : decode cX9_isDoneBy 30 = .ok (.ireturn, 1) := by decide +kernel
theorem dX9_isDoneBy_31 : decode cX9_isDoneBy 31 = .ok (.aload_n 0, 1) := by decide +kernel
theorem dX9_isDoneBy_32 : decode cX9_isDoneBy 32 = .ok (.getfield 60, 3) := by decide +kernel
theorem dX9_isDoneBy_35 : decode cX9_isDoneBy 35 = .ok (.iload_n 2, 1) := by decide +kernel
theorem dX9_isDoneBy_36 : decode cX9_isDoneBy 36 = .ok (.dup2, 1) := by decide +kernel
theorem dX9_isDoneBy_37 : decode cX9_isDoneBy 37 = .ok (.iaload, 1) := by decide +kernel
theorem dX9_isDoneBy_38 : decode cX9_isDoneBy 38 = .ok (.iconst 1, 1) := by decide +kernel
theorem dX9_isDoneBy_39 : decode cX9_isDoneBy 39 = .ok (.iadd, 1) := by decide +kernel
theorem dX9_isDoneBy_40 : decode cX9_isDoneBy 40 = .ok (.iastore, 1) := by decide +kernel
theorem dX9_isDoneBy_41 : decode cX9_isDoneBy 41 = .ok (.aload_n 0, 1) := by decide +kernel
theorem dX9_isDoneBy_42 : decode cX9_isDoneBy 42 = .ok (.getfield 60, 3) := by decide +kernel
theorem dX9_isDoneBy_45 : decode cX9_isDoneBy 45 = .ok (.iload_n 2, 1) := by decide +kernel
theorem dX9_isDoneBy_46 : decode cX9_isDoneBy 46 = .ok (.iaload, 1) := by decide +kernel
theorem dX9_isDoneBy_47 : decode cX9_isDoneBy 47 = .ok (.aload_n 0, 1) := by decide +kernel
theorem dX9_isDoneBy_48 : decode cX9_isDoneBy 48 = .ok (.getfield 198, 3) := by decide +kernel
theorem dX9_isDoneBy_51 : decode cX9_isDoneBy 51 = .ok (.if_icmp .lt 9, 3) := by decide +kernel
theorem dX9_isDoneBy_54 : decode cX9_isDoneBy 54 = .ok (.iinc 2 (-1), 3) := by decide +kernel
theorem dX9_isDoneBy_57 : decode cX9_isDoneBy 57 = .ok (.goto (-37), 3) := by decide +kernel
theorem dX9_isDoneBy_60 : decode cX9_isDoneBy 60 = .ok (.aload_n 0, 1) := by decide +kernel
theorem dX9_isDoneBy_61 : decode cX9_isDoneBy 61 = .ok (.iload_n 2, 1) := by decide +kernel
theorem dX9_isDoneBy_62 : decode cX9_isDoneBy 62 = .ok (.invokevirtual 210, 3) := by decide +kernel
theorem dX9_isDoneBy_65 : decode cX9_isDoneBy 65 = .ok (.ifCond .eq (-45), 3) := by decide +kernel
theorem dX9_isDoneBy_68 : decode cX9_isDoneBy 68 = .ok (.aload_n 0, 1) := by decide +kernel
theorem dX9_isDoneBy_69 : decode cX9_isDoneBy 69 = .ok (.iload_n 2, 1) := by decide +kernel
theorem dX9_isDoneBy_70 : decode cX9_isDoneBy 70 = .ok (.iconst 1, 1) := by decide +kernel
theorem dX9_isDoneBy_71 : decode cX9_isDoneBy 71 = .ok (.iadd, 1) := by decide +kernel
theorem dX9_isDoneBy_72 : decode cX9_isDoneBy 72 = .ok (.invokevirtual 207, 3) := by decide +kernel
theorem dX9_isDoneBy_75 : decode cX9_isDoneBy 75 = .ok (.iload_n 1, 1) := by decide +kernel
theorem dX9_isDoneBy_76 : decode cX9_isDoneBy 76 = .ok (.iload_n 2, 1) := by decide +kernel
theorem dX9_isDoneBy_77 : decode cX9_isDoneBy 77 = .ok (.isub, 1) := by decide +kernel
theorem dX9_isDoneBy_78 : decode cX9_isDoneBy 78 = .ok (.iconst 1, 1) := by decide +kernel
theorem dX9_isDoneBy_79 : decode cX9_isDoneBy 79 = .ok (.isub, 1) := by decide +kernel
theorem dX9_isDoneBy_80 : decode cX9_isDoneBy 80 = .ok (.if_icmp .gt (-60), 3) := by decide +kernel
theorem dX9_isDoneBy_83 : decode cX9_isDoneBy 83 = .ok (.iinc 2 1, 3) := by decide +kernel
theorem dX9_isDoneBy_86 : decode cX9_isDoneBy 86 = .ok (.iload_n 2, 1) := by decide +kernel
theorem dX9_isDoneBy_87 : decode cX9_isDoneBy 87 = .ok (.iload_n 1, 1) := by decide +kernel
theorem dX9_isDoneBy_88 : decode cX9_isDoneBy 88 = .ok (.if_icmp .ge (-68), 3) := by decide +kernel
theorem dX9_isDoneBy_91 : decode cX9_isDoneBy 91 = .ok (.aload_n 0, 1) := by decide +kernel
theorem dX9_isDoneBy_92 : decode cX9_isDoneBy 92 = .ok (.getfield 60, 3) := by decide +kernel
theorem dX9_isDoneBy_95 : decode cX9_isDoneBy 95 = .ok (.iload_n 2, 1) := by decide +kernel
theorem dX9_isDoneBy_96 : decode cX9_isDoneBy 96 = .ok (.aload_n 0, 1) := by decide +kernel
theorem dX9_isDoneBy_97 : decode cX9_isDoneBy 97 = .ok (.getfield 60, 3) := by decide +kernel
theorem dX9_isDoneBy_100 : decode cX9_isDoneBy 100 = .ok (.iload_n 2, 1) := by decide +kernel
theorem dX9_isDoneBy_101 : decode cX9_isDoneBy 101 = .ok (.iconst 1, 1) := by decide +kernel
theorem dX9_isDoneBy_102 : decode cX9_isDoneBy 102 = .ok (.isub, 1) := by decide +kernel
theorem dX9_isDoneBy_103 : decode cX9_isDoneBy 103 = .ok (.iaload, 1) := by decide +kernel
theorem dX9_isDoneBy_104 : decode cX9_isDoneBy 104 = .ok (.iastore, 1) := by decide +kernel
theorem dX9_isDoneBy_105 : decode cX9_isDoneBy 105 = .ok (.goto (-85), 3) := by decide +kernel
theorem dX9_isDoneBy_108 : decode cX9_isDoneBy 108 = .ok (.iconst 0, 1) := by decide +kernel
theorem dX9_isDoneBy_109 : decode cX9_isDoneBy 109 = .ok (.ireturn, 1) := by decide +kernel
theorem dX9_findLeast_0 : decode cX9_findLeast 0 = .ok (.aload_n 0, 1) := by decide +kernel
theorem dX9_findLeast_1 : decode cX9_findLeast 1 = .ok (.iconst 0, 1) := by decide +kernel
theorem dX9_findLeast_2 : decode cX9_findLeast 2 = .ok (.invokevirtual 213, 3) := by decide +kernel
theorem dX9_findLeast_5 : decode cX9_findLeast 5 = .ok (.aload_n 0, 1) := by decide +kernel
theorem dX9_findLeast_6 : decode cX9_findLeast 6 = .ok (.iconst 1, 1) := by decide +kernel
theorem dX9_findLeast_7 : decode cX9_findLeast 7 = .ok (.invokevirtual 213, 3) := by decide +kernel
theorem dX9_findLeast_10 : decode cX9_findLeast 10 = .ok (.lmul, 1) := by decide +kernel
theorem dX9_findLeast_11 : decode cX9_findLeast 11 = .ok (.ldc2_w 217, 3) := by decide +kernel
theorem dX9_findLeast_14 : decode cX9_findLeast 14 = .ok (.lcmp, 1) := by decide +kernel
theorem dX9_findLeast_15 : decode cX9_findLeast 15 = .ok (.ifCond .le 6, 3) := by decide +kernel
theorem dX9_findLeast_18 : decode cX9_findLeast 18 = .ok (.bipush (-3), 2) := by decide +kernel
theorem dX9_findLeast_20 : decode cX9_findLeast 20 = .ok (.ireturn, 1) := by decide +kernel
theorem dX9_findLeast_21 : decode cX9_findLeast 21 = .ok (.aload_n 0, 1) := by decide +kernel
theorem dX9_findLeast_22 : decode cX9_findLeast 22 = .ok (.getfield 91, 3) := by decide +kernel
theorem dX9_findLeast_25 : decode cX9_findLeast 25 = .ok (.ifCond .ne 99, 3) := by decide +kernel
theorem dX9_findLeast_28 : decode cX9_findLeast 28 = .ok (.aload_n 0, 1) := by decide +kernel
theorem dX9_findLeast_29 : decode cX9_findLeast 29 = .ok (.invokevirtual 219, 3) := by decide +kernel
theorem dX9_findLeast_32 : decode cX9_findLeast 32 = .ok (.iconst 0, 1) := by decide +kernel
theorem dX9_findLeast_33 : decode cX9_findLeast 33 = .ok (.istore_n 1, 1) := by decide +kernel
theorem dX9_findLeast_34 : decode cX9_findLeast 34 = .ok (.iload_n 1, 1) := by decide +kernel
theorem dX9_findLeast_35 : decode cX9_findLeast 35 = .ok (.bipush 9, 2) := by decide +kernel
theorem dX9_findLeast_37 : decode cX9_findLeast 37 = .ok (.if_icmp .ge 45, 3) := by decide +kernel
theorem dX9_findLeast_40 : decode cX9_findLeast 40 = .ok (.iconst 0, 1) := by decide +kernel
theorem dX9_findLeast_41 : decode cX9_findLeast 41 = .ok (.istore_n 2, 1) := by decide +kernel
theorem dX9_findLeast_42 : decode cX9_findLeast 42 = .ok (.iload_n 2, 1) := by decide +kernel
theorem dX9_findLeast_43 : decode cX9_findLeast 43 = .ok (.bipush 81, 2) := by decide +kernel
theorem dX9_findLeast_45 : decode cX9_findLeast 45 = .ok (.if_icmp .ge 31, 3) := by decide +kernel
theorem dX9_findLeast_48 : decode cX9_findLeast 48 = .ok (.aload_n 0, 1) := by decide +kernel
theorem dX9_findLeast_49 : decode cX9_findLeast 49 = .ok (.getfield 63, 3) := by decide +kernel
theorem dX9_findLeast_52 : decode cX9_findLeast 52 = .ok (.bipush 81, 2) := by decide +kernel
theorem dX9_findLeast_54 : decode cX9_findLeast 54 = .ok (.iload_n 1, 1) := by decide +kernel
theorem dX9_findLeast_55 : decode cX9_findLeast 55 = .ok (.imul, 1) := by decide +kernel
theorem dX9_findLeast_56 : decode cX9_findLeast 56 = .ok (.iload_n 2, 1) := by decide +kernel
theorem dX9_findLeast_57 : decode cX9_findLeast 57 = .ok (.iadd, 1) := by decide +kernel
theorem dX9_findLeast_58 : decode cX9_findLeast 58 = .ok (.aload_n 0, 1) := by decide +kernel
theorem dX9_findLeast_59 : decode cX9_findLeast 59 = .ok (.getfield 17, 3) := by decide +kernel
theorem dX9_findLeast_62 : decode cX9_findLeast 62 = .ok (.bipush 9, 2) := by decide +kernel
theorem dX9_findLeast_64 : decode cX9_findLeast 64 = .ok (.iload_n 2, 1) := by decide +kernel
theorem dX9_findLeast_65 : decode cX9_findLeast 65 = .ok (.imul, 1) := by decide +kernel
theorem dX9_findLeast_66 : decode cX9_findLeast 66 = .ok (.iload_n 1, 1) := by decide +kernel
theorem dX9_findLeast_67 : decode cX9_findLeast 67 = .ok (.iadd, 1) := by decide +kernel
theorem dX9_findLeast_68 : decode cX9_findLeast 68 = .ok (.iaload, 1) := by decide +kernel
theorem dX9_findLeast_69 : decode cX9_findLeast 69 = .ok (.iastore, 1) := by decide +kernel
theorem dX9_findLeast_70 : decode cX9_findLeast 70 = .ok (.iinc 2 1, 3) := by decide +kernel
theorem dX9_findLeast_73 : decode cX9_findLeast 73 = .ok (.goto (-31), 3) := by decide +kernel
theorem dX9_findLeast_76 : decode cX9_findLeast 76 = .ok (.iinc 1 1, 3) := by decide +kernel
theorem dX9_findLeast_79 : decode cX9_findLeast 79 = .ok (.goto (-45), 3) := by decide +kernel
theorem dX9_findLeast_82 : decode cX9_findLeast 82 = .ok (.aload_n 0, 1) := by decide +kernel
theorem dX9_findLeast_83 : decode cX9_findLeast 83 = .ok (.iconst 0, 1) := by decide +kernel
theorem dX9_findLeast_84 : decode cX9_findLeast 84 = .ok (.putfield 222, 3) := by decide +kernel
theorem dX9_findLeast_87 : decode cX9_findLeast 87 = .ok (.aload_n 0, 1) := by decide +kernel
theorem dX9_findLeast_88 : decode cX9_findLeast 88 = .ok (.getfield 222, 3) := by decide +kernel
theorem dX9_findLeast_91 : decode cX9_findLeast 91 = .ok (.iconst 4, 1) := by decide +kernel
theorem dX9_findLeast_92 : decode cX9_findLeast 92 = .ok (.if_icmp .gt 27, 3) := by decide +kernel
theorem dX9_findLeast_95 : decode cX9_findLeast 95 = .ok (.aload_n 0, 1) := by decide +kernel
theorem dX9_findLeast_96 : decode cX9_findLeast 96 = .ok (.aload_n 0, 1) := by decide +kernel
theorem dX9_findLeast_97 : decode cX9_findLeast 97 = .ok (.getfield 222, 3) := by decide +kernel
theorem dX9_findLeast_100 : decode cX9_findLeast 100 = .ok (.invokevirtual 225, 3) := by decide +kernel
theorem dX9_findLeast_103 : decode cX9_findLeast 103 = .ok (.ifCond .ne 16, 3) := by decide +kernel
theorem dX9_findLeast_106 : decode cX9_findLeast 106 = .ok (.aload_n 0, 1) := by decide +kernel
theorem dX9_findLeast_107 : decode cX9_findLeast 107 = .ok (.dup, 1) := by decide +kernel
theorem dX9_findLeast_108 : decode cX9_findLeast 108 = .ok (.getfield 222, 3) := by decide +kernel
theorem dX9_findLeast_111 : decode cX9_findLeast 111 = .ok (.iconst 1, 1) := by decide +kernel
theorem dX9_findLeast_112 : decode cX9_findLeast 112 = .ok (.iadd, 1) := by decide +kernel
theorem dX9_findLeast_113 : decode cX9_findLeast 113 = .ok (.putfield 222, 3) := by decide +kernel
theorem dX9_findLeast_116 : decode cX9_findLeast 116 = .ok (.goto (-29), 3) := by decide +kernel
theorem dX9_findLeast_119 : decode cX9_findLeast 119 = .ok (.aload_n 0, 1) := by decide +kernel
theorem dX9_findLeast_120 : decode cX9_findLeast 120 = .ok (.iconst 1, 1) := by decide +kernel
theorem dX9_findLeast_121 : decode cX9_findLeast 121 = .ok (.putfield 91, 3) := by decide +kernel
theorem dX9_findLeast_124 : decode cX9_findLeast 124 = .ok (.aload_n 0, 1) := by decide +kernel
theorem dX9_findLeast_125 : decode cX9_findLeast 125 = .ok (.getfield 222, 3) := by decide +kernel
theorem dX9_findLeast_128 : decode cX9_findLeast 128 = .ok (.iconst 4, 1) := by decide +kernel
theorem dX9_findLeast_129 : decode cX9_findLeast 129 = .ok (.if_icmp .le 8, 3) := by decide +kernel
theorem dX9_findLeast_132 : decode cX9_findLeast 132 = .ok (.bipush (-5), 2) := by decide +kernel
theorem dX9_findLeast_134 : decode cX9_findLeast 134 = .ok (.goto 7, 3) := by decide +kernel
theorem dX9_findLeast_137 : decode cX9_findLeast 137 = .ok (.aload_n 0, 1) := by decide +kernel
theorem dX9_findLeast_138 : decode cX9_findLeast 138 = .ok (.getfield 222, 3) := by decide +kernel
theorem dX9_findLeast_141 : decode cX9_findLeast 141 = .ok (.ireturn, 1) := by decide +kernel
theorem dX9_least_0 : decode cX9_least 0 = .ok (.aload_n 0, 1) := by decide +kernel
theorem dX9_least_1 : decode cX9_least 1 = .ok (.invokevirtual 228, 3) := by decide +kernel
theorem dX9_least_4 : decode cX9_least 4 = .ok (.ireturn, 1) := by decide +kernel
theorem dX9_sumTo_0 : decode cX9_sumTo 0 = .ok (.iconst 0, 1) := by decide +kernel
theorem dX9_sumTo_1 : decode cX9_sumTo 1 = .ok (.istore_n 3, 1) := by decide +kernel
theorem dX9_sumTo_2 : decode cX9_sumTo 2 = .ok (.iload_n 3, 1) := by decide +kernel
theorem dX9_sumTo_3 : decode cX9_sumTo 3 = .ok (.bipush 81, 2) := by decide +kernel
theorem dX9_sumTo_5 : decode cX9_sumTo 5 = .ok (.if_icmp .ge 102, 3) := by decide +kernel
theorem dX9_sumTo_8 : decode cX9_sumTo 8 = .ok (.iconst 0, 1) := by decide +kernel
theorem dX9_sumTo_9 : decode cX9_sumTo 9 = .ok (.istore 4, 2) := by decide +kernel
theorem dX9_sumTo_11 : decode cX9_sumTo 11 = .ok (.iload 4, 2) := by decide +kernel
theorem dX9_sumTo_13 : decode cX9_sumTo 13 = .ok (.iload_n 1, 1) := by decide +kernel
theorem dX9_sumTo_14 : decode cX9_sumTo 14 = .ok (.if_icmp .ge 66, 3) := by decide +kernel
theorem dX9_sumTo_17 : decode cX9_sumTo 17 = .ok (.aload_n 0, 1) := by decide +kernel
theorem dX9_sumTo_18 : decode cX9_sumTo 18 = .ok (.getfield 72, 3) := by decide +kernel
theorem dX9_sumTo_21 : decode cX9_sumTo 21 = .ok (.iconst 5, 1) := by decide +kernel
theorem dX9_sumTo_22 : decode cX9_sumTo 22 = .ok (.iload_n 3, 1) := by decide +kernel
theorem dX9_sumTo_23 : decode cX9_sumTo 23 = .ok (.imul, 1) := by decide +kernel
theorem dX9_sumTo_24 : decode cX9_sumTo 24 = .ok (.iload 4, 2) := by decide +kernel
theorem dX9_sumTo_26 : decode cX9_sumTo 26 = .ok (.iadd, 1) := by decide +kernel
theorem dX9_sumTo_27 : decode cX9_sumTo 27 = .ok (.aload_n 0, 1) := by decide +kernel
theorem dX9_sumTo_28 : decode cX9_sumTo 28 = .ok (.aload_n 0, 1) := by decide +kernel
theorem dX9_sumTo_29 : decode cX9_sumTo 29 = .ok (.getfield 54, 3) := by decide +kernel
theorem dX9_sumTo_32 : decode cX9_sumTo 32 = .ok (.aload_n 0, 1) := by decide +kernel
theorem dX9_sumTo_33 : decode cX9_sumTo 33 = .ok (.getfield 60, 3) := by decide +kernel
theorem dX9_sumTo_36 : decode cX9_sumTo 36 = .ok (.iload 4, 2) := by decide +kernel
theorem dX9_sumTo_38 : decode cX9_sumTo 38 = .ok (.iaload, 1) := by decide +kernel
theorem dX9_sumTo_39 : decode cX9_sumTo 39 = .ok (.iaload, 1) := by decide +kernel
theorem dX9_sumTo_40 : decode cX9_sumTo 40 = .ok (.iload_n 3, 1) := by decide +kernel
theorem dX9_sumTo_41 : decode cX9_sumTo 41 = .ok (.bipush 9, 2) := by decide +kernel
theorem dX9_sumTo_43 : decode cX9_sumTo 43 = .ok (.idiv, 1) := by decide +kernel
theorem dX9_sumTo_44 : decode cX9_sumTo 44 = .ok (.invokevirtual 204, 3) := by decide +kernel
theorem dX9_sumTo_47 : decode cX9_sumTo 47 = .ok (.aload_n 0, 1) := by decide +kernel
theorem dX9_sumTo_48 : decode cX9_sumTo 48 = .ok (.aload_n 0, 1) := by decide +kernel
theorem dX9_sumTo_49 : decode cX9_sumTo 49 = .ok (.getfield 57, 3) := by decide +kernel
theorem dX9_sumTo_52 : decode cX9_sumTo 52 = .ok (.aload_n 0, 1) := by decide +kernel
theorem dX9_sumTo_53 : decode cX9_sumTo 53 = .ok (.getfield 60, 3) := by decide +kernel
theorem dX9_sumTo_56 : decode cX9_sumTo 56 = .ok (.iload 4, 2) := by decide +kernel
theorem dX9_sumTo_58 : decode cX9_sumTo 58 = .ok (.iaload, 1) := by decide +kernel
theorem dX9_sumTo_59 : decode cX9_sumTo 59 = .ok (.iaload, 1) := by decide +kernel
theorem dX9_sumTo_60 : decode cX9_sumTo 60 = .ok (.iload_n 3, 1) := by decide +kernel
theorem dX9_sumTo_61 : decode cX9_sumTo 61 = .ok (.bipush 9, 2) := by decide +kernel
theorem dX9_sumTo_63 : decode cX9_sumTo 63 = .ok (.irem, 1) := by decide +kernel
theorem dX9_sumTo_64 : decode cX9_sumTo 64 = .ok (.invokevirtual 204, 3) := by decide +kernel
theorem dX9_sumTo_67 : decode cX9_sumTo 67 = .ok (.imul, 1) := by decide +kernel
theorem dX9_sumTo_68 : decode cX9_sumTo 68 = .ok (.aload_n 0, 1) := by decide +kernel
theorem dX9_sumTo_69 : decode cX9_sumTo 69 = .ok (.getfield 7, 3) := by decide +kernel
theorem dX9_sumTo_72 : decode cX9_sumTo 72 = .ok (.irem, 1) := by decide +kernel
theorem dX9_sumTo_73 : decode cX9_sumTo 73 = .ok (.iastore, 1) := by decide +kernel
theorem dX9_sumTo_74 : decode cX9_sumTo 74 = .ok (.iinc 4 1, 3) := by decide +kernel
theorem dX9_sumTo_77 : decode cX9_sumTo 77 = .ok (.goto (-66), 3) := by decide +kernel
theorem dX9_sumTo_80 : decode cX9_sumTo 80 = .ok (.aload_n 0, 1) := by decide +kernel
theorem dX9_sumTo_81 : decode cX9_sumTo 81 = .ok (.getfield 72, 3) := by decide +kernel
theorem dX9_sumTo_84 : decode cX9_sumTo 84 = .ok (.iconst 5, 1) := by decide +kernel
theorem dX9_sumTo_85 : decode cX9_sumTo 85 = .ok (.iload_n 3, 1) := by decide +kernel
theorem dX9_sumTo_86 : decode cX9_sumTo 86 = .ok (.imul, 1) := by decide +kernel
theorem dX9_sumTo_87 : decode cX9_sumTo 87 = .ok (.iconst 4, 1) := by decide +kernel
theorem dX9_sumTo_88 : decode cX9_sumTo 88 = .ok (.iadd, 1) := by decide +kernel
theorem dX9_sumTo_89 : decode cX9_sumTo 89 = .ok (.aload_n 0, 1) := by decide +kernel
theorem dX9_sumTo_90 : decode cX9_sumTo 90 = .ok (.getfield 17, 3) := by decide +kernel
theorem dX9_sumTo_93 : decode cX9_sumTo 93 = .ok (.bipush 9, 2) := by decide +kernel
theorem dX9_sumTo_95 : decode cX9_sumTo 95 = .ok (.iload_n 3, 1) := by decide +kernel
theorem dX9_sumTo_96 : decode cX9_sumTo 96 = .ok (.imul, 1) := by decide +kernel
theorem dX9_sumTo_97 : decode cX9_sumTo 97 = .ok (.iload_n 2, 1) := by decide +kernel
theorem dX9_sumTo_98 : decode cX9_sumTo 98 = .ok (.iadd, 1) := by decide +kernel
theorem dX9_sumTo_99 : decode cX9_sumTo 99 = .ok (.iaload, 1) := by decide +kernel
theorem dX9_sumTo_100 : decode cX9_sumTo 100 = .ok (.iastore, 1) := by decide +kernel
theorem dX9_sumTo_101 : decode cX9_sumTo 101 = .ok (.iinc 3 1, 3) := by decide +kernel
theorem dX9_sumTo_104 : decode cX9_sumTo 104 = .ok (.goto (-102), 3) := by decide +kernel
theorem dX9_sumTo_107 : decode cX9_sumTo 107 = .ok (.iconst 0, 1) := by decide +kernel
theorem dX9_sumTo_108 : decode cX9_sumTo 108 = .ok (.istore_n 3, 1) := by decide +kernel
theorem dX9_sumTo_109 : decode cX9_sumTo 109 = .ok (.iload_n 3, 1) := by decide +kernel
theorem dX9_sumTo_110 : decode cX9_sumTo 110 = .ok (.iload_n 1, 1) := by decide +kernel
theorem dX9_sumTo_111 : decode cX9_sumTo 111 = .ok (.if_icmp .ge 235, 3) := by decide +kernel
theorem dX9_sumTo_114 : decode cX9_sumTo 114 = .ok (.iload_n 3, 1) := by decide +kernel
theorem dX9_sumTo_115 : decode cX9_sumTo 115 = .ok (.istore 4, 2) := by decide +kernel
theorem dX9_sumTo_117 : decode cX9_sumTo 117 = .ok (.aload_n 0, 1) := by decide +kernel
theorem dX9_sumTo_118 : decode cX9_sumTo 118 = .ok (.getfield 72, 3) := by decide +kernel
theorem dX9_sumTo_121 : decode cX9_sumTo 121 = .ok (.iconst 5, 1) := by decide +kernel
theorem dX9_sumTo_122 : decode cX9_sumTo 122 = .ok (.iload 4, 2) := by decide +kernel
theorem dX9_sumTo_124 : decode cX9_sumTo 124 = .ok (.imul, 1) := by decide +kernel
theorem dX9_sumTo_125 : decode cX9_sumTo 125 = .ok (.iload_n 3, 1) := by decide +kernel
theorem dX9_sumTo_126 : decode cX9_sumTo 126 = .ok (.iadd, 1) := by decide +kernel
theorem dX9_sumTo_127 : decode cX9_sumTo 127 = .ok (.iaload, 1) := by decide +kernel
theorem dX9_sumTo_128 : decode cX9_sumTo 128 = .ok (.ifCond .ne 9, 3) := by decide +kernel
theorem dX9_sumTo_131 : decode cX9_sumTo 131 = .ok (.iinc 4 1, 3) := by decide +kernel
theorem dX9_sumTo_134 : decode cX9_sumTo 134 = .ok (.goto (-17), 3) := by decide +kernel
theorem dX9_sumTo_137 : decode cX9_sumTo 137 = .ok (.aload_n 0, 1) := by decide +kernel
theorem dX9_sumTo_138 : decode cX9_sumTo 138 = .ok (.aload_n 0, 1) := by decide +kernel
theorem dX9_sumTo_139 : decode cX9_sumTo 139 = .ok (.getfield 72, 3) := by decide +kernel
theorem dX9_sumTo_142 : decode cX9_sumTo 142 = .ok (.iconst 5, 1) := by decide +kernel
theorem dX9_sumTo_143 : decode cX9_sumTo 143 = .ok (.iload 4, 2) := by decide +kernel
theorem dX9_sumTo_145 : decode cX9_sumTo 145 = .ok (.imul, 1) := by decide +kernel
theorem dX9_sumTo_146 : decode cX9_sumTo 146 = .ok (.iload_n 3, 1) := by decide +kernel
theorem dX9_sumTo_147 : decode cX9_sumTo 147 = .ok (.iadd, 1) := by decide +kernel
theorem dX9_sumTo_148 : decode cX9_sumTo 148 = .ok (.iaload, 1) := by decide +kernel
theorem dX9_sumTo_149 : decode cX9_sumTo 149 = .ok (.invokevirtual 147, 3) := by decide +kernel
theorem dX9_sumTo_152 : decode cX9_sumTo 152 = .ok (.istore 5, 2) := by decide +kernel
theorem dX9_sumTo_154 : decode cX9_sumTo 154 = .ok (.iconst 0, 1) := by decide +kernel
theorem dX9_sumTo_155 : decode cX9_sumTo 155 = .ok (.istore 6, 2) := by decide +kernel
theorem dX9_sumTo_157 : decode cX9_sumTo 157 = .ok (.iload 6, 2) := by decide +kernel
theorem dX9_sumTo_159 : decode cX9_sumTo 159 = .ok (.iconst 5, 1) := by decide +kernel
theorem dX9_sumTo_160 : decode cX9_sumTo 160 = .ok (.if_icmp .ge 67, 3) := by decide +kernel
theorem dX9_sumTo_163 : decode cX9_sumTo 163 = .ok (.aload_n 0, 1) := by decide +kernel
theorem dX9_sumTo_164 : decode cX9_sumTo 164 = .ok (.getfield 72, 3) := by decide +kernel
theorem dX9_sumTo_167 : decode cX9_sumTo 167 = .ok (.iconst 5, 1) := by decide +kernel
theorem dX9_sumTo_168 : decode cX9_sumTo 168 = .ok (.iload 4, 2) := by decide +kernel
theorem dX9_sumTo_170 : decode cX9_sumTo 170 = .ok (.imul, 1) := by decide +kernel
theorem dX9_sumTo_171 : decode cX9_sumTo 171 = .ok (.iload 6, 2) := by decide +kernel
theorem dX9_sumTo_173 : decode cX9_sumTo 173 = .ok (.iadd, 1) := by decide +kernel
theorem dX9_sumTo_174 : decode cX9_sumTo 174 = .ok (.iaload, 1) := by decide +kernel
theorem dX9_sumTo_175 : decode cX9_sumTo 175 = .ok (.iload 5, 2) := by decide +kernel
theorem dX9_sumTo_177 : decode cX9_sumTo 177 = .ok (.imul, 1) := by decide +kernel
theorem dX9_sumTo_178 : decode cX9_sumTo 178 = .ok (.aload_n 0, 1) := by decide +kernel
theorem dX9_sumTo_179 : decode cX9_sumTo 179 = .ok (.getfield 7, 3) := by decide +kernel
theorem dX9_sumTo_182 : decode cX9_sumTo 182 = .ok (.irem, 1) := by decide +kernel
theorem dX9_sumTo_183 : decode cX9_sumTo 183 = .ok (.istore 7, 2) := by decide +kernel
theorem dX9_sumTo_185 : decode cX9_sumTo 185 = .ok (.aload_n 0, 1) := by decide +kernel
theorem dX9_sumTo_186 : decode cX9_sumTo 186 = .ok (.getfield 72, 3) := by decide +kernel
theorem dX9_sumTo_189 : decode cX9_sumTo 189 = .ok (.iconst 5, 1) := by decide +kernel
theorem dX9_sumTo_190 : decode cX9_sumTo 190 = .ok (.iload 4, 2) := by decide +kernel
theorem dX9_sumTo_192 : decode cX9_sumTo 192 = .ok (.imul, 1) := by decide +kernel
theorem dX9_sumTo_193 : decode cX9_sumTo 193 = .ok (.iload 6, 2) := by decide +kernel
theorem dX9_sumTo_195 : decode cX9_sumTo 195 = .ok (.iadd, 1) := by decide +kernel
theorem dX9_sumTo_196 : decode cX9_sumTo 196 = .ok (.aload_n 0, 1) := by decide +kernel
theorem dX9_sumTo_197 : decode cX9_sumTo 197 = .ok (.getfield 72, 3) := by decide +kernel
theorem dX9_sumTo_200 : decode cX9_sumTo 200 = .ok (.iconst 5, 1) := by decide +kernel
theorem dX9_sumTo_201 : decode cX9_sumTo 201 = .ok (.iload_n 3, 1) := by decide +kernel
theorem dX9_sumTo_202 : decode cX9_sumTo 202 = .ok (.imul, 1) := by decide +kernel
theorem dX9_sumTo_203 : decode cX9_sumTo 203 = .ok (.iload 6, 2) := by decide +kernel
theorem dX9_sumTo_205 : decode cX9_sumTo 205 = .ok (.iadd, 1) := by decide +kernel
theorem dX9_sumTo_206 : decode cX9_sumTo 206 = .ok (.iaload, 1) := by decide +kernel
theorem dX9_sumTo_207 : decode cX9_sumTo 207 = .ok (.iastore, 1) := by decide +kernel
theorem dX9_sumTo_208 : decode cX9_sumTo 208 = .ok (.aload_n 0, 1) := by decide +kernel
theorem dX9_sumTo_209 : decode cX9_sumTo 209 = .ok (.getfield 72, 3) := by decide +kernel
theorem dX9_sumTo_212 : decode cX9_sumTo 212 = .ok (.iconst 5, 1) := by decide +kernel
theorem dX9_sumTo_213 : decode cX9_sumTo 213 = .ok (.iload_n 3, 1) := by decide +kernel
theorem dX9_sumTo_214 : decode cX9_sumTo 214 = .ok (.imul, 1) := by decide +kernel
theorem dX9_sumTo_215 : decode cX9_sumTo 215 = .ok (.iload 6, 2) := by decide +kernel
theorem dX9_sumTo_217 : decode cX9_sumTo 217 = .ok (.iadd, 1) := by decide +kernel
theorem dX9_sumTo_218 : decode cX9_sumTo 218 = .ok (.iload 7, 2) := by decide +kernel
theorem dX9_sumTo_220 : decode cX9_sumTo 220 = .ok (.iastore, 1) := by decide +kernel
theorem dX9_sumTo_221 : decode cX9_sumTo 221 = .ok (.iinc 6 1, 3) := by decide +kernel
theorem dX9_sumTo_224 : decode cX9_sumTo 224 = .ok (.goto (-67), 3) := by decide +kernel
theorem dX9_sumTo_227 : decode cX9_sumTo 227 = .ok (.iconst 0, 1) := by decide +kernel
theorem dX9_sumTo_228 : decode cX9_sumTo 228 = .ok (.istore 6, 2) := by decide +kernel
theorem dX9_sumTo_230 : decode cX9_sumTo 230 = .ok (.iload 6, 2) := by decide +kernel
theorem dX9_sumTo_232 : decode cX9_sumTo 232 = .ok (.bipush 81, 2) := by decide +kernel
theorem dX9_sumTo_234 : decode cX9_sumTo 234 = .ok (.if_icmp .ge 106, 3) := by decide +kernel
theorem dX9_sumTo_237 : decode cX9_sumTo 237 = .ok (.iload 6, 2) := by decide +kernel
theorem dX9_sumTo_239 : decode cX9_sumTo 239 = .ok (.iload_n 3, 1) := by decide +kernel
theorem dX9_sumTo_240 : decode cX9_sumTo 240 = .ok (.if_icmp .ne 7, 3) := by decide +kernel
theorem dX9_sumTo_243 : decode cX9_sumTo 243 = .ok (.iconst 0, 1) := by decide +kernel
theorem dX9_sumTo_244 : decode cX9_sumTo 244 = .ok (.goto 24, 3) := by decide +kernel
theorem dX9_sumTo_247 : decode cX9_sumTo 247 = .ok (.aload_n 0, 1) := by decide +kernel
theorem dX9_sumTo_248 : decode cX9_sumTo 248 = .ok (.getfield 7, 3) := by decide +kernel
theorem dX9_sumTo_251 : decode cX9_sumTo 251 = .ok (.aload_n 0, 1) := by decide +kernel
theorem dX9_sumTo_252 : decode cX9_sumTo 252 = .ok (.getfield 72, 3) := by decide +kernel
theorem dX9_sumTo_255 : decode cX9_sumTo 255 = .ok (.iconst 5, 1) := by decide +kernel
theorem dX9_sumTo_256 : decode cX9_sumTo 256 = .ok (.iload 6, 2) := by decide +kernel
theorem dX9_sumTo_258 : decode cX9_sumTo 258 = .ok (.imul, 1) := by decide +kernel
theorem dX9_sumTo_259 : decode cX9_sumTo 259 = .ok (.iload_n 3, 1) := by decide +kernel
theorem dX9_sumTo_260 : decode cX9_sumTo 260 = .ok (.iadd, 1) := by decide +kernel
theorem dX9_sumTo_261 : decode cX9_sumTo 261 = .ok (.iaload, 1) := by decide +kernel
theorem dX9_sumTo_262 : decode cX9_sumTo 262 = .ok (.isub, 1) := by decide +kernel
theorem dX9_sumTo_263 : decode cX9_sumTo 263 = .ok (.aload_n 0, 1) := by decide +kernel
theorem dX9_sumTo_264 : decode cX9_sumTo 264 = .ok (.getfield 7, 3) := by decide +kernel
theorem dX9_sumTo_267 : decode cX9_sumTo 267 = .ok (.irem, 1) := by decide +kernel
theorem dX9_sumTo_268 : decode cX9_sumTo 268 = .ok (.istore 7, 2) := by decide +kernel
theorem dX9_sumTo_270 : decode cX9_sumTo 270 = .ok (.iconst 0, 1) := by decide +kernel
theorem dX9_sumTo_271 : decode cX9_sumTo 271 = .ok (.istore 8, 2) := by decide +kernel
theorem dX9_sumTo_273 : decode cX9_sumTo 273 = .ok (.iload 8, 2) := by decide +kernel
theorem dX9_sumTo_275 : decode cX9_sumTo 275 = .ok (.iconst 5, 1) := by decide +kernel
theorem dX9_sumTo_276 : decode cX9_sumTo 276 = .ok (.if_icmp .ge 58, 3) := by decide +kernel
theorem dX9_sumTo_279 : decode cX9_sumTo 279 = .ok (.iload 7, 2) := by decide +kernel
theorem dX9_sumTo_281 : decode cX9_sumTo 281 = .ok (.ifCond .le 53, 3) := by decide +kernel
theorem dX9_sumTo_284 : decode cX9_sumTo 284 = .ok (.aload_n 0, 1) := by decide +kernel
theorem dX9_sumTo_285 : decode cX9_sumTo 285 = .ok (.getfield 72, 3) := by decide +kernel
theorem dX9_sumTo_288 : decode cX9_sumTo 288 = .ok (.iconst 5, 1) := by decide +kernel
theorem dX9_sumTo_289 : decode cX9_sumTo 289 = .ok (.iload 6, 2) := by decide +kernel
theorem dX9_sumTo_291 : decode cX9_sumTo 291 = .ok (.imul, 1) := by decide +kernel
theorem dX9_sumTo_292 : decode cX9_sumTo 292 = .ok (.iload 8, 2) := by decide +kernel
theorem dX9_sumTo_294 : decode cX9_sumTo 294 = .ok (.iadd, 1) := by decide +kernel
theorem dX9_sumTo_295 : decode cX9_sumTo 295 = .ok (.aload_n 0, 1) := by decide +kernel
theorem dX9_sumTo_296 : decode cX9_sumTo 296 = .ok (.getfield 72, 3) := by decide +kernel
theorem dX9_sumTo_299 : decode cX9_sumTo 299 = .ok (.iconst 5, 1) := by decide +kernel
theorem dX9_sumTo_300 : decode cX9_sumTo 300 = .ok (.iload 6, 2) := by decide +kernel
theorem dX9_sumTo_302 : decode cX9_sumTo 302 = .ok (.imul, 1) := by decide +kernel
theorem dX9_sumTo_303 : decode cX9_sumTo 303 = .ok (.iload 8, 2) := by decide +kernel
theorem dX9_sumTo_305 : decode cX9_sumTo 305 = .ok (.iadd, 1) := by decide +kernel
theorem dX9_sumTo_306 : decode cX9_sumTo 306 = .ok (.iaload, 1) := by decide +kernel
theorem dX9_sumTo_307 : decode cX9_sumTo 307 = .ok (.iload 7, 2) := by decide +kernel
theorem dX9_sumTo_309 : decode cX9_sumTo 309 = .ok (.aload_n 0, 1) := by decide +kernel
theorem dX9_sumTo_310 : decode cX9_sumTo 310 = .ok (.getfield 72, 3) := by decide +kernel
theorem dX9_sumTo_313 : decode cX9_sumTo 313 = .ok (.iconst 5, 1) := by decide +kernel
theorem dX9_sumTo_314 : decode cX9_sumTo 314 = .ok (.iload_n 3, 1) := by decide +kernel
theorem dX9_sumTo_315 : decode cX9_sumTo 315 = .ok (.imul, 1) := by decide +kernel
theorem dX9_sumTo_316 : decode cX9_sumTo 316 = .ok (.iload 8, 2) := by decide +kernel
theorem dX9_sumTo_318 : decode cX9_sumTo 318 = .ok (.iadd, 1) := by decide +kernel
theorem dX9_sumTo_319 : decode cX9_sumTo 319 = .ok (.iaload, 1) := by decide +kernel
theorem dX9_sumTo_320 : decode cX9_sumTo 320 = .ok (.imul, 1) := by decide +kernel
theorem dX9_sumTo_321 : decode cX9_sumTo 321 = .ok (.iadd, 1) := by decide +kernel
theorem dX9_sumTo_322 : decode cX9_sumTo 322 = .ok (.aload_n 0, 1) := by decide +kernel
theorem dX9_sumTo_323 : decode cX9_sumTo 323 = .ok (.getfield 7, 3) := by decide +kernel
theorem dX9_sumTo_326 : decode cX9_sumTo 326 = .ok (.irem, 1) := by decide +kernel
theorem dX9_sumTo_327 : decode cX9_sumTo 327 = .ok (.iastore, 1) := by decide +kernel
theorem dX9_sumTo_328 : decode cX9_sumTo 328 = .ok (.iinc 8 1, 3) := by decide +kernel
theorem dX9_sumTo_331 : decode cX9_sumTo 331 = .ok (.goto (-58), 3) := by decide +kernel
theorem dX9_sumTo_334 : decode cX9_sumTo 334 = .ok (.iinc 6 1, 3) := by decide +kernel
theorem dX9_sumTo_337 : decode cX9_sumTo 337 = .ok (.goto (-107), 3) := by decide +kernel
theorem dX9_sumTo_340 : decode cX9_sumTo 340 = .ok (.iinc 3 1, 3) := by decide +kernel
theorem dX9_sumTo_343 : decode cX9_sumTo 343 = .ok (.goto (-234), 3) := by decide +kernel
theorem dX9_sumTo_346 : decode cX9_sumTo 346 = .ok (.iconst 0, 1) := by decide +kernel
theorem dX9_sumTo_347 : decode cX9_sumTo 347 = .ok (.istore_n 3, 1) := by decide +kernel
theorem dX9_sumTo_348 : decode cX9_sumTo 348 = .ok (.iload_n 3, 1) := by decide +kernel
theorem dX9_sumTo_349 : decode cX9_sumTo 349 = .ok (.iload_n 1, 1) := by decide +kernel
theorem dX9_sumTo_350 : decode cX9_sumTo 350 = .ok (.if_icmp .ge 25, 3) := by decide +kernel
theorem dX9_sumTo_353 : decode cX9_sumTo 353 = .ok (.aload_n 0, 1) := by decide +kernel
theorem dX9_sumTo_354 : decode cX9_sumTo 354 = .ok (.getfield 75, 3) := by decide +kernel
theorem dX9_sumTo_357 : decode cX9_sumTo 357 = .ok (.iload_n 3, 1) := by decide +kernel
theorem dX9_sumTo_358 : decode cX9_sumTo 358 = .ok (.aload_n 0, 1) := by decide +kernel
theorem dX9_sumTo_359 : decode cX9_sumTo 359 = .ok (.getfield 72, 3) := by decide +kernel
theorem dX9_sumTo_362 : decode cX9_sumTo 362 = .ok (.iconst 5, 1) := by decide +kernel
theorem dX9_sumTo_363 : decode cX9_sumTo 363 = .ok (.iload_n 3, 1) := by decide +kernel
theorem dX9_sumTo_364 : decode cX9_sumTo 364 = .ok (.imul, 1) := by decide +kernel
theorem dX9_sumTo_365 : decode cX9_sumTo 365 = .ok (.iconst 4, 1) := by decide +kernel
theorem dX9_sumTo_366 : decode cX9_sumTo 366 = .ok (.iadd, 1) := by decide +kernel
theorem dX9_sumTo_367 : decode cX9_sumTo 367 = .ok (.iaload, 1) := by decide +kernel
theorem dX9_sumTo_368 : decode cX9_sumTo 368 = .ok (.iastore, 1) := by decide +kernel
theorem dX9_sumTo_369 : decode cX9_sumTo 369 = .ok (.iinc 3 1, 3) := by decide +kernel
theorem dX9_sumTo_372 : decode cX9_sumTo 372 = .ok (.goto (-24), 3) := by decide +kernel
theorem dX9_sumTo_375 : decode cX9_sumTo 375 = .ok (.return_, 1) := by decide +kernel
theorem dX9_find_0 : decode cX9_find 0 = .ok (.aload_n 0, 1) := by decide +kernel
theorem dX9_find_1 : decode cX9_find 1 = .ok (.iconst 0, 1) := by decide +kernel
theorem dX9_find_2 : decode cX9_find 2 = .ok (.putfield 91, 3) := by decide +kernel
theorem dX9_find_5 : decode cX9_find 5 = .ok (.aload_n 0, 1) := by decide +kernel
theorem dX9_find_6 : decode cX9_find 6 = .ok (.invokevirtual 228, 3) := by decide +kernel
theorem dX9_find_9 : decode cX9_find 9 = .ok (.istore_n 1, 1) := by decide +kernel
theorem dX9_find_10 : decode cX9_find 10 = .ok (.iload_n 1, 1) := by decide +kernel
theorem dX9_find_11 : decode cX9_find 11 = .ok (.ifCond .ge 5, 3) := by decide +kernel
theorem dX9_find_14 : decode cX9_find 14 = .ok (.iload_n 1, 1) := by decide +kernel
theorem dX9_find_15 : decode cX9_find 15 = .ok (.ireturn, 1) := by decide +kernel
theorem dX9_find_16 : decode cX9_find 16 = .ok (.aload_n 0, 1) := by decide +kernel
theorem dX9_find_17 : decode cX9_find 17 = .ok (.iload_n 1, 1) := by decide +kernel
theorem dX9_find_18 : decode cX9_find 18 = .ok (.putfield 85, 3) := by decide +kernel
theorem dX9_find_21 : decode cX9_find 21 = .ok (.iconst 0, 1) := by decide +kernel
theorem dX9_find_22 : decode cX9_find 22 = .ok (.istore_n 2, 1) := by decide +kernel
theorem dX9_find_23 : decode cX9_find 23 = .ok (.iload_n 2, 1) := by decide +kernel
theorem dX9_find_24 : decode cX9_find 24 = .ok (.iload_n 1, 1) := by decide +kernel
theorem dX9_find_25 : decode cX9_find 25 = .ok (.if_icmp .ge 50, 3) := by decide +kernel
theorem dX9_find_28 : decode cX9_find 28 = .ok (.aload_n 0, 1) := by decide +kernel
theorem dX9_find_29 : decode cX9_find 29 = .ok (.iload_n 2, 1) := by decide +kernel
theorem dX9_find_30 : decode cX9_find 30 = .ok (.iconst 0, 1) := by decide +kernel
theorem dX9_find_31 : decode cX9_find 31 = .ok (.aload_n 0, 1) := by decide +kernel
theorem dX9_find_32 : decode cX9_find 32 = .ok (.getfield 54, 3) := by decide +kernel
theorem dX9_find_35 : decode cX9_find 35 = .ok (.aload_n 0, 1) := by decide +kernel
theorem dX9_find_36 : decode cX9_find 36 = .ok (.getfield 60, 3) := by decide +kernel
theorem dX9_find_39 : decode cX9_find 39 = .ok (.iload_n 2, 1) := by decide +kernel
theorem dX9_find_40 : decode cX9_find 40 = .ok (.iaload, 1) := by decide +kernel
theorem dX9_find_41 : decode cX9_find 41 = .ok (.iaload, 1) := by decide +kernel
theorem dX9_find_42 : decode cX9_find 42 = .ok (.invokevirtual 123, 3) := by decide +kernel
theorem dX9_find_45 : decode cX9_find 45 = .ok (.aload_n 0, 1) := by decide +kernel
theorem dX9_find_46 : decode cX9_find 46 = .ok (.iload_n 2, 1) := by decide +kernel
theorem dX9_find_47 : decode cX9_find 47 = .ok (.iconst 1, 1) := by decide +kernel
theorem dX9_find_48 : decode cX9_find 48 = .ok (.aload_n 0, 1) := by decide +kernel
theorem dX9_find_49 : decode cX9_find 49 = .ok (.getfield 57, 3) := by decide +kernel
theorem dX9_find_52 : decode cX9_find 52 = .ok (.aload_n 0, 1) := by decide +kernel
theorem dX9_find_53 : decode cX9_find 53 = .ok (.getfield 60, 3) := by decide +kernel
theorem dX9_find_56 : decode cX9_find 56 = .ok (.iload_n 2, 1) := by decide +kernel
theorem dX9_find_57 : decode cX9_find 57 = .ok (.iaload, 1) := by decide +kernel
theorem dX9_find_58 : decode cX9_find 58 = .ok (.iaload, 1) := by decide +kernel
theorem dX9_find_59 : decode cX9_find 59 = .ok (.invokevirtual 123, 3) := by decide +kernel
theorem dX9_find_62 : decode cX9_find 62 = .ok (.aload_n 0, 1) := by decide +kernel
theorem dX9_find_63 : decode cX9_find 63 = .ok (.iload_n 2, 1) := by decide +kernel
theorem dX9_find_64 : decode cX9_find 64 = .ok (.iconst 2, 1) := by decide +kernel
theorem dX9_find_65 : decode cX9_find 65 = .ok (.iconst 0, 1) := by decide +kernel
theorem dX9_find_66 : decode cX9_find 66 = .ok (.invokevirtual 123, 3) := by decide +kernel
theorem dX9_find_69 : decode cX9_find 69 = .ok (.iinc 2 1, 3) := by decide +kernel
theorem dX9_find_72 : decode cX9_find 72 = .ok (.goto (-49), 3) := by decide +kernel
theorem dX9_find_75 : decode cX9_find 75 = .ok (.iconst 0, 1) := by decide +kernel
theorem dX9_find_76 : decode cX9_find 76 = .ok (.istore_n 2, 1) := by decide +kernel
theorem dX9_find_77 : decode cX9_find 77 = .ok (.iload_n 2, 1) := by decide +kernel
theorem dX9_find_78 : decode cX9_find 78 = .ok (.aload_n 0, 1) := by decide +kernel
theorem dX9_find_79 : decode cX9_find 79 = .ok (.getfield 13, 3) := by decide +kernel
theorem dX9_find_82 : decode cX9_find 82 = .ok (.iconst 2, 1) := by decide +kernel
theorem dX9_find_83 : decode cX9_find 83 = .ok (.iaload, 1) := by decide +kernel
theorem dX9_find_84 : decode cX9_find 84 = .ok (.if_icmp .ge 48, 3) := by decide +kernel
theorem dX9_find_87 : decode cX9_find 87 = .ok (.aload_n 0, 1) := by decide +kernel
theorem dX9_find_88 : decode cX9_find 88 = .ok (.iload_n 1, 1) := by decide +kernel
theorem dX9_find_89 : decode cX9_find 89 = .ok (.iload_n 2, 1) := by decide +kernel
theorem dX9_find_90 : decode cX9_find 90 = .ok (.invokevirtual 231, 3) := by decide +kernel
theorem dX9_find_93 : decode cX9_find 93 = .ok (.iconst 0, 1) := by decide +kernel
theorem dX9_find_94 : decode cX9_find 94 = .ok (.istore_n 3, 1) := by decide +kernel
theorem dX9_find_95 : decode cX9_find 95 = .ok (.iload_n 3, 1) := by decide +kernel
theorem dX9_find_96 : decode cX9_find 96 = .ok (.iload_n 1, 1) := by decide +kernel
theorem dX9_find_97 : decode cX9_find 97 = .ok (.if_icmp .ge 29, 3) := by decide +kernel
theorem dX9_find_100 : decode cX9_find 100 = .ok (.aload_n 0, 1) := by decide +kernel
theorem dX9_find_101 : decode cX9_find 101 = .ok (.getfield 20, 3) := by decide +kernel
theorem dX9_find_104 : decode cX9_find 104 = .ok (.bipush 27, 2) := by decide +kernel
theorem dX9_find_106 : decode cX9_find 106 = .ok (.iload_n 3, 1) := by decide +kernel
theorem dX9_find_107 : decode cX9_find 107 = .ok (.imul, 1) := by decide +kernel
theorem dX9_find_108 : decode cX9_find 108 = .ok (.bipush 18, 2) := by decide +kernel
theorem dX9_find_110 : decode cX9_find 110 = .ok (.iadd, 1) := by decide +kernel
theorem dX9_find_111 : decode cX9_find 111 = .ok (.iload_n 2, 1) := by decide +kernel
theorem dX9_find_112 : decode cX9_find 112 = .ok (.iadd, 1) := by decide +kernel
theorem dX9_find_113 : decode cX9_find 113 = .ok (.aload_n 0, 1) := by decide +kernel
theorem dX9_find_114 : decode cX9_find 114 = .ok (.getfield 75, 3) := by decide +kernel
theorem dX9_find_117 : decode cX9_find 117 = .ok (.iload_n 3, 1) := by decide +kernel
theorem dX9_find_118 : decode cX9_find 118 = .ok (.iaload, 1) := by decide +kernel
theorem dX9_find_119 : decode cX9_find 119 = .ok (.iastore, 1) := by decide +kernel
theorem dX9_find_120 : decode cX9_find 120 = .ok (.iinc 3 1, 3) := by decide +kernel
theorem dX9_find_123 : decode cX9_find 123 = .ok (.goto (-28), 3) := by decide +kernel
theorem dX9_find_126 : decode cX9_find 126 = .ok (.iinc 2 1, 3) := by decide +kernel
theorem dX9_find_129 : decode cX9_find 129 = .ok (.goto (-52), 3) := by decide +kernel
theorem dX9_find_132 : decode cX9_find 132 = .ok (.iload_n 1, 1) := by decide +kernel
theorem dX9_find_133 : decode cX9_find 133 = .ok (.ireturn, 1) := by decide +kernel
theorem dX9_hand_0 : decode cX9_hand 0 = .ok (.iload_n 1, 1) := by decide +kernel
theorem dX9_hand_1 : decode cX9_hand 1 = .ok (.i2l, 1) := by decide +kernel
theorem dX9_hand_2 : decode cX9_hand 2 = .ok (.lconst 0, 1) := by decide +kernel
theorem dX9_hand_3 : decode cX9_hand 3 = .ok (.lconst 1, 1) := by decide +kernel
theorem dX9_hand_4 : decode cX9_hand 4 = .ok (.invokestatic 97, 3) := by decide +kernel
theorem dX9_hand_7 : decode cX9_hand 7 = .ok (.ifCond .eq 37, 3) := by decide +kernel
theorem dX9_hand_10 : decode cX9_hand 10 = .ok (.iload_n 2, 1) := by decide +kernel
theorem dX9_hand_11 : decode cX9_hand 11 = .ok (.i2l, 1) := by decide +kernel
theorem dX9_hand_12 : decode cX9_hand 12 = .ok (.lconst 0, 1) := by decide +kernel
theorem dX9_hand_13 : decode cX9_hand 13 = .ok (.aload_n 0, 1) := by decide +kernel
theorem dX9_hand_14 : decode cX9_hand 14 = .ok (.getfield 13, 3) := by decide +kernel
theorem dX9_hand_17 : decode cX9_hand 17 = .ok (.iload_n 1, 1) := by decide +kernel
theorem dX9_hand_18 : decode cX9_hand 18 = .ok (.iaload, 1) := by decide +kernel
theorem dX9_hand_19 : decode cX9_hand 19 = .ok (.iconst 1, 1) := by decide +kernel
theorem dX9_hand_20 : decode cX9_hand 20 = .ok (.isub, 1) := by decide +kernel
theorem dX9_hand_21 : decode cX9_hand 21 = .ok (.i2l, 1) := by decide +kernel
theorem dX9_hand_22 : decode cX9_hand 22 = .ok (.invokestatic 97, 3) := by decide +kernel
theorem dX9_hand_25 : decode cX9_hand 25 = .ok (.ifCond .eq 19, 3) := by decide +kernel
theorem dX9_hand_28 : decode cX9_hand 28 = .ok (.iload_n 3, 1) := by decide +kernel
theorem dX9_hand_29 : decode cX9_hand 29 = .ok (.i2l, 1) := by decide +kernel
theorem dX9_hand_30 : decode cX9_hand 30 = .ok (.lconst 0, 1) := by decide +kernel
theorem dX9_hand_31 : decode cX9_hand 31 = .ok (.aload_n 0, 1) := by decide +kernel
theorem dX9_hand_32 : decode cX9_hand 32 = .ok (.getfield 7, 3) := by decide +kernel
theorem dX9_hand_35 : decode cX9_hand 35 = .ok (.iconst 1, 1) := by decide +kernel
theorem dX9_hand_36 : decode cX9_hand 36 = .ok (.isub, 1) := by decide +kernel
theorem dX9_hand_37 : decode cX9_hand 37 = .ok (.i2l, 1) := by decide +kernel
theorem dX9_hand_38 : decode cX9_hand 38 = .ok (.invokestatic 97, 3) := by decide +kernel
theorem dX9_hand_41 : decode cX9_hand 41 = .ok (.ifCond .ne 5, 3) := by decide +kernel
theorem dX9_hand_44 : decode cX9_hand 44 = .ok (.iconst (-1), 1) := by decide +kernel
theorem dX9_hand_45 : decode cX9_hand 45 = .ok (.ireturn, 1) := by decide +kernel
theorem dX9_hand_46 : decode cX9_hand 46 = .ok (.aload_n 0, 1) := by decide +kernel
theorem dX9_hand_47 : decode cX9_hand 47 = .ok (.getfield 23, 3) := by decide +kernel
theorem dX9_hand_50 : decode cX9_hand 50 = .ok (.bipush 9, 2) := by decide +kernel
theorem dX9_hand_52 : decode cX9_hand 52 = .ok (.iload_n 1, 1) := by decide +kernel
theorem dX9_hand_53 : decode cX9_hand 53 = .ok (.imul, 1) := by decide +kernel
theorem dX9_hand_54 : decode cX9_hand 54 = .ok (.iload_n 2, 1) := by decide +kernel
theorem dX9_hand_55 : decode cX9_hand 55 = .ok (.iadd, 1) := by decide +kernel
theorem dX9_hand_56 : decode cX9_hand 56 = .ok (.iload_n 3, 1) := by decide +kernel
theorem dX9_hand_57 : decode cX9_hand 57 = .ok (.iastore, 1) := by decide +kernel
theorem dX9_hand_58 : decode cX9_hand 58 = .ok (.iconst 1, 1) := by decide +kernel
theorem dX9_hand_59 : decode cX9_hand 59 = .ok (.ireturn, 1) := by decide +kernel
theorem dX9_byBox_0 : decode cX9_byBox 0 = .ok (.iconst 0, 1) := by decide +kernel
theorem dX9_byBox_1 : decode cX9_byBox 1 = .ok (.istore_n 2, 1) := by decide +kernel
theorem dX9_byBox_2 : decode cX9_byBox 2 = .ok (.iconst 0, 1) := by decide +kernel
theorem dX9_byBox_3 : decode cX9_byBox 3 = .ok (.istore_n 3, 1) := by decide +kernel
theorem dX9_byBox_4 : decode cX9_byBox 4 = .ok (.iload_n 3, 1) := by decide +kernel
theorem dX9_byBox_5 : decode cX9_byBox 5 = .ok (.bipush 9, 2) := by decide +kernel
theorem dX9_byBox_7 : decode cX9_byBox 7 = .ok (.if_icmp .ge 63, 3) := by decide +kernel
theorem dX9_byBox_10 : decode cX9_byBox 10 = .ok (.iconst 0, 1) := by decide +kernel
theorem dX9_byBox_11 : decode cX9_byBox 11 = .ok (.istore 4, 2) := by decide +kernel
theorem dX9_byBox_13 : decode cX9_byBox 13 = .ok (.iload 4, 2) := by decide +kernel
theorem dX9_byBox_15 : decode cX9_byBox 15 = .ok (.bipush 9, 2) := by decide +kernel
theorem dX9_byBox_17 : decode cX9_byBox 17 = .ok (.if_icmp .ge 47, 3) := by decide +kernel
theorem dX9_byBox_20 : decode cX9_byBox 20 = .ok (.iload_n 2, 1) := by decide +kernel
theorem dX9_byBox_21 : decode cX9_byBox 21 = .ok (.aload_n 0, 1) := by decide +kernel
theorem dX9_byBox_22 : decode cX9_byBox 22 = .ok (.getfield 17, 3) := by decide +kernel
theorem dX9_byBox_25 : decode cX9_byBox 25 = .ok (.bipush 81, 2) := by decide +kernel
theorem dX9_byBox_27 : decode cX9_byBox 27 = .ok (.iload_n 3, 1) := by decide +kernel
theorem dX9_byBox_28 : decode cX9_byBox 28 = .ok (.imul, 1) := by decide +kernel
theorem dX9_byBox_29 : decode cX9_byBox 29 = .ok (.bipush 9, 2) := by decide +kernel
theorem dX9_byBox_31 : decode cX9_byBox 31 = .ok (.iload 4, 2) := by decide +kernel
theorem dX9_byBox_33 : decode cX9_byBox 33 = .ok (.imul, 1) := by decide +kernel
theorem dX9_byBox_34 : decode cX9_byBox 34 = .ok (.iadd, 1) := by decide +kernel
theorem dX9_byBox_35 : decode cX9_byBox 35 = .ok (.iload_n 1, 1) := by decide +kernel
theorem dX9_byBox_36 : decode cX9_byBox 36 = .ok (.iadd, 1) := by decide +kernel
theorem dX9_byBox_37 : decode cX9_byBox 37 = .ok (.iaload, 1) := by decide +kernel
theorem dX9_byBox_38 : decode cX9_byBox 38 = .ok (.aload_n 0, 1) := by decide +kernel
theorem dX9_byBox_39 : decode cX9_byBox 39 = .ok (.getfield 23, 3) := by decide +kernel
theorem dX9_byBox_42 : decode cX9_byBox 42 = .ok (.iload_n 3, 1) := by decide +kernel
theorem dX9_byBox_43 : decode cX9_byBox 43 = .ok (.iaload, 1) := by decide +kernel
theorem dX9_byBox_44 : decode cX9_byBox 44 = .ok (.imul, 1) := by decide +kernel
theorem dX9_byBox_45 : decode cX9_byBox 45 = .ok (.aload_n 0, 1) := by decide +kernel
theorem dX9_byBox_46 : decode cX9_byBox 46 = .ok (.getfield 23, 3) := by decide +kernel
theorem dX9_byBox_49 : decode cX9_byBox 49 = .ok (.bipush 9, 2) := by decide +kernel
theorem dX9_byBox_51 : decode cX9_byBox 51 = .ok (.iload 4, 2) := by decide +kernel
theorem dX9_byBox_53 : decode cX9_byBox 53 = .ok (.iadd, 1) := by decide +kernel
theorem dX9_byBox_54 : decode cX9_byBox 54 = .ok (.iaload, 1) := by decide +kernel
theorem dX9_byBox_55 : decode cX9_byBox 55 = .ok (.imul, 1) := by decide +kernel
theorem dX9_byBox_56 : decode cX9_byBox 56 = .ok (.iadd, 1) := by decide +kernel
theorem dX9_byBox_57 : decode cX9_byBox 57 = .ok (.istore_n 2, 1) := by decide +kernel
theorem dX9_byBox_58 : decode cX9_byBox 58 = .ok (.iinc 4 1, 3) := by decide +kernel
theorem dX9_byBox_61 : decode cX9_byBox 61 = .ok (.goto (-48), 3) := by decide +kernel
theorem dX9_byBox_64 : decode cX9_byBox 64 = .ok (.iinc 3 1, 3) := by decide +kernel
theorem dX9_byBox_67 : decode cX9_byBox 67 = .ok (.goto (-63), 3) := by decide +kernel
theorem dX9_byBox_70 : decode cX9_byBox 70 = .ok (.iload_n 2, 1) := by decide +kernel
theorem dX9_byBox_71 : decode cX9_byBox 71 = .ok (.aload_n 0, 1) := by decide +kernel
theorem dX9_byBox_72 : decode cX9_byBox 72 = .ok (.getfield 7, 3) := by decide +kernel
theorem dX9_byBox_75 : decode cX9_byBox 75 = .ok (.irem, 1) := by decide +kernel
theorem dX9_byBox_76 : decode cX9_byBox 76 = .ok (.ireturn, 1) := by decide +kernel
theorem dX9_byScheme_0 : decode cX9_byScheme 0 = .ok (.iconst 0, 1) := by decide +kernel
theorem dX9_byScheme_1 : decode cX9_byScheme 1 = .ok (.istore_n 2, 1) := by decide +kernel
theorem dX9_byScheme_2 : decode cX9_byScheme 2 = .ok (.iconst 0, 1) := by decide +kernel
theorem dX9_byScheme_3 : decode cX9_byScheme 3 = .ok (.istore_n 3, 1) := by decide +kernel
theorem dX9_byScheme_4 : decode cX9_byScheme 4 = .ok (.iload_n 3, 1) := by decide +kernel
theorem dX9_byScheme_5 : decode cX9_byScheme 5 = .ok (.aload_n 0, 1) := by decide +kernel
theorem dX9_byScheme_6 : decode cX9_byScheme 6 = .ok (.getfield 85, 3) := by decide +kernel
theorem dX9_byScheme_9 : decode cX9_byScheme 9 = .ok (.if_icmp .ge 120, 3) := by decide +kernel
theorem dX9_byScheme_12 : decode cX9_byScheme 12 = .ok (.iconst 0, 1) := by decide +kernel
theorem dX9_byScheme_13 : decode cX9_byScheme 13 = .ok (.istore 4, 2) := by decide +kernel
theorem dX9_byScheme_15 : decode cX9_byScheme 15 = .ok (.iconst 0, 1) := by decide +kernel
theorem dX9_byScheme_16 : decode cX9_byScheme 16 = .ok (.istore 5, 2) := by decide +kernel
theorem dX9_byScheme_18 : decode cX9_byScheme 18 = .ok (.iconst 0, 1) := by decide +kernel
theorem dX9_byScheme_19 : decode cX9_byScheme 19 = .ok (.istore 6, 2) := by decide +kernel
theorem dX9_byScheme_21 : decode cX9_byScheme 21 = .ok (.iload 6, 2) := by decide +kernel
theorem dX9_byScheme_23 : decode cX9_byScheme 23 = .ok (.bipush 9, 2) := by decide +kernel
theorem dX9_byScheme_25 : decode cX9_byScheme 25 = .ok (.if_icmp .ge 65, 3) := by decide +kernel
theorem dX9_byScheme_28 : decode cX9_byScheme 28 = .ok (.iload 4, 2) := by decide +kernel
theorem dX9_byScheme_30 : decode cX9_byScheme 30 = .ok (.aload_n 0, 1) := by decide +kernel
theorem dX9_byScheme_31 : decode cX9_byScheme 31 = .ok (.getfield 20, 3) := by decide +kernel
theorem dX9_byScheme_34 : decode cX9_byScheme 34 = .ok (.bipush 27, 2) := by decide +kernel
theorem dX9_byScheme_36 : decode cX9_byScheme 36 = .ok (.iload_n 3, 1) := by decide +kernel
theorem dX9_byScheme_37 : decode cX9_byScheme 37 = .ok (.imul, 1) := by decide +kernel
theorem dX9_byScheme_38 : decode cX9_byScheme 38 = .ok (.iload 6, 2) := by decide +kernel
theorem dX9_byScheme_40 : decode cX9_byScheme 40 = .ok (.iadd, 1) := by decide +kernel
theorem dX9_byScheme_41 : decode cX9_byScheme 41 = .ok (.iaload, 1) := by decide +kernel
theorem dX9_byScheme_42 : decode cX9_byScheme 42 = .ok (.aload_n 0, 1) := by decide +kernel
theorem dX9_byScheme_43 : decode cX9_byScheme 43 = .ok (.getfield 23, 3) := by decide +kernel
theorem dX9_byScheme_46 : decode cX9_byScheme 46 = .ok (.iload 6, 2) := by decide +kernel
theorem dX9_byScheme_48 : decode cX9_byScheme 48 = .ok (.iaload, 1) := by decide +kernel
theorem dX9_byScheme_49 : decode cX9_byScheme 49 = .ok (.imul, 1) := by decide +kernel
theorem dX9_byScheme_50 : decode cX9_byScheme 50 = .ok (.iadd, 1) := by decide +kernel
theorem dX9_byScheme_51 : decode cX9_byScheme 51 = .ok (.istore 4, 2) := by decide +kernel
theorem dX9_byScheme_53 : decode cX9_byScheme 53 = .ok (.iload 5, 2) := by decide +kernel
theorem dX9_byScheme_55 : decode cX9_byScheme 55 = .ok (.aload_n 0, 1) := by decide +kernel
theorem dX9_byScheme_56 : decode cX9_byScheme 56 = .ok (.getfield 20, 3) := by decide +kernel
theorem dX9_byScheme_59 : decode cX9_byScheme 59 = .ok (.bipush 27, 2) := by decide +kernel
theorem dX9_byScheme_61 : decode cX9_byScheme 61 = .ok (.iload_n 3, 1) := by decide +kernel
theorem dX9_byScheme_62 : decode cX9_byScheme 62 = .ok (.imul, 1) := by decide +kernel
theorem dX9_byScheme_63 : decode cX9_byScheme 63 = .ok (.bipush 9, 2) := by decide +kernel
theorem dX9_byScheme_65 : decode cX9_byScheme 65 = .ok (.iadd, 1) := by decide +kernel
theorem dX9_byScheme_66 : decode cX9_byScheme 66 = .ok (.iload 6, 2) := by decide +kernel
theorem dX9_byScheme_68 : decode cX9_byScheme 68 = .ok (.iadd, 1) := by decide +kernel
theorem dX9_byScheme_69 : decode cX9_byScheme 69 = .ok (.iaload, 1) := by decide +kernel
theorem dX9_byScheme_70 : decode cX9_byScheme 70 = .ok (.aload_n 0, 1) := by decide +kernel
theorem dX9_byScheme_71 : decode cX9_byScheme 71 = .ok (.getfield 23, 3) := by decide +kernel
theorem dX9_byScheme_74 : decode cX9_byScheme 74 = .ok (.bipush 9, 2) := by decide +kernel
theorem dX9_byScheme_76 : decode cX9_byScheme 76 = .ok (.iload 6, 2) := by decide +kernel
theorem dX9_byScheme_78 : decode cX9_byScheme 78 = .ok (.iadd, 1) := by decide +kernel
theorem dX9_byScheme_79 : decode cX9_byScheme 79 = .ok (.iaload, 1) := by decide +kernel
theorem dX9_byScheme_80 : decode cX9_byScheme 80 = .ok (.imul, 1) := by decide +kernel
theorem dX9_byScheme_81 : decode cX9_byScheme 81 = .ok (.iadd, 1) := by decide +kernel
theorem dX9_byScheme_82 : decode cX9_byScheme 82 = .ok (.istore 5, 2) := by decide +kernel
theorem dX9_byScheme_84 : decode cX9_byScheme 84 = .ok (.iinc 6 1, 3) := by decide +kernel
theorem dX9_byScheme_87 : decode cX9_byScheme 87 = .ok (.goto (-66), 3) := by decide +kernel
theorem dX9_byScheme_90 : decode cX9_byScheme 90 = .ok (.iload_n 2, 1) := by decide +kernel
theorem dX9_byScheme_91 : decode cX9_byScheme 91 = .ok (.iload 4, 2) := by decide +kernel
theorem dX9_byScheme_93 : decode cX9_byScheme 93 = .ok (.aload_n 0, 1) := by decide +kernel
theorem dX9_byScheme_94 : decode cX9_byScheme 94 = .ok (.getfield 7, 3) := by decide +kernel
theorem dX9_byScheme_97 : decode cX9_byScheme 97 = .ok (.irem, 1) := by decide +kernel
theorem dX9_byScheme_98 : decode cX9_byScheme 98 = .ok (.iload 5, 2) := by decide +kernel
theorem dX9_byScheme_100 : decode cX9_byScheme 100 = .ok (.aload_n 0, 1) := by decide +kernel
theorem dX9_byScheme_101 : decode cX9_byScheme 101 = .ok (.getfield 7, 3) := by decide +kernel
theorem dX9_byScheme_104 : decode cX9_byScheme 104 = .ok (.irem, 1) := by decide +kernel
theorem dX9_byScheme_105 : decode cX9_byScheme 105 = .ok (.imul, 1) := by decide +kernel
theorem dX9_byScheme_106 : decode cX9_byScheme 106 = .ok (.aload_n 0, 1) := by decide +kernel
theorem dX9_byScheme_107 : decode cX9_byScheme 107 = .ok (.getfield 20, 3) := by decide +kernel
theorem dX9_byScheme_110 : decode cX9_byScheme 110 = .ok (.bipush 27, 2) := by decide +kernel
theorem dX9_byScheme_112 : decode cX9_byScheme 112 = .ok (.iload_n 3, 1) := by decide +kernel
theorem dX9_byScheme_113 : decode cX9_byScheme 113 = .ok (.imul, 1) := by decide +kernel
theorem dX9_byScheme_114 : decode cX9_byScheme 114 = .ok (.bipush 18, 2) := by decide +kernel
theorem dX9_byScheme_116 : decode cX9_byScheme 116 = .ok (.iadd, 1) := by decide +kernel
theorem dX9_byScheme_117 : decode cX9_byScheme 117 = .ok (.iload_n 1, 1) := by decide +kernel
theorem dX9_byScheme_118 : decode cX9_byScheme 118 = .ok (.iadd, 1) := by decide +kernel
theorem dX9_byScheme_119 : decode cX9_byScheme 119 = .ok (.iaload, 1) := by decide +kernel
theorem dX9_byScheme_120 : decode cX9_byScheme 120 = .ok (.imul, 1) := by decide +kernel
theorem dX9_byScheme_121 : decode cX9_byScheme 121 = .ok (.iadd, 1) := by decide +kernel
theorem dX9_byScheme_122 : decode cX9_byScheme 122 = .ok (.istore_n 2, 1) := by decide +kernel
theorem dX9_byScheme_123 : decode cX9_byScheme 123 = .ok (.iinc 3 1, 3) := by decide +kernel
theorem dX9_byScheme_126 : decode cX9_byScheme 126 = .ok (.goto (-122), 3) := by decide +kernel
theorem dX9_byScheme_129 : decode cX9_byScheme 129 = .ok (.iload_n 2, 1) := by decide +kernel
theorem dX9_byScheme_130 : decode cX9_byScheme 130 = .ok (.aload_n 0, 1) := by decide +kernel
theorem dX9_byScheme_131 : decode cX9_byScheme 131 = .ok (.getfield 7, 3) := by decide +kernel
theorem dX9_byScheme_134 : decode cX9_byScheme 134 = .ok (.irem, 1) := by decide +kernel
theorem dX9_byScheme_135 : decode cX9_byScheme 135 = .ok (.ireturn, 1) := by decide +kernel
theorem dX9_run_0 : decode cX9_run 0 = .ok (.iload_n 1, 1) := by decide +kernel
theorem dX9_run_1 : decode cX9_run 1 = .ok (.i2l, 1) := by decide +kernel
theorem dX9_run_2 : decode cX9_run 2 = .ok (.lconst 0, 1) := by decide +kernel
theorem dX9_run_3 : decode cX9_run 3 = .ok (.lconst 1, 1) := by decide +kernel
theorem dX9_run_4 : decode cX9_run 4 = .ok (.invokestatic 97, 3) := by decide +kernel
theorem dX9_run_7 : decode cX9_run 7 = .ok (.ifCond .ne 5, 3) := by decide +kernel
theorem dX9_run_10 : decode cX9_run 10 = .ok (.iconst (-1), 1) := by decide +kernel
theorem dX9_run_11 : decode cX9_run 11 = .ok (.ireturn, 1) := by decide +kernel
theorem dX9_run_12 : decode cX9_run 12 = .ok (.iconst 0, 1) := by decide +kernel
theorem dX9_run_13 : decode cX9_run 13 = .ok (.istore_n 2, 1) := by decide +kernel
theorem dX9_run_14 : decode cX9_run 14 = .ok (.aload_n 0, 1) := by decide +kernel
theorem dX9_run_15 : decode cX9_run 15 = .ok (.getfield 13, 3) := by decide +kernel
theorem dX9_run_18 : decode cX9_run 18 = .ok (.iconst 2, 1) := by decide +kernel
theorem dX9_run_19 : decode cX9_run 19 = .ok (.iaload, 1) := by decide +kernel
theorem dX9_run_20 : decode cX9_run 20 = .ok (.iconst 1, 1) := by decide +kernel
theorem dX9_run_21 : decode cX9_run 21 = .ok (.isub, 1) := by decide +kernel
theorem dX9_run_22 : decode cX9_run 22 = .ok (.istore_n 3, 1) := by decide +kernel
theorem dX9_run_23 : decode cX9_run 23 = .ok (.iload_n 3, 1) := by decide +kernel
theorem dX9_run_24 : decode cX9_run 24 = .ok (.ifCond .lt 34, 3) := by decide +kernel
theorem dX9_run_27 : decode cX9_run 27 = .ok (.iload_n 2, 1) := by decide +kernel
theorem dX9_run_28 : decode cX9_run 28 = .ok (.aload_n 0, 1) := by decide +kernel
theorem dX9_run_29 : decode cX9_run 29 = .ok (.getfield 7, 3) := by decide +kernel
theorem dX9_run_32 : decode cX9_run 32 = .ok (.imul, 1) := by decide +kernel
theorem dX9_run_33 : decode cX9_run 33 = .ok (.iload_n 1, 1) := by decide +kernel
theorem dX9_run_34 : decode cX9_run 34 = .ok (.ifCond .ne 11, 3) := by decide +kernel
theorem dX9_run_37 : decode cX9_run 37 = .ok (.aload_n 0, 1) := by decide +kernel
theorem dX9_run_38 : decode cX9_run 38 = .ok (.iload_n 3, 1) := by decide +kernel
theorem dX9_run_39 : decode cX9_run 39 = .ok (.invokevirtual 235, 3) := by decide +kernel
theorem dX9_run_42 : decode cX9_run 42 = .ok (.goto 8, 3) := by decide +kernel
theorem dX9_run_45 : decode cX9_run 45 = .ok (.aload_n 0, 1) := by decide +kernel
theorem dX9_run_46 : decode cX9_run 46 = .ok (.iload_n 3, 1) := by decide +kernel
theorem dX9_run_47 : decode cX9_run 47 = .ok (.invokevirtual 238, 3) := by decide +kernel
theorem dX9_run_50 : decode cX9_run 50 = .ok (.iadd, 1) := by decide +kernel
theorem dX9_run_51 : decode cX9_run 51 = .ok (.istore_n 2, 1) := by decide +kernel
theorem dX9_run_52 : decode cX9_run 52 = .ok (.iinc 3 (-1), 3) := by decide +kernel
theorem dX9_run_55 : decode cX9_run 55 = .ok (.goto (-32), 3) := by decide +kernel
theorem dX9_run_58 : decode cX9_run 58 = .ok (.iload_n 2, 1) := by decide +kernel
theorem dX9_run_59 : decode cX9_run 59 = .ok (.ireturn, 1) := by decide +kernel
theorem dX9_plainSums_0 : decode cX9_plainSums 0 = .ok (.iconst 0, 1) := by decide +kernel
theorem dX9_plainSums_1 : decode cX9_plainSums 1 = .ok (.istore_n 2, 1) := by decide +kernel
theorem dX9_plainSums_2 : decode cX9_plainSums 2 = .ok (.iconst 0, 1) := by decide +kernel
theorem dX9_plainSums_3 : decode cX9_plainSums 3 = .ok (.istore_n 3, 1) := by decide +kernel
theorem dX9_plainSums_4 : decode cX9_plainSums 4 = .ok (.iload_n 3, 1) := by decide +kernel
theorem dX9_plainSums_5 : decode cX9_plainSums 5 = .ok (.aload_n 0, 1) := by decide +kernel
theorem dX9_plainSums_6 : decode cX9_plainSums 6 = .ok (.getfield 85, 3) := by decide +kernel
theorem dX9_plainSums_9 : decode cX9_plainSums 9 = .ok (.if_icmp .ge 68, 3) := by decide +kernel
theorem dX9_plainSums_12 : decode cX9_plainSums 12 = .ok (.iconst 0, 1) := by decide +kernel
theorem dX9_plainSums_13 : decode cX9_plainSums 13 = .ok (.istore 4, 2) := by decide +kernel
theorem dX9_plainSums_15 : decode cX9_plainSums 15 = .ok (.iconst 0, 1) := by decide +kernel
theorem dX9_plainSums_16 : decode cX9_plainSums 16 = .ok (.istore 5, 2) := by decide +kernel
theorem dX9_plainSums_18 : decode cX9_plainSums 18 = .ok (.iload 5, 2) := by decide +kernel
theorem dX9_plainSums_20 : decode cX9_plainSums 20 = .ok (.iload_n 1, 1) := by decide +kernel
theorem dX9_plainSums_21 : decode cX9_plainSums 21 = .ok (.if_icmp .ge 34, 3) := by decide +kernel
theorem dX9_plainSums_24 : decode cX9_plainSums 24 = .ok (.iload 4, 2) := by decide +kernel
theorem dX9_plainSums_26 : decode cX9_plainSums 26 = .ok (.aload_n 0, 1) := by decide +kernel
theorem dX9_plainSums_27 : decode cX9_plainSums 27 = .ok (.getfield 78, 3) := by decide +kernel
theorem dX9_plainSums_30 : decode cX9_plainSums 30 = .ok (.bipush 49, 2) := by decide +kernel
theorem dX9_plainSums_32 : decode cX9_plainSums 32 = .ok (.iload_n 3, 1) := by decide +kernel
theorem dX9_plainSums_33 : decode cX9_plainSums 33 = .ok (.imul, 1) := by decide +kernel
theorem dX9_plainSums_34 : decode cX9_plainSums 34 = .ok (.iload 5, 2) := by decide +kernel
theorem dX9_plainSums_36 : decode cX9_plainSums 36 = .ok (.iadd, 1) := by decide +kernel
theorem dX9_plainSums_37 : decode cX9_plainSums 37 = .ok (.iaload, 1) := by decide +kernel
theorem dX9_plainSums_38 : decode cX9_plainSums 38 = .ok (.ifCond .eq 7, 3) := by decide +kernel
theorem dX9_plainSums_41 : decode cX9_plainSums 41 = .ok (.iconst 1, 1) := by decide +kernel
theorem dX9_plainSums_42 : decode cX9_plainSums 42 = .ok (.goto 4, 3) := by decide +kernel
theorem dX9_plainSums_45 : decode cX9_plainSums 45 = .ok (.iconst 0, 1) := by decide +kernel
theorem dX9_plainSums_46 : decode cX9_plainSums 46 = .ok (.iadd, 1) := by decide +kernel
theorem dX9_plainSums_47 : decode cX9_plainSums 47 = .ok (.istore 4, 2) := by decide +kernel
theorem dX9_plainSums_49 : decode cX9_plainSums 49 = .ok (.iinc 5 1, 3) := by decide +kernel
theorem dX9_plainSums_52 : decode cX9_plainSums 52 = .ok (.goto (-34), 3) := by decide +kernel
theorem dX9_plainSums_55 : decode cX9_plainSums 55 = .ok (.iload_n 2, 1) := by decide +kernel
theorem dX9_plainSums_56 : decode cX9_plainSums 56 = .ok (.iload 4, 2) := by decide +kernel
theorem dX9_plainSums_58 : decode cX9_plainSums 58 = .ok (.ifCond .le 10, 3) := by decide +kernel
theorem dX9_plainSums_61 : decode cX9_plainSums 61 = .ok (.iload 4, 2) := by decide +kernel
theorem dX9_plainSums_63 : decode cX9_plainSums 63 = .ok (.iconst 1, 1) := by decide +kernel
theorem dX9_plainSums_64 : decode cX9_plainSums 64 = .ok (.isub, 1) := by decide +kernel
theorem dX9_plainSums_65 : decode cX9_plainSums 65 = .ok (.goto 4, 3) := by decide +kernel
theorem dX9_plainSums_68 : decode cX9_plainSums 68 = .ok (.iconst 0, 1) := by decide +kernel
theorem dX9_plainSums_69 : decode cX9_plainSums 69 = .ok (.iadd, 1) := by decide +kernel
theorem dX9_plainSums_70 : decode cX9_plainSums 70 = .ok (.istore_n 2, 1) := by decide +kernel
theorem dX9_plainSums_71 : decode cX9_plainSums 71 = .ok (.iinc 3 1, 3) := by decide +kernel
theorem dX9_plainSums_74 : decode cX9_plainSums 74 = .ok (.goto (-70), 3) := by decide +kernel
theorem dX9_plainSums_77 : decode cX9_plainSums 77 = .ok (.iload_n 2, 1) := by decide +kernel
theorem dX9_plainSums_78 : decode cX9_plainSums 78 = .ok (.ireturn, 1) := by decide +kernel
theorem dX9_hasBoth_0 : decode cX9_hasBoth 0 = .ok (.aload_n 0, 1) := by decide +kernel
theorem dX9_hasBoth_1 : decode cX9_hasBoth 1 = .ok (.getfield 78, 3) := by decide +kernel
theorem dX9_hasBoth_4 : decode cX9_hasBoth 4 = .ok (.bipush 49, 2) := by decide +kernel
theorem dX9_hasBoth_6 : decode cX9_hasBoth 6 = .ok (.iload_n 1, 1) := by decide +kernel
theorem dX9_hasBoth_7 : decode cX9_hasBoth 7 = .ok (.imul, 1) := by decide +kernel
theorem dX9_hasBoth_8 : decode cX9_hasBoth 8 = .ok (.iload_n 2, 1) := by decide +kernel
theorem dX9_hasBoth_9 : decode cX9_hasBoth 9 = .ok (.iadd, 1) := by decide +kernel
theorem dX9_hasBoth_10 : decode cX9_hasBoth 10 = .ok (.iaload, 1) := by decide +kernel
theorem dX9_hasBoth_11 : decode cX9_hasBoth 11 = .ok (.istore 5, 2) := by decide +kernel
theorem dX9_hasBoth_13 : decode cX9_hasBoth 13 = .ok (.iload 5, 2) := by decide +kernel
theorem dX9_hasBoth_15 : decode cX9_hasBoth 15 = .ok (.ifCond .eq 31, 3) := by decide +kernel
theorem dX9_hasBoth_18 : decode cX9_hasBoth 18 = .ok (.aload_n 0, 1) := by decide +kernel
theorem dX9_hasBoth_19 : decode cX9_hasBoth 19 = .ok (.getfield 78, 3) := by decide +kernel
theorem dX9_hasBoth_22 : decode cX9_hasBoth 22 = .ok (.bipush 49, 2) := by decide +kernel
theorem dX9_hasBoth_24 : decode cX9_hasBoth 24 = .ok (.iload_n 1, 1) := by decide +kernel
theorem dX9_hasBoth_25 : decode cX9_hasBoth 25 = .ok (.imul, 1) := by decide +kernel
theorem dX9_hasBoth_26 : decode cX9_hasBoth 26 = .ok (.iload_n 3, 1) := by decide +kernel
theorem dX9_hasBoth_27 : decode cX9_hasBoth 27 = .ok (.iadd, 1) := by decide +kernel
theorem dX9_hasBoth_28 : decode cX9_hasBoth 28 = .ok (.iaload, 1) := by decide +kernel
theorem dX9_hasBoth_29 : decode cX9_hasBoth 29 = .ok (.iload 4, 2) := by decide +kernel
theorem dX9_hasBoth_31 : decode cX9_hasBoth 31 = .ok (.iload 5, 2) := by decide +kernel
theorem dX9_hasBoth_33 : decode cX9_hasBoth 33 = .ok (.imul, 1) := by decide +kernel
theorem dX9_hasBoth_34 : decode cX9_hasBoth 34 = .ok (.aload_n 0, 1) := by decide +kernel
