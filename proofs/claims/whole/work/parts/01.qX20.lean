theorem dX2_init_0 : decode cX2_init 0 = .ok (.aload_n 0, 1) := by decide +kernel
theorem dX2_init_1 : decode cX2_init 1 = .ok (.invokespecial 3, 3) := by decide +kernel
theorem dX2_init_4 : decode cX2_init 4 = .ok (.aload_n 0, 1) := by decide +kernel
theorem dX2_init_5 : decode cX2_init 5 = .ok (.aload_n 1, 1) := by decide +kernel
theorem dX2_init_6 : decode cX2_init 6 = .ok (.putfield 9, 3) := by decide +kernel
theorem dX2_init_9 : decode cX2_init 9 = .ok (.return_, 1) := by decide +kernel
theorem dX2_turnRound_0 : decode cX2_turnRound 0 = .ok (.aload_n 2, 1) := by decide +kernel
theorem dX2_turnRound_1 : decode cX2_turnRound 1 = .ok (.aload_n 1, 1) := by decide +kernel
theorem dX2_turnRound_2 : decode cX2_turnRound 2 = .ok (.getfield 15, 3) := by decide +kernel
theorem dX2_turnRound_5 : decode cX2_turnRound 5 = .ok (.iconst 1, 1) := by decide +kernel
theorem dX2_turnRound_6 : decode cX2_turnRound 6 = .ok (.iaload, 1) := by decide +kernel
theorem dX2_turnRound_7 : decode cX2_turnRound 7 = .ok (.aload_n 1, 1) := by decide +kernel
theorem dX2_turnRound_8 : decode cX2_turnRound 8 = .ok (.getfield 15, 3) := by decide +kernel
theorem dX2_turnRound_11 : decode cX2_turnRound 11 = .ok (.iconst 2, 1) := by decide +kernel
theorem dX2_turnRound_12 : decode cX2_turnRound 12 = .ok (.iaload, 1) := by decide +kernel
theorem dX2_turnRound_13 : decode cX2_turnRound 13 = .ok (.aload_n 1, 1) := by decide +kernel
theorem dX2_turnRound_14 : decode cX2_turnRound 14 = .ok (.getfield 15, 3) := by decide +kernel
theorem dX2_turnRound_17 : decode cX2_turnRound 17 = .ok (.iconst 0, 1) := by decide +kernel
theorem dX2_turnRound_18 : decode cX2_turnRound 18 = .ok (.iaload, 1) := by decide +kernel
theorem dX2_turnRound_19 : decode cX2_turnRound 19 = .ok (.invokevirtual 21, 3) := by decide +kernel
theorem dX2_turnRound_22 : decode cX2_turnRound 22 = .ok (.iconst 0, 1) := by decide +kernel
theorem dX2_turnRound_23 : decode cX2_turnRound 23 = .ok (.istore_n 3, 1) := by decide +kernel
theorem dX2_turnRound_24 : decode cX2_turnRound 24 = .ok (.iload_n 3, 1) := by decide +kernel
theorem dX2_turnRound_25 : decode cX2_turnRound 25 = .ok (.aload_n 1, 1) := by decide +kernel
theorem dX2_turnRound_26 : decode cX2_turnRound 26 = .ok (.getfield 15, 3) := by decide +kernel
theorem dX2_turnRound_29 : decode cX2_turnRound 29 = .ok (.iconst 1, 1) := by decide +kernel
theorem dX2_turnRound_30 : decode cX2_turnRound 30 = .ok (.iaload, 1) := by decide +kernel
theorem dX2_turnRound_31 : decode cX2_turnRound 31 = .ok (.if_icmp .ge 44, 3) := by decide +kernel
theorem dX2_turnRound_34 : decode cX2_turnRound 34 = .ok (.iconst 0, 1) := by decide +kernel
theorem dX2_turnRound_35 : decode cX2_turnRound 35 = .ok (.istore 4, 2) := by decide +kernel
theorem dX2_turnRound_37 : decode cX2_turnRound 37 = .ok (.iload 4, 2) := by decide +kernel
theorem dX2_turnRound_39 : decode cX2_turnRound 39 = .ok (.aload_n 1, 1) := by decide +kernel
theorem dX2_turnRound_40 : decode cX2_turnRound 40 = .ok (.getfield 15, 3) := by decide +kernel
theorem dX2_turnRound_43 : decode cX2_turnRound 43 = .ok (.iconst 2, 1) := by decide +kernel
theorem dX2_turnRound_44 : decode cX2_turnRound 44 = .ok (.iaload, 1) := by decide +kernel
theorem dX2_turnRound_45 : decode cX2_turnRound 45 = .ok (.if_icmp .ge 24, 3) := by decide +kernel
theorem dX2_turnRound_48 : decode cX2_turnRound 48 = .ok (.aload_n 2, 1) := by decide +kernel
theorem dX2_turnRound_49 : decode cX2_turnRound 49 = .ok (.iload_n 3, 1) := by decide +kernel
theorem dX2_turnRound_50 : decode cX2_turnRound 50 = .ok (.iload 4, 2) := by decide +kernel
theorem dX2_turnRound_52 : decode cX2_turnRound 52 = .ok (.aload_n 1, 1) := by decide +kernel
theorem dX2_turnRound_53 : decode cX2_turnRound 53 = .ok (.iconst 0, 1) := by decide +kernel
theorem dX2_turnRound_54 : decode cX2_turnRound 54 = .ok (.iload_n 3, 1) := by decide +kernel
theorem dX2_turnRound_55 : decode cX2_turnRound 55 = .ok (.iload 4, 2) := by decide +kernel
theorem dX2_turnRound_57 : decode cX2_turnRound 57 = .ok (.invokevirtual 25, 3) := by decide +kernel
theorem dX2_turnRound_60 : decode cX2_turnRound 60 = .ok (.invokevirtual 29, 3) := by decide +kernel
theorem dX2_turnRound_63 : decode cX2_turnRound 63 = .ok (.iinc 4 1, 3) := by decide +kernel
theorem dX2_turnRound_66 : decode cX2_turnRound 66 = .ok (.goto (-29), 3) := by decide +kernel
theorem dX2_turnRound_69 : decode cX2_turnRound 69 = .ok (.iinc 3 1, 3) := by decide +kernel
theorem dX2_turnRound_72 : decode cX2_turnRound 72 = .ok (.goto (-48), 3) := by decide +kernel
theorem dX2_turnRound_75 : decode cX2_turnRound 75 = .ok (.iconst 0, 1) := by decide +kernel
theorem dX2_turnRound_76 : decode cX2_turnRound 76 = .ok (.istore_n 3, 1) := by decide +kernel
theorem dX2_turnRound_77 : decode cX2_turnRound 77 = .ok (.iload_n 3, 1) := by decide +kernel
theorem dX2_turnRound_78 : decode cX2_turnRound 78 = .ok (.aload_n 1, 1) := by decide +kernel
theorem dX2_turnRound_79 : decode cX2_turnRound 79 = .ok (.getfield 32, 3) := by decide +kernel
theorem dX2_turnRound_82 : decode cX2_turnRound 82 = .ok (.if_icmp .ge 31, 3) := by decide +kernel
theorem dX2_turnRound_85 : decode cX2_turnRound 85 = .ok (.aload_n 2, 1) := by decide +kernel
theorem dX2_turnRound_86 : decode cX2_turnRound 86 = .ok (.aload_n 1, 1) := by decide +kernel
theorem dX2_turnRound_87 : decode cX2_turnRound 87 = .ok (.iconst 1, 1) := by decide +kernel
theorem dX2_turnRound_88 : decode cX2_turnRound 88 = .ok (.iload_n 3, 1) := by decide +kernel
theorem dX2_turnRound_89 : decode cX2_turnRound 89 = .ok (.invokevirtual 36, 3) := by decide +kernel
theorem dX2_turnRound_92 : decode cX2_turnRound 92 = .ok (.aload_n 1, 1) := by decide +kernel
theorem dX2_turnRound_93 : decode cX2_turnRound 93 = .ok (.iconst 2, 1) := by decide +kernel
theorem dX2_turnRound_94 : decode cX2_turnRound 94 = .ok (.iload_n 3, 1) := by decide +kernel
theorem dX2_turnRound_95 : decode cX2_turnRound 95 = .ok (.invokevirtual 36, 3) := by decide +kernel
theorem dX2_turnRound_98 : decode cX2_turnRound 98 = .ok (.aload_n 1, 1) := by decide +kernel
theorem dX2_turnRound_99 : decode cX2_turnRound 99 = .ok (.iconst 0, 1) := by decide +kernel
theorem dX2_turnRound_100 : decode cX2_turnRound 100 = .ok (.iload_n 3, 1) := by decide +kernel
theorem dX2_turnRound_101 : decode cX2_turnRound 101 = .ok (.invokevirtual 36, 3) := by decide +kernel
theorem dX2_turnRound_104 : decode cX2_turnRound 104 = .ok (.invokevirtual 40, 3) := by decide +kernel
theorem dX2_turnRound_107 : decode cX2_turnRound 107 = .ok (.iinc 3 1, 3) := by decide +kernel
theorem dX2_turnRound_110 : decode cX2_turnRound 110 = .ok (.goto (-33), 3) := by decide +kernel
theorem dX2_turnRound_113 : decode cX2_turnRound 113 = .ok (.return_, 1) := by decide +kernel
theorem dX2_putBeside_0 : decode cX2_putBeside 0 = .ok (.aload_n 1, 1) := by decide +kernel
theorem dX2_putBeside_1 : decode cX2_putBeside 1 = .ok (.getfield 15, 3) := by decide +kernel
theorem dX2_putBeside_4 : decode cX2_putBeside 4 = .ok (.iconst 0, 1) := by decide +kernel
theorem dX2_putBeside_5 : decode cX2_putBeside 5 = .ok (.iaload, 1) := by decide +kernel
theorem dX2_putBeside_6 : decode cX2_putBeside 6 = .ok (.istore 4, 2) := by decide +kernel
theorem dX2_putBeside_8 : decode cX2_putBeside 8 = .ok (.aload_n 1, 1) := by decide +kernel
theorem dX2_putBeside_9 : decode cX2_putBeside 9 = .ok (.getfield 15, 3) := by decide +kernel
theorem dX2_putBeside_12 : decode cX2_putBeside 12 = .ok (.iconst 1, 1) := by decide +kernel
theorem dX2_putBeside_13 : decode cX2_putBeside 13 = .ok (.iaload, 1) := by decide +kernel
theorem dX2_putBeside_14 : decode cX2_putBeside 14 = .ok (.istore 5, 2) := by decide +kernel
theorem dX2_putBeside_16 : decode cX2_putBeside 16 = .ok (.aload_n 1, 1) := by decide +kernel
theorem dX2_putBeside_17 : decode cX2_putBeside 17 = .ok (.getfield 15, 3) := by decide +kernel
theorem dX2_putBeside_20 : decode cX2_putBeside 20 = .ok (.iconst 2, 1) := by decide +kernel
theorem dX2_putBeside_21 : decode cX2_putBeside 21 = .ok (.iaload, 1) := by decide +kernel
theorem dX2_putBeside_22 : decode cX2_putBeside 22 = .ok (.istore 6, 2) := by decide +kernel
theorem dX2_putBeside_24 : decode cX2_putBeside 24 = .ok (.aload_n 3, 1) := by decide +kernel
theorem dX2_putBeside_25 : decode cX2_putBeside 25 = .ok (.iload 4, 2) := by decide +kernel
theorem dX2_putBeside_27 : decode cX2_putBeside 27 = .ok (.aload_n 2, 1) := by decide +kernel
theorem dX2_putBeside_28 : decode cX2_putBeside 28 = .ok (.getfield 15, 3) := by decide +kernel
theorem dX2_putBeside_31 : decode cX2_putBeside 31 = .ok (.iconst 0, 1) := by decide +kernel
theorem dX2_putBeside_32 : decode cX2_putBeside 32 = .ok (.iaload, 1) := by decide +kernel
theorem dX2_putBeside_33 : decode cX2_putBeside 33 = .ok (.iadd, 1) := by decide +kernel
theorem dX2_putBeside_34 : decode cX2_putBeside 34 = .ok (.iload 5, 2) := by decide +kernel
theorem dX2_putBeside_36 : decode cX2_putBeside 36 = .ok (.aload_n 2, 1) := by decide +kernel
theorem dX2_putBeside_37 : decode cX2_putBeside 37 = .ok (.getfield 15, 3) := by decide +kernel
theorem dX2_putBeside_40 : decode cX2_putBeside 40 = .ok (.iconst 1, 1) := by decide +kernel
theorem dX2_putBeside_41 : decode cX2_putBeside 41 = .ok (.iaload, 1) := by decide +kernel
theorem dX2_putBeside_42 : decode cX2_putBeside 42 = .ok (.iadd, 1) := by decide +kernel
theorem dX2_putBeside_43 : decode cX2_putBeside 43 = .ok (.iload 6, 2) := by decide +kernel
theorem dX2_putBeside_45 : decode cX2_putBeside 45 = .ok (.aload_n 2, 1) := by decide +kernel
theorem dX2_putBeside_46 : decode cX2_putBeside 46 = .ok (.getfield 15, 3) := by decide +kernel
theorem dX2_putBeside_49 : decode cX2_putBeside 49 = .ok (.iconst 2, 1) := by decide +kernel
theorem dX2_putBeside_50 : decode cX2_putBeside 50 = .ok (.iaload, 1) := by decide +kernel
theorem dX2_putBeside_51 : decode cX2_putBeside 51 = .ok (.iadd, 1) := by decide +kernel
theorem dX2_putBeside_52 : decode cX2_putBeside 52 = .ok (.invokevirtual 21, 3) := by decide +kernel
theorem dX2_putBeside_55 : decode cX2_putBeside 55 = .ok (.iconst 0, 1) := by decide +kernel
theorem dX2_putBeside_56 : decode cX2_putBeside 56 = .ok (.istore 7, 2) := by decide +kernel
theorem dX2_putBeside_58 : decode cX2_putBeside 58 = .ok (.iload 7, 2) := by decide +kernel
theorem dX2_putBeside_60 : decode cX2_putBeside 60 = .ok (.iload 4, 2) := by decide +kernel
theorem dX2_putBeside_62 : decode cX2_putBeside 62 = .ok (.if_icmp .ge 41, 3) := by decide +kernel
theorem dX2_putBeside_65 : decode cX2_putBeside 65 = .ok (.iconst 0, 1) := by decide +kernel
theorem dX2_putBeside_66 : decode cX2_putBeside 66 = .ok (.istore 8, 2) := by decide +kernel
theorem dX2_putBeside_68 : decode cX2_putBeside 68 = .ok (.iload 8, 2) := by decide +kernel
theorem dX2_putBeside_70 : decode cX2_putBeside 70 = .ok (.iload 5, 2) := by decide +kernel
theorem dX2_putBeside_72 : decode cX2_putBeside 72 = .ok (.if_icmp .ge 25, 3) := by decide +kernel
theorem dX2_putBeside_75 : decode cX2_putBeside 75 = .ok (.aload_n 3, 1) := by decide +kernel
theorem dX2_putBeside_76 : decode cX2_putBeside 76 = .ok (.iload 7, 2) := by decide +kernel
theorem dX2_putBeside_78 : decode cX2_putBeside 78 = .ok (.iload 8, 2) := by decide +kernel
theorem dX2_putBeside_80 : decode cX2_putBeside 80 = .ok (.aload_n 1, 1) := by decide +kernel
theorem dX2_putBeside_81 : decode cX2_putBeside 81 = .ok (.iload 7, 2) := by decide +kernel
theorem dX2_putBeside_83 : decode cX2_putBeside 83 = .ok (.iload 8, 2) := by decide +kernel
theorem dX2_putBeside_85 : decode cX2_putBeside 85 = .ok (.invokevirtual 43, 3) := by decide +kernel
theorem dX2_putBeside_88 : decode cX2_putBeside 88 = .ok (.invokevirtual 29, 3) := by decide +kernel
theorem dX2_putBeside_91 : decode cX2_putBeside 91 = .ok (.iinc 8 1, 3) := by decide +kernel
theorem dX2_putBeside_94 : decode cX2_putBeside 94 = .ok (.goto (-26), 3) := by decide +kernel
theorem dX2_putBeside_97 : decode cX2_putBeside 97 = .ok (.iinc 7 1, 3) := by decide +kernel
theorem dX2_putBeside_100 : decode cX2_putBeside 100 = .ok (.goto (-42), 3) := by decide +kernel
theorem dX2_putBeside_103 : decode cX2_putBeside 103 = .ok (.iconst 0, 1) := by decide +kernel
theorem dX2_putBeside_104 : decode cX2_putBeside 104 = .ok (.istore 7, 2) := by decide +kernel
theorem dX2_putBeside_106 : decode cX2_putBeside 106 = .ok (.iload 7, 2) := by decide +kernel
theorem dX2_putBeside_108 : decode cX2_putBeside 108 = .ok (.aload_n 2, 1) := by decide +kernel
theorem dX2_putBeside_109 : decode cX2_putBeside 109 = .ok (.getfield 15, 3) := by decide +kernel
theorem dX2_putBeside_112 : decode cX2_putBeside 112 = .ok (.iconst 0, 1) := by decide +kernel
theorem dX2_putBeside_113 : decode cX2_putBeside 113 = .ok (.iaload, 1) := by decide +kernel
theorem dX2_putBeside_114 : decode cX2_putBeside 114 = .ok (.if_icmp .ge 62, 3) := by decide +kernel
theorem dX2_putBeside_117 : decode cX2_putBeside 117 = .ok (.iconst 0, 1) := by decide +kernel
theorem dX2_putBeside_118 : decode cX2_putBeside 118 = .ok (.istore 8, 2) := by decide +kernel
theorem dX2_putBeside_120 : decode cX2_putBeside 120 = .ok (.iload 8, 2) := by decide +kernel
theorem dX2_putBeside_122 : decode cX2_putBeside 122 = .ok (.aload_n 2, 1) := by decide +kernel
theorem dX2_putBeside_123 : decode cX2_putBeside 123 = .ok (.getfield 15, 3) := by decide +kernel
theorem dX2_putBeside_126 : decode cX2_putBeside 126 = .ok (.iconst 1, 1) := by decide +kernel
theorem dX2_putBeside_127 : decode cX2_putBeside 127 = .ok (.iaload, 1) := by decide +kernel
theorem dX2_putBeside_128 : decode cX2_putBeside 128 = .ok (.if_icmp .ge 42, 3) := by decide +kernel
theorem dX2_putBeside_131 : decode cX2_putBeside 131 = .ok (.aload_n 3, 1) := by decide +kernel
theorem dX2_putBeside_132 : decode cX2_putBeside 132 = .ok (.iload 4, 2) := by decide +kernel
theorem dX2_putBeside_134 : decode cX2_putBeside 134 = .ok (.iload 7, 2) := by decide +kernel
theorem dX2_putBeside_136 : decode cX2_putBeside 136 = .ok (.iadd, 1) := by decide +kernel
theorem dX2_putBeside_137 : decode cX2_putBeside 137 = .ok (.iload 5, 2) := by decide +kernel
theorem dX2_putBeside_139 : decode cX2_putBeside 139 = .ok (.iload 8, 2) := by decide +kernel
theorem dX2_putBeside_141 : decode cX2_putBeside 141 = .ok (.iadd, 1) := by decide +kernel
theorem dX2_putBeside_142 : decode cX2_putBeside 142 = .ok (.aload_n 2, 1) := by decide +kernel
theorem dX2_putBeside_143 : decode cX2_putBeside 143 = .ok (.iload 7, 2) := by decide +kernel
theorem dX2_putBeside_145 : decode cX2_putBeside 145 = .ok (.iload 8, 2) := by decide +kernel
theorem dX2_putBeside_147 : decode cX2_putBeside 147 = .ok (.invokevirtual 43, 3) := by decide +kernel
theorem dX2_putBeside_150 : decode cX2_putBeside 150 = .ok (.aload_n 0, 1) := by decide +kernel
theorem dX2_putBeside_151 : decode cX2_putBeside 151 = .ok (.getfield 9, 3) := by decide +kernel
theorem dX2_putBeside_154 : decode cX2_putBeside 154 = .ok (.getfield 46, 3) := by decide +kernel
theorem dX2_putBeside_157 : decode cX2_putBeside 157 = .ok (.iload 6, 2) := by decide +kernel
theorem dX2_putBeside_159 : decode cX2_putBeside 159 = .ok (.iaload, 1) := by decide +kernel
theorem dX2_putBeside_160 : decode cX2_putBeside 160 = .ok (.imul, 1) := by decide +kernel
theorem dX2_putBeside_161 : decode cX2_putBeside 161 = .ok (.invokevirtual 29, 3) := by decide +kernel
theorem dX2_putBeside_164 : decode cX2_putBeside 164 = .ok (.iinc 8 1, 3) := by decide +kernel
theorem dX2_putBeside_167 : decode cX2_putBeside 167 = .ok (.goto (-47), 3) := by decide +kernel
theorem dX2_putBeside_170 : decode cX2_putBeside 170 = .ok (.iinc 7 1, 3) := by decide +kernel
theorem dX2_putBeside_173 : decode cX2_putBeside 173 = .ok (.goto (-67), 3) := by decide +kernel
theorem dX2_putBeside_176 : decode cX2_putBeside 176 = .ok (.iconst 0, 1) := by decide +kernel
theorem dX2_putBeside_177 : decode cX2_putBeside 177 = .ok (.istore 7, 2) := by decide +kernel
theorem dX2_putBeside_179 : decode cX2_putBeside 179 = .ok (.iload 7, 2) := by decide +kernel
theorem dX2_putBeside_181 : decode cX2_putBeside 181 = .ok (.aload_n 1, 1) := by decide +kernel
theorem dX2_putBeside_182 : decode cX2_putBeside 182 = .ok (.getfield 32, 3) := by decide +kernel
theorem dX2_putBeside_185 : decode cX2_putBeside 185 = .ok (.if_icmp .ge 34, 3) := by decide +kernel
theorem dX2_putBeside_188 : decode cX2_putBeside 188 = .ok (.aload_n 3, 1) := by decide +kernel
theorem dX2_putBeside_189 : decode cX2_putBeside 189 = .ok (.aload_n 1, 1) := by decide +kernel
theorem dX2_putBeside_190 : decode cX2_putBeside 190 = .ok (.iconst 0, 1) := by decide +kernel
theorem dX2_putBeside_191 : decode cX2_putBeside 191 = .ok (.iload 7, 2) := by decide +kernel
theorem dX2_putBeside_193 : decode cX2_putBeside 193 = .ok (.invokevirtual 36, 3) := by decide +kernel
theorem dX2_putBeside_196 : decode cX2_putBeside 196 = .ok (.aload_n 1, 1) := by decide +kernel
theorem dX2_putBeside_197 : decode cX2_putBeside 197 = .ok (.iconst 1, 1) := by decide +kernel
theorem dX2_putBeside_198 : decode cX2_putBeside 198 = .ok (.iload 7, 2) := by decide +kernel
theorem dX2_putBeside_200 : decode cX2_putBeside 200 = .ok (.invokevirtual 36, 3) := by decide +kernel
theorem dX2_putBeside_203 : decode cX2_putBeside 203 = .ok (.aload_n 1, 1) := by decide +kernel
theorem dX2_putBeside_204 : decode cX2_putBeside 204 = .ok (.iconst 2, 1) := by decide +kernel
theorem dX2_putBeside_205 : decode cX2_putBeside 205 = .ok (.iload 7, 2) := by decide +kernel
theorem dX2_putBeside_207 : decode cX2_putBeside 207 = .ok (.invokevirtual 36, 3) := by decide +kernel
theorem dX2_putBeside_210 : decode cX2_putBeside 210 = .ok (.invokevirtual 40, 3) := by decide +kernel
theorem dX2_putBeside_213 : decode cX2_putBeside 213 = .ok (.iinc 7 1, 3) := by decide +kernel
theorem dX2_putBeside_216 : decode cX2_putBeside 216 = .ok (.goto (-37), 3) := by decide +kernel
theorem dX2_putBeside_219 : decode cX2_putBeside 219 = .ok (.iconst 0, 1) := by decide +kernel
theorem dX2_putBeside_220 : decode cX2_putBeside 220 = .ok (.istore 7, 2) := by decide +kernel
theorem dX2_putBeside_222 : decode cX2_putBeside 222 = .ok (.iload 7, 2) := by decide +kernel
theorem dX2_putBeside_224 : decode cX2_putBeside 224 = .ok (.aload_n 2, 1) := by decide +kernel
theorem dX2_putBeside_225 : decode cX2_putBeside 225 = .ok (.getfield 32, 3) := by decide +kernel
theorem dX2_putBeside_228 : decode cX2_putBeside 228 = .ok (.if_icmp .ge 67, 3) := by decide +kernel
theorem dX2_putBeside_231 : decode cX2_putBeside 231 = .ok (.aload_n 3, 1) := by decide +kernel
theorem dX2_putBeside_232 : decode cX2_putBeside 232 = .ok (.aload_n 2, 1) := by decide +kernel
theorem dX2_putBeside_233 : decode cX2_putBeside 233 = .ok (.iconst 0, 1) := by decide +kernel
theorem dX2_putBeside_234 : decode cX2_putBeside 234 = .ok (.iload 7, 2) := by decide +kernel
theorem dX2_putBeside_236 : decode cX2_putBeside 236 = .ok (.invokevirtual 36, 3) := by decide +kernel
theorem dX2_putBeside_239 : decode cX2_putBeside 239 = .ok (.aload_n 0, 1) := by decide +kernel
theorem dX2_putBeside_240 : decode cX2_putBeside 240 = .ok (.getfield 9, 3) := by decide +kernel
theorem dX2_putBeside_243 : decode cX2_putBeside 243 = .ok (.getfield 46, 3) := by decide +kernel
theorem dX2_putBeside_246 : decode cX2_putBeside 246 = .ok (.iload 4, 2) := by decide +kernel
theorem dX2_putBeside_248 : decode cX2_putBeside 248 = .ok (.iaload, 1) := by decide +kernel
theorem dX2_putBeside_249 : decode cX2_putBeside 249 = .ok (.imul, 1) := by decide +kernel
theorem dX2_putBeside_250 : decode cX2_putBeside 250 = .ok (.aload_n 2, 1) := by decide +kernel
theorem dX2_putBeside_251 : decode cX2_putBeside 251 = .ok (.iconst 1, 1) := by decide +kernel
theorem dX2_putBeside_252 : decode cX2_putBeside 252 = .ok (.iload 7, 2) := by decide +kernel
theorem dX2_putBeside_254 : decode cX2_putBeside 254 = .ok (.invokevirtual 36, 3) := by decide +kernel
theorem dX2_putBeside_257 : decode cX2_putBeside 257 = .ok (.aload_n 0, 1) := by decide +kernel
theorem dX2_putBeside_258 : decode cX2_putBeside 258 = .ok (.getfield 9, 3) := by decide +kernel
theorem dX2_putBeside_261 : decode cX2_putBeside 261 = .ok (.getfield 46, 3) := by decide +kernel
theorem dX2_putBeside_264 : decode cX2_putBeside 264 = .ok (.iload 5, 2) := by decide +kernel
theorem dX2_putBeside_266 : decode cX2_putBeside 266 = .ok (.iaload, 1) := by decide +kernel
theorem dX2_putBeside_267 : decode cX2_putBeside 267 = .ok (.imul, 1) := by decide +kernel
theorem dX2_putBeside_268 : decode cX2_putBeside 268 = .ok (.aload_n 2, 1) := by decide +kernel
theorem dX2_putBeside_269 : decode cX2_putBeside 269 = .ok (.iconst 2, 1) := by decide +kernel
theorem dX2_putBeside_270 : decode cX2_putBeside 270 = .ok (.iload 7, 2) := by decide +kernel
theorem dX2_putBeside_272 : decode cX2_putBeside 272 = .ok (.invokevirtual 36, 3) := by decide +kernel
theorem dX2_putBeside_275 : decode cX2_putBeside 275 = .ok (.aload_n 0, 1) := by decide +kernel
theorem dX2_putBeside_276 : decode cX2_putBeside 276 = .ok (.getfield 9, 3) := by decide +kernel
theorem dX2_putBeside_279 : decode cX2_putBeside 279 = .ok (.getfield 46, 3) := by decide +kernel
theorem dX2_putBeside_282 : decode cX2_putBeside 282 = .ok (.iload 6, 2) := by decide +kernel
theorem dX2_putBeside_284 : decode cX2_putBeside 284 = .ok (.iaload, 1) := by decide +kernel
theorem dX2_putBeside_285 : decode cX2_putBeside 285 = .ok (.imul, 1) := by decide +kernel
theorem dX2_putBeside_286 : decode cX2_putBeside 286 = .ok (.invokevirtual 40, 3) := by decide +kernel
theorem dX2_putBeside_289 : decode cX2_putBeside 289 = .ok (.iinc 7 1, 3) := by decide +kernel
theorem dX2_putBeside_292 : decode cX2_putBeside 292 = .ok (.goto (-70), 3) := by decide +kernel
theorem dX2_putBeside_295 : decode cX2_putBeside 295 = .ok (.return_, 1) := by decide +kernel
theorem dX2_putWithin_0 : decode cX2_putWithin 0 = .ok (.aload_n 3, 1) := by decide +kernel
theorem dX2_putWithin_1 : decode cX2_putWithin 1 = .ok (.aload_n 1, 1) := by decide +kernel
theorem dX2_putWithin_2 : decode cX2_putWithin 2 = .ok (.getfield 15, 3) := by decide +kernel
theorem dX2_putWithin_5 : decode cX2_putWithin 5 = .ok (.iconst 0, 1) := by decide +kernel
theorem dX2_putWithin_6 : decode cX2_putWithin 6 = .ok (.iaload, 1) := by decide +kernel
theorem dX2_putWithin_7 : decode cX2_putWithin 7 = .ok (.aload_n 2, 1) := by decide +kernel
theorem dX2_putWithin_8 : decode cX2_putWithin 8 = .ok (.getfield 15, 3) := by decide +kernel
theorem dX2_putWithin_11 : decode cX2_putWithin 11 = .ok (.iconst 0, 1) := by decide +kernel
theorem dX2_putWithin_12 : decode cX2_putWithin 12 = .ok (.iaload, 1) := by decide +kernel
theorem dX2_putWithin_13 : decode cX2_putWithin 13 = .ok (.imul, 1) := by decide +kernel
theorem dX2_putWithin_14 : decode cX2_putWithin 14 = .ok (.aload_n 1, 1) := by decide +kernel
theorem dX2_putWithin_15 : decode cX2_putWithin 15 = .ok (.getfield 15, 3) := by decide +kernel
theorem dX2_putWithin_18 : decode cX2_putWithin 18 = .ok (.iconst 1, 1) := by decide +kernel
theorem dX2_putWithin_19 : decode cX2_putWithin 19 = .ok (.iaload, 1) := by decide +kernel
theorem dX2_putWithin_20 : decode cX2_putWithin 20 = .ok (.aload_n 2, 1) := by decide +kernel
theorem dX2_putWithin_21 : decode cX2_putWithin 21 = .ok (.getfield 15, 3) := by decide +kernel
theorem dX2_putWithin_24 : decode cX2_putWithin 24 = .ok (.iconst 1, 1) := by decide +kernel
theorem dX2_putWithin_25 : decode cX2_putWithin 25 = .ok (.iaload, 1) := by decide +kernel
theorem dX2_putWithin_26 : decode cX2_putWithin 26 = .ok (.imul, 1) := by decide +kernel
theorem dX2_putWithin_27 : decode cX2_putWithin 27 = .ok (.aload_n 1, 1) := by decide +kernel
theorem dX2_putWithin_28 : decode cX2_putWithin 28 = .ok (.getfield 15, 3) := by decide +kernel
theorem dX2_putWithin_31 : decode cX2_putWithin 31 = .ok (.iconst 2, 1) := by decide +kernel
theorem dX2_putWithin_32 : decode cX2_putWithin 32 = .ok (.iaload, 1) := by decide +kernel
theorem dX2_putWithin_33 : decode cX2_putWithin 33 = .ok (.aload_n 2, 1) := by decide +kernel
theorem dX2_putWithin_34 : decode cX2_putWithin 34 = .ok (.getfield 15, 3) := by decide +kernel
theorem dX2_putWithin_37 : decode cX2_putWithin 37 = .ok (.iconst 2, 1) := by decide +kernel
theorem dX2_putWithin_38 : decode cX2_putWithin 38 = .ok (.iaload, 1) := by decide +kernel
theorem dX2_putWithin_39 : decode cX2_putWithin 39 = .ok (.imul, 1) := by decide +kernel
theorem dX2_putWithin_40 : decode cX2_putWithin 40 = .ok (.invokevirtual 21, 3) := by decide +kernel
theorem dX2_putWithin_43 : decode cX2_putWithin 43 = .ok (.iconst 0, 1) := by decide +kernel
theorem dX2_putWithin_44 : decode cX2_putWithin 44 = .ok (.istore 4, 2) := by decide +kernel
theorem dX2_putWithin_46 : decode cX2_putWithin 46 = .ok (.iload 4, 2) := by decide +kernel
theorem dX2_putWithin_48 : decode cX2_putWithin 48 = .ok (.aload_n 1, 1) := by decide +kernel
theorem dX2_putWithin_49 : decode cX2_putWithin 49 = .ok (.getfield 15, 3) := by decide +kernel
theorem dX2_putWithin_52 : decode cX2_putWithin 52 = .ok (.iconst 0, 1) := by decide +kernel
theorem dX2_putWithin_53 : decode cX2_putWithin 53 = .ok (.iaload, 1) := by decide +kernel
theorem dX2_putWithin_54 : decode cX2_putWithin 54 = .ok (.if_icmp .ge 40, 3) := by decide +kernel
theorem dX2_putWithin_57 : decode cX2_putWithin 57 = .ok (.iconst 0, 1) := by decide +kernel
theorem dX2_putWithin_58 : decode cX2_putWithin 58 = .ok (.istore 5, 2) := by decide +kernel
theorem dX2_putWithin_60 : decode cX2_putWithin 60 = .ok (.iload 5, 2) := by decide +kernel
theorem dX2_putWithin_62 : decode cX2_putWithin 62 = .ok (.aload_n 1, 1) := by decide +kernel
theorem dX2_putWithin_63 : decode cX2_putWithin 63 = .ok (.getfield 15, 3) := by decide +kernel
theorem dX2_putWithin_66 : decode cX2_putWithin 66 = .ok (.iconst 1, 1) := by decide +kernel
theorem dX2_putWithin_67 : decode cX2_putWithin 67 = .ok (.iaload, 1) := by decide +kernel
theorem dX2_putWithin_68 : decode cX2_putWithin 68 = .ok (.if_icmp .ge 20, 3) := by decide +kernel
theorem dX2_putWithin_71 : decode cX2_putWithin 71 = .ok (.aload_n 0, 1) := by decide +kernel
theorem dX2_putWithin_72 : decode cX2_putWithin 72 = .ok (.aload_n 1, 1) := by decide +kernel
theorem dX2_putWithin_73 : decode cX2_putWithin 73 = .ok (.iload 4, 2) := by decide +kernel
theorem dX2_putWithin_75 : decode cX2_putWithin 75 = .ok (.iload 5, 2) := by decide +kernel
theorem dX2_putWithin_77 : decode cX2_putWithin 77 = .ok (.aload_n 2, 1) := by decide +kernel
theorem dX2_putWithin_78 : decode cX2_putWithin 78 = .ok (.aload_n 3, 1) := by decide +kernel
theorem dX2_putWithin_79 : decode cX2_putWithin 79 = .ok (.invokevirtual 51, 3) := by decide +kernel
theorem dX2_putWithin_82 : decode cX2_putWithin 82 = .ok (.iinc 5 1, 3) := by decide +kernel
theorem dX2_putWithin_85 : decode cX2_putWithin 85 = .ok (.goto (-25), 3) := by decide +kernel
theorem dX2_putWithin_88 : decode cX2_putWithin 88 = .ok (.iinc 4 1, 3) := by decide +kernel
theorem dX2_putWithin_91 : decode cX2_putWithin 91 = .ok (.goto (-45), 3) := by decide +kernel
theorem dX2_putWithin_94 : decode cX2_putWithin 94 = .ok (.iconst 0, 1) := by decide +kernel
theorem dX2_putWithin_95 : decode cX2_putWithin 95 = .ok (.istore 4, 2) := by decide +kernel
theorem dX2_putWithin_97 : decode cX2_putWithin 97 = .ok (.iload 4, 2) := by decide +kernel
theorem dX2_putWithin_99 : decode cX2_putWithin 99 = .ok (.aload_n 1, 1) := by decide +kernel
theorem dX2_putWithin_100 : decode cX2_putWithin 100 = .ok (.getfield 32, 3) := by decide +kernel
theorem dX2_putWithin_103 : decode cX2_putWithin 103 = .ok (.if_icmp .ge 64, 3) := by decide +kernel
theorem dX2_putWithin_106 : decode cX2_putWithin 106 = .ok (.iconst 0, 1) := by decide +kernel
theorem dX2_putWithin_107 : decode cX2_putWithin 107 = .ok (.istore 5, 2) := by decide +kernel
theorem dX2_putWithin_109 : decode cX2_putWithin 109 = .ok (.iload 5, 2) := by decide +kernel
theorem dX2_putWithin_111 : decode cX2_putWithin 111 = .ok (.aload_n 2, 1) := by decide +kernel
theorem dX2_putWithin_112 : decode cX2_putWithin 112 = .ok (.getfield 32, 3) := by decide +kernel
theorem dX2_putWithin_115 : decode cX2_putWithin 115 = .ok (.if_icmp .ge 46, 3) := by decide +kernel
theorem dX2_putWithin_118 : decode cX2_putWithin 118 = .ok (.aload_n 3, 1) := by decide +kernel
theorem dX2_putWithin_119 : decode cX2_putWithin 119 = .ok (.aload_n 0, 1) := by decide +kernel
theorem dX2_putWithin_120 : decode cX2_putWithin 120 = .ok (.aload_n 1, 1) := by decide +kernel
theorem dX2_putWithin_121 : decode cX2_putWithin 121 = .ok (.iload 4, 2) := by decide +kernel
theorem dX2_putWithin_123 : decode cX2_putWithin 123 = .ok (.aload_n 2, 1) := by decide +kernel
theorem dX2_putWithin_124 : decode cX2_putWithin 124 = .ok (.iload 5, 2) := by decide +kernel
theorem dX2_putWithin_126 : decode cX2_putWithin 126 = .ok (.iconst 0, 1) := by decide +kernel
theorem dX2_putWithin_127 : decode cX2_putWithin 127 = .ok (.invokevirtual 55, 3) := by decide +kernel
theorem dX2_putWithin_130 : decode cX2_putWithin 130 = .ok (.aload_n 0, 1) := by decide +kernel
theorem dX2_putWithin_131 : decode cX2_putWithin 131 = .ok (.aload_n 1, 1) := by decide +kernel
theorem dX2_putWithin_132 : decode cX2_putWithin 132 = .ok (.iload 4, 2) := by decide +kernel
theorem dX2_putWithin_134 : decode cX2_putWithin 134 = .ok (.aload_n 2, 1) := by decide +kernel
theorem dX2_putWithin_135 : decode cX2_putWithin 135 = .ok (.iload 5, 2) := by decide +kernel
theorem dX2_putWithin_137 : decode cX2_putWithin 137 = .ok (.iconst 1, 1) := by decide +kernel
theorem dX2_putWithin_138 : decode cX2_putWithin 138 = .ok (.invokevirtual 55, 3) := by decide +kernel
theorem dX2_putWithin_141 : decode cX2_putWithin 141 = .ok (.aload_n 0, 1) := by decide +kernel
theorem dX2_putWithin_142 : decode cX2_putWithin 142 = .ok (.aload_n 1, 1) := by decide +kernel
theorem dX2_putWithin_143 : decode cX2_putWithin 143 = .ok (.iload 4, 2) := by decide +kernel
theorem dX2_putWithin_145 : decode cX2_putWithin 145 = .ok (.aload_n 2, 1) := by decide +kernel
theorem dX2_putWithin_146 : decode cX2_putWithin 146 = .ok (.iload 5, 2) := by decide +kernel
theorem dX2_putWithin_148 : decode cX2_putWithin 148 = .ok (.iconst 2, 1) := by decide +kernel
theorem dX2_putWithin_149 : decode cX2_putWithin 149 = .ok (.invokevirtual 55, 3) := by decide +kernel
theorem dX2_putWithin_152 : decode cX2_putWithin 152 = .ok (.invokevirtual 40, 3) := by decide +kernel
theorem dX2_putWithin_155 : decode cX2_putWithin 155 = .ok (.iinc 5 1, 3) := by decide +kernel
theorem dX2_putWithin_158 : decode cX2_putWithin 158 = .ok (.goto (-49), 3) := by decide +kernel
theorem dX2_putWithin_161 : decode cX2_putWithin 161 = .ok (.iinc 4 1, 3) := by decide +kernel
theorem dX2_putWithin_164 : decode cX2_putWithin 164 = .ok (.goto (-67), 3) := by decide +kernel
theorem dX2_putWithin_167 : decode cX2_putWithin 167 = .ok (.return_, 1) := by decide +kernel
theorem dX2_fillWithin_0 : decode cX2_fillWithin 0 = .ok (.aload_n 1, 1) := by decide +kernel
theorem dX2_fillWithin_1 : decode cX2_fillWithin 1 = .ok (.iload_n 2, 1) := by decide +kernel
theorem dX2_fillWithin_2 : decode cX2_fillWithin 2 = .ok (.iload_n 3, 1) := by decide +kernel
theorem dX2_fillWithin_3 : decode cX2_fillWithin 3 = .ok (.invokevirtual 43, 3) := by decide +kernel
theorem dX2_fillWithin_6 : decode cX2_fillWithin 6 = .ok (.istore 6, 2) := by decide +kernel
theorem dX2_fillWithin_8 : decode cX2_fillWithin 8 = .ok (.aload 4, 2) := by decide +kernel
theorem dX2_fillWithin_10 : decode cX2_fillWithin 10 = .ok (.getfield 15, 3) := by decide +kernel
theorem dX2_fillWithin_13 : decode cX2_fillWithin 13 = .ok (.iconst 0, 1) := by decide +kernel
theorem dX2_fillWithin_14 : decode cX2_fillWithin 14 = .ok (.iaload, 1) := by decide +kernel
theorem dX2_fillWithin_15 : decode cX2_fillWithin 15 = .ok (.istore 7, 2) := by decide +kernel
theorem dX2_fillWithin_17 : decode cX2_fillWithin 17 = .ok (.aload 4, 2) := by decide +kernel
theorem dX2_fillWithin_19 : decode cX2_fillWithin 19 = .ok (.getfield 15, 3) := by decide +kernel
theorem dX2_fillWithin_22 : decode cX2_fillWithin 22 = .ok (.iconst 1, 1) := by decide +kernel
theorem dX2_fillWithin_23 : decode cX2_fillWithin 23 = .ok (.iaload, 1) := by decide +kernel
theorem dX2_fillWithin_24 : decode cX2_fillWithin 24 = .ok (.istore 8, 2) := by decide +kernel
theorem dX2_fillWithin_26 : decode cX2_fillWithin 26 = .ok (.iconst 0, 1) := by decide +kernel
theorem dX2_fillWithin_27 : decode cX2_fillWithin 27 = .ok (.istore 9, 2) := by decide +kernel
theorem dX2_fillWithin_29 : decode cX2_fillWithin 29 = .ok (.iload 9, 2) := by decide +kernel
theorem dX2_fillWithin_31 : decode cX2_fillWithin 31 = .ok (.iload 7, 2) := by decide +kernel
theorem dX2_fillWithin_33 : decode cX2_fillWithin 33 = .ok (.if_icmp .ge 73, 3) := by decide +kernel
theorem dX2_fillWithin_36 : decode cX2_fillWithin 36 = .ok (.iconst 0, 1) := by decide +kernel
theorem dX2_fillWithin_37 : decode cX2_fillWithin 37 = .ok (.istore 10, 2) := by decide +kernel
theorem dX2_fillWithin_39 : decode cX2_fillWithin 39 = .ok (.iload 10, 2) := by decide +kernel
theorem dX2_fillWithin_41 : decode cX2_fillWithin 41 = .ok (.iload 8, 2) := by decide +kernel
theorem dX2_fillWithin_43 : decode cX2_fillWithin 43 = .ok (.if_icmp .ge 57, 3) := by decide +kernel
theorem dX2_fillWithin_46 : decode cX2_fillWithin 46 = .ok (.aload_n 0, 1) := by decide +kernel
theorem dX2_fillWithin_47 : decode cX2_fillWithin 47 = .ok (.getfield 9, 3) := by decide +kernel
theorem dX2_fillWithin_50 : decode cX2_fillWithin 50 = .ok (.iload 6, 2) := by decide +kernel
theorem dX2_fillWithin_52 : decode cX2_fillWithin 52 = .ok (.aload 4, 2) := by decide +kernel
theorem dX2_fillWithin_54 : decode cX2_fillWithin 54 = .ok (.iload 9, 2) := by decide +kernel
theorem dX2_fillWithin_56 : decode cX2_fillWithin 56 = .ok (.iload 10, 2) := by decide +kernel
theorem dX2_fillWithin_58 : decode cX2_fillWithin 58 = .ok (.invokevirtual 43, 3) := by decide +kernel
theorem dX2_fillWithin_61 : decode cX2_fillWithin 61 = .ok (.aload 4, 2) := by decide +kernel
theorem dX2_fillWithin_63 : decode cX2_fillWithin 63 = .ok (.getfield 15, 3) := by decide +kernel
theorem dX2_fillWithin_66 : decode cX2_fillWithin 66 = .ok (.iconst 2, 1) := by decide +kernel
theorem dX2_fillWithin_67 : decode cX2_fillWithin 67 = .ok (.iaload, 1) := by decide +kernel
theorem dX2_fillWithin_68 : decode cX2_fillWithin 68 = .ok (.invokevirtual 59, 3) := by decide +kernel
theorem dX2_fillWithin_71 : decode cX2_fillWithin 71 = .ok (.istore 11, 2) := by decide +kernel
theorem dX2_fillWithin_73 : decode cX2_fillWithin 73 = .ok (.aload 5, 2) := by decide +kernel
theorem dX2_fillWithin_75 : decode cX2_fillWithin 75 = .ok (.iload_n 2, 1) := by decide +kernel
theorem dX2_fillWithin_76 : decode cX2_fillWithin 76 = .ok (.iload 7, 2) := by decide +kernel
theorem dX2_fillWithin_78 : decode cX2_fillWithin 78 = .ok (.imul, 1) := by decide +kernel
theorem dX2_fillWithin_79 : decode cX2_fillWithin 79 = .ok (.iload 9, 2) := by decide +kernel
theorem dX2_fillWithin_81 : decode cX2_fillWithin 81 = .ok (.iadd, 1) := by decide +kernel
theorem dX2_fillWithin_82 : decode cX2_fillWithin 82 = .ok (.iload_n 3, 1) := by decide +kernel
theorem dX2_fillWithin_83 : decode cX2_fillWithin 83 = .ok (.iload 8, 2) := by decide +kernel
theorem dX2_fillWithin_85 : decode cX2_fillWithin 85 = .ok (.imul, 1) := by decide +kernel
theorem dX2_fillWithin_86 : decode cX2_fillWithin 86 = .ok (.iload 10, 2) := by decide +kernel
theorem dX2_fillWithin_88 : decode cX2_fillWithin 88 = .ok (.iadd, 1) := by decide +kernel
theorem dX2_fillWithin_89 : decode cX2_fillWithin 89 = .ok (.iload 11, 2) := by decide +kernel
theorem dX2_fillWithin_91 : decode cX2_fillWithin 91 = .ok (.invokevirtual 29, 3) := by decide +kernel
theorem dX2_fillWithin_94 : decode cX2_fillWithin 94 = .ok (.iinc 10 1, 3) := by decide +kernel
theorem dX2_fillWithin_97 : decode cX2_fillWithin 97 = .ok (.goto (-58), 3) := by decide +kernel
theorem dX2_fillWithin_100 : decode cX2_fillWithin 100 = .ok (.iinc 9 1, 3) := by decide +kernel
theorem dX2_fillWithin_103 : decode cX2_fillWithin 103 = .ok (.goto (-74), 3) := by decide +kernel
theorem dX2_fillWithin_106 : decode cX2_fillWithin 106 = .ok (.return_, 1) := by decide +kernel
theorem dX2_rowWithin_0 : decode cX2_rowWithin 0 = .ok (.aload_n 0, 1) := by decide +kernel
theorem dX2_rowWithin_1 : decode cX2_rowWithin 1 = .ok (.getfield 9, 3) := by decide +kernel
theorem dX2_rowWithin_4 : decode cX2_rowWithin 4 = .ok (.aload_n 1, 1) := by decide +kernel
theorem dX2_rowWithin_5 : decode cX2_rowWithin 5 = .ok (.iload 5, 2) := by decide +kernel
theorem dX2_rowWithin_7 : decode cX2_rowWithin 7 = .ok (.iload_n 2, 1) := by decide +kernel
theorem dX2_rowWithin_8 : decode cX2_rowWithin 8 = .ok (.invokevirtual 36, 3) := by decide +kernel
theorem dX2_rowWithin_11 : decode cX2_rowWithin 11 = .ok (.aload_n 3, 1) := by decide +kernel
theorem dX2_rowWithin_12 : decode cX2_rowWithin 12 = .ok (.iload 5, 2) := by decide +kernel
theorem dX2_rowWithin_14 : decode cX2_rowWithin 14 = .ok (.iload 4, 2) := by decide +kernel
theorem dX2_rowWithin_16 : decode cX2_rowWithin 16 = .ok (.invokevirtual 36, 3) := by decide +kernel
theorem dX2_rowWithin_19 : decode cX2_rowWithin 19 = .ok (.aload_n 3, 1) := by decide +kernel
theorem dX2_rowWithin_20 : decode cX2_rowWithin 20 = .ok (.getfield 15, 3) := by decide +kernel
theorem dX2_rowWithin_23 : decode cX2_rowWithin 23 = .ok (.iload 5, 2) := by decide +kernel
theorem dX2_rowWithin_25 : decode cX2_rowWithin 25 = .ok (.iaload, 1) := by decide +kernel
theorem dX2_rowWithin_26 : decode cX2_rowWithin 26 = .ok (.invokevirtual 59, 3) := by decide +kernel
theorem dX2_rowWithin_29 : decode cX2_rowWithin 29 = .ok (.ireturn, 1) := by decide +kernel
