theorem dX9_init_0 : decode cX9_init 0 = .ok (.aload_n 0, 1) := by decide +kernel
theorem dX9_init_1 : decode cX9_init 1 = .ok (.invokespecial 1, 3) := by decide +kernel
theorem dX9_init_4 : decode cX9_init 4 = .ok (.aload_n 0, 1) := by decide +kernel
theorem dX9_init_5 : decode cX9_init 5 = .ok (.iconst 2, 1) := by decide +kernel
theorem dX9_init_6 : decode cX9_init 6 = .ok (.putfield 7, 3) := by decide +kernel
theorem dX9_init_9 : decode cX9_init 9 = .ok (.aload_n 0, 1) := by decide +kernel
theorem dX9_init_10 : decode cX9_init 10 = .ok (.iconst 3, 1) := by decide +kernel
theorem dX9_init_11 : decode cX9_init 11 = .ok (.newarray .int, 2) := by decide +kernel
theorem dX9_init_13 : decode cX9_init 13 = .ok (.putfield 13, 3) := by decide +kernel
theorem dX9_init_16 : decode cX9_init 16 = .ok (.aload_n 0, 1) := by decide +kernel
theorem dX9_init_17 : decode cX9_init 17 = .ok (.sipush 729, 3) := by decide +kernel
theorem dX9_init_20 : decode cX9_init 20 = .ok (.newarray .int, 2) := by decide +kernel
theorem dX9_init_22 : decode cX9_init 22 = .ok (.putfield 17, 3) := by decide +kernel
theorem dX9_init_25 : decode cX9_init 25 = .ok (.aload_n 0, 1) := by decide +kernel
theorem dX9_init_26 : decode cX9_init 26 = .ok (.sipush 1080, 3) := by decide +kernel
theorem dX9_init_29 : decode cX9_init 29 = .ok (.newarray .int, 2) := by decide +kernel
theorem dX9_init_31 : decode cX9_init 31 = .ok (.putfield 20, 3) := by decide +kernel
theorem dX9_init_34 : decode cX9_init 34 = .ok (.aload_n 0, 1) := by decide +kernel
theorem dX9_init_35 : decode cX9_init 35 = .ok (.bipush 18, 2) := by decide +kernel
theorem dX9_init_37 : decode cX9_init 37 = .ok (.newarray .int, 2) := by decide +kernel
theorem dX9_init_39 : decode cX9_init 39 = .ok (.putfield 23, 3) := by decide +kernel
theorem dX9_init_42 : decode cX9_init 42 = .ok (.aload_n 0, 1) := by decide +kernel
theorem dX9_init_43 : decode cX9_init 43 = .ok (.iconst 4, 1) := by decide +kernel
theorem dX9_init_44 : decode cX9_init 44 = .ok (.newarray .boolean, 2) := by decide +kernel
theorem dX9_init_46 : decode cX9_init 46 = .ok (.putfield 26, 3) := by decide +kernel
theorem dX9_init_49 : decode cX9_init 49 = .ok (.aload_n 0, 1) := by decide +kernel
theorem dX9_init_50 : decode cX9_init 50 = .ok (.bipush 12, 2) := by decide +kernel
theorem dX9_init_52 : decode cX9_init 52 = .ok (.newarray .int, 2) := by decide +kernel
theorem dX9_init_54 : decode cX9_init 54 = .ok (.putfield 30, 3) := by decide +kernel
theorem dX9_init_57 : decode cX9_init 57 = .ok (.aload_n 0, 1) := by decide +kernel
theorem dX9_init_58 : decode cX9_init 58 = .ok (.sipush 2916, 3) := by decide +kernel
theorem dX9_init_61 : decode cX9_init 61 = .ok (.newarray .int, 2) := by decide +kernel
theorem dX9_init_63 : decode cX9_init 63 = .ok (.putfield 33, 3) := by decide +kernel
theorem dX9_init_66 : decode cX9_init 66 = .ok (.aload_n 0, 1) := by decide +kernel
theorem dX9_init_67 : decode cX9_init 67 = .ok (.sipush 4320, 3) := by decide +kernel
theorem dX9_init_70 : decode cX9_init 70 = .ok (.newarray .int, 2) := by decide +kernel
theorem dX9_init_72 : decode cX9_init 72 = .ok (.putfield 36, 3) := by decide +kernel
theorem dX9_init_75 : decode cX9_init 75 = .ok (.aload_n 0, 1) := by decide +kernel
theorem dX9_init_76 : decode cX9_init 76 = .ok (.iconst 4, 1) := by decide +kernel
theorem dX9_init_77 : decode cX9_init 77 = .ok (.newarray .int, 2) := by decide +kernel
theorem dX9_init_79 : decode cX9_init 79 = .ok (.putfield 39, 3) := by decide +kernel
theorem dX9_init_82 : decode cX9_init 82 = .ok (.aload_n 0, 1) := by decide +kernel
theorem dX9_init_83 : decode cX9_init 83 = .ok (.iconst 3, 1) := by decide +kernel
theorem dX9_init_84 : decode cX9_init 84 = .ok (.newarray .int, 2) := by decide +kernel
theorem dX9_init_86 : decode cX9_init 86 = .ok (.putfield 42, 3) := by decide +kernel
theorem dX9_init_89 : decode cX9_init 89 = .ok (.aload_n 0, 1) := by decide +kernel
theorem dX9_init_90 : decode cX9_init 90 = .ok (.sipush 729, 3) := by decide +kernel
theorem dX9_init_93 : decode cX9_init 93 = .ok (.newarray .int, 2) := by decide +kernel
theorem dX9_init_95 : decode cX9_init 95 = .ok (.putfield 45, 3) := by decide +kernel
theorem dX9_init_98 : decode cX9_init 98 = .ok (.aload_n 0, 1) := by decide +kernel
theorem dX9_init_99 : decode cX9_init 99 = .ok (.sipush 1080, 3) := by decide +kernel
theorem dX9_init_102 : decode cX9_init 102 = .ok (.newarray .int, 2) := by decide +kernel
theorem dX9_init_104 : decode cX9_init 104 = .ok (.putfield 48, 3) := by decide +kernel
theorem dX9_init_107 : decode cX9_init 107 = .ok (.aload_n 0, 1) := by decide +kernel
theorem dX9_init_108 : decode cX9_init 108 = .ok (.sipush 729, 3) := by decide +kernel
theorem dX9_init_111 : decode cX9_init 111 = .ok (.newarray .int, 2) := by decide +kernel
theorem dX9_init_113 : decode cX9_init 113 = .ok (.putfield 51, 3) := by decide +kernel
theorem dX9_init_116 : decode cX9_init 116 = .ok (.aload_n 0, 1) := by decide +kernel
theorem dX9_init_117 : decode cX9_init 117 = .ok (.bipush 60, 2) := by decide +kernel
theorem dX9_init_119 : decode cX9_init 119 = .ok (.newarray .int, 2) := by decide +kernel
theorem dX9_init_121 : decode cX9_init 121 = .ok (.putfield 54, 3) := by decide +kernel
theorem dX9_init_124 : decode cX9_init 124 = .ok (.aload_n 0, 1) := by decide +kernel
theorem dX9_init_125 : decode cX9_init 125 = .ok (.bipush 60, 2) := by decide +kernel
theorem dX9_init_127 : decode cX9_init 127 = .ok (.newarray .int, 2) := by decide +kernel
theorem dX9_init_129 : decode cX9_init 129 = .ok (.putfield 57, 3) := by decide +kernel
theorem dX9_init_132 : decode cX9_init 132 = .ok (.aload_n 0, 1) := by decide +kernel
theorem dX9_init_133 : decode cX9_init 133 = .ok (.iconst 4, 1) := by decide +kernel
theorem dX9_init_134 : decode cX9_init 134 = .ok (.newarray .int, 2) := by decide +kernel
theorem dX9_init_136 : decode cX9_init 136 = .ok (.putfield 60, 3) := by decide +kernel
theorem dX9_init_139 : decode cX9_init 139 = .ok (.aload_n 0, 1) := by decide +kernel
theorem dX9_init_140 : decode cX9_init 140 = .ok (.sipush 3645, 3) := by decide +kernel
theorem dX9_init_143 : decode cX9_init 143 = .ok (.newarray .int, 2) := by decide +kernel
theorem dX9_init_145 : decode cX9_init 145 = .ok (.putfield 63, 3) := by decide +kernel
theorem dX9_init_148 : decode cX9_init 148 = .ok (.aload_n 0, 1) := by decide +kernel
theorem dX9_init_149 : decode cX9_init 149 = .ok (.sipush 324, 3) := by decide +kernel
theorem dX9_init_152 : decode cX9_init 152 = .ok (.newarray .int, 2) := by decide +kernel
theorem dX9_init_154 : decode cX9_init 154 = .ok (.putfield 66, 3) := by decide +kernel
theorem dX9_init_157 : decode cX9_init 157 = .ok (.aload_n 0, 1) := by decide +kernel
theorem dX9_init_158 : decode cX9_init 158 = .ok (.iconst 4, 1) := by decide +kernel
theorem dX9_init_159 : decode cX9_init 159 = .ok (.newarray .int, 2) := by decide +kernel
theorem dX9_init_161 : decode cX9_init 161 = .ok (.putfield 69, 3) := by decide +kernel
theorem dX9_init_164 : decode cX9_init 164 = .ok (.aload_n 0, 1) := by decide +kernel
theorem dX9_init_165 : decode cX9_init 165 = .ok (.sipush 405, 3) := by decide +kernel
theorem dX9_init_168 : decode cX9_init 168 = .ok (.newarray .int, 2) := by decide +kernel
theorem dX9_init_170 : decode cX9_init 170 = .ok (.putfield 72, 3) := by decide +kernel
theorem dX9_init_173 : decode cX9_init 173 = .ok (.aload_n 0, 1) := by decide +kernel
theorem dX9_init_174 : decode cX9_init 174 = .ok (.iconst 4, 1) := by decide +kernel
theorem dX9_init_175 : decode cX9_init 175 = .ok (.newarray .int, 2) := by decide +kernel
theorem dX9_init_177 : decode cX9_init 177 = .ok (.putfield 75, 3) := by decide +kernel
theorem dX9_init_180 : decode cX9_init 180 = .ok (.aload_n 0, 1) := by decide +kernel
theorem dX9_init_181 : decode cX9_init 181 = .ok (.sipush 1960, 3) := by decide +kernel
theorem dX9_init_184 : decode cX9_init 184 = .ok (.newarray .int, 2) := by decide +kernel
theorem dX9_init_186 : decode cX9_init 186 = .ok (.putfield 78, 3) := by decide +kernel
theorem dX9_init_189 : decode cX9_init 189 = .ok (.aload_n 0, 1) := by decide +kernel
theorem dX9_init_190 : decode cX9_init 190 = .ok (.iconst 1, 1) := by decide +kernel
theorem dX9_init_191 : decode cX9_init 191 = .ok (.iconst 1, 1) := by decide +kernel
theorem dX9_init_192 : decode cX9_init 192 = .ok (.iconst 1, 1) := by decide +kernel
theorem dX9_init_193 : decode cX9_init 193 = .ok (.invokevirtual 81, 3) := by decide +kernel
theorem dX9_init_196 : decode cX9_init 196 = .ok (.return_, 1) := by decide +kernel
theorem dX9_in_0 : decode cX9_in 0 = .ok (.lload_n 0, 1) := by decide +kernel
theorem dX9_in_1 : decode cX9_in 1 = .ok (.lload_n 2, 1) := by decide +kernel
theorem dX9_in_2 : decode cX9_in 2 = .ok (.lcmp, 1) := by decide +kernel
theorem dX9_in_3 : decode cX9_in 3 = .ok (.ifCond .lt 14, 3) := by decide +kernel
theorem dX9_in_6 : decode cX9_in 6 = .ok (.lload_n 0, 1) := by decide +kernel
theorem dX9_in_7 : decode cX9_in 7 = .ok (.lload 4, 2) := by decide +kernel
theorem dX9_in_9 : decode cX9_in 9 = .ok (.lcmp, 1) := by decide +kernel
theorem dX9_in_10 : decode cX9_in 10 = .ok (.ifCond .gt 7, 3) := by decide +kernel
theorem dX9_in_13 : decode cX9_in 13 = .ok (.iconst 1, 1) := by decide +kernel
theorem dX9_in_14 : decode cX9_in 14 = .ok (.goto 4, 3) := by decide +kernel
theorem dX9_in_17 : decode cX9_in 17 = .ok (.iconst 0, 1) := by decide +kernel
theorem dX9_in_18 : decode cX9_in 18 = .ok (.ireturn, 1) := by decide +kernel
theorem dX9_fresh_0 : decode cX9_fresh 0 = .ok (.aload_n 0, 1) := by decide +kernel
theorem dX9_fresh_1 : decode cX9_fresh 1 = .ok (.getfield 13, 3) := by decide +kernel
theorem dX9_fresh_4 : decode cX9_fresh 4 = .ok (.iconst 0, 1) := by decide +kernel
theorem dX9_fresh_5 : decode cX9_fresh 5 = .ok (.iload_n 1, 1) := by decide +kernel
theorem dX9_fresh_6 : decode cX9_fresh 6 = .ok (.iastore, 1) := by decide +kernel
theorem dX9_fresh_7 : decode cX9_fresh 7 = .ok (.aload_n 0, 1) := by decide +kernel
theorem dX9_fresh_8 : decode cX9_fresh 8 = .ok (.getfield 13, 3) := by decide +kernel
theorem dX9_fresh_11 : decode cX9_fresh 11 = .ok (.iconst 1, 1) := by decide +kernel
theorem dX9_fresh_12 : decode cX9_fresh 12 = .ok (.iload_n 2, 1) := by decide +kernel
theorem dX9_fresh_13 : decode cX9_fresh 13 = .ok (.iastore, 1) := by decide +kernel
theorem dX9_fresh_14 : decode cX9_fresh 14 = .ok (.aload_n 0, 1) := by decide +kernel
theorem dX9_fresh_15 : decode cX9_fresh 15 = .ok (.getfield 13, 3) := by decide +kernel
theorem dX9_fresh_18 : decode cX9_fresh 18 = .ok (.iconst 2, 1) := by decide +kernel
theorem dX9_fresh_19 : decode cX9_fresh 19 = .ok (.iload_n 3, 1) := by decide +kernel
theorem dX9_fresh_20 : decode cX9_fresh 20 = .ok (.iastore, 1) := by decide +kernel
theorem dX9_fresh_21 : decode cX9_fresh 21 = .ok (.iconst 0, 1) := by decide +kernel
theorem dX9_fresh_22 : decode cX9_fresh 22 = .ok (.istore 4, 2) := by decide +kernel
theorem dX9_fresh_24 : decode cX9_fresh 24 = .ok (.iload 4, 2) := by decide +kernel
theorem dX9_fresh_26 : decode cX9_fresh 26 = .ok (.sipush 729, 3) := by decide +kernel
theorem dX9_fresh_29 : decode cX9_fresh 29 = .ok (.if_icmp .ge 17, 3) := by decide +kernel
theorem dX9_fresh_32 : decode cX9_fresh 32 = .ok (.aload_n 0, 1) := by decide +kernel
theorem dX9_fresh_33 : decode cX9_fresh 33 = .ok (.getfield 17, 3) := by decide +kernel
theorem dX9_fresh_36 : decode cX9_fresh 36 = .ok (.iload 4, 2) := by decide +kernel
theorem dX9_fresh_38 : decode cX9_fresh 38 = .ok (.iconst 0, 1) := by decide +kernel
theorem dX9_fresh_39 : decode cX9_fresh 39 = .ok (.iastore, 1) := by decide +kernel
theorem dX9_fresh_40 : decode cX9_fresh 40 = .ok (.iinc 4 1, 3) := by decide +kernel
theorem dX9_fresh_43 : decode cX9_fresh 43 = .ok (.goto (-19), 3) := by decide +kernel
theorem dX9_fresh_46 : decode cX9_fresh 46 = .ok (.aload_n 0, 1) := by decide +kernel
theorem dX9_fresh_47 : decode cX9_fresh 47 = .ok (.iconst 0, 1) := by decide +kernel
theorem dX9_fresh_48 : decode cX9_fresh 48 = .ok (.putfield 85, 3) := by decide +kernel
theorem dX9_fresh_51 : decode cX9_fresh 51 = .ok (.aload_n 0, 1) := by decide +kernel
theorem dX9_fresh_52 : decode cX9_fresh 52 = .ok (.invokevirtual 88, 3) := by decide +kernel
theorem dX9_fresh_55 : decode cX9_fresh 55 = .ok (.aload_n 0, 1) := by decide +kernel
theorem dX9_fresh_56 : decode cX9_fresh 56 = .ok (.iconst 0, 1) := by decide +kernel
theorem dX9_fresh_57 : decode cX9_fresh 57 = .ok (.putfield 91, 3) := by decide +kernel
theorem dX9_fresh_60 : decode cX9_fresh 60 = .ok (.return_, 1) := by decide +kernel
theorem dX9_emptyHand_0 : decode cX9_emptyHand 0 = .ok (.iconst 0, 1) := by decide +kernel
theorem dX9_emptyHand_1 : decode cX9_emptyHand 1 = .ok (.istore_n 1, 1) := by decide +kernel
theorem dX9_emptyHand_2 : decode cX9_emptyHand 2 = .ok (.iload_n 1, 1) := by decide +kernel
theorem dX9_emptyHand_3 : decode cX9_emptyHand 3 = .ok (.bipush 18, 2) := by decide +kernel
theorem dX9_emptyHand_5 : decode cX9_emptyHand 5 = .ok (.if_icmp .ge 16, 3) := by decide +kernel
theorem dX9_emptyHand_8 : decode cX9_emptyHand 8 = .ok (.aload_n 0, 1) := by decide +kernel
theorem dX9_emptyHand_9 : decode cX9_emptyHand 9 = .ok (.getfield 23, 3) := by decide +kernel
theorem dX9_emptyHand_12 : decode cX9_emptyHand 12 = .ok (.iload_n 1, 1) := by decide +kernel
theorem dX9_emptyHand_13 : decode cX9_emptyHand 13 = .ok (.iconst 0, 1) := by decide +kernel
theorem dX9_emptyHand_14 : decode cX9_emptyHand 14 = .ok (.iastore, 1) := by decide +kernel
theorem dX9_emptyHand_15 : decode cX9_emptyHand 15 = .ok (.iinc 1 1, 3) := by decide +kernel
theorem dX9_emptyHand_18 : decode cX9_emptyHand 18 = .ok (.goto (-16), 3) := by decide +kernel
theorem dX9_emptyHand_21 : decode cX9_emptyHand 21 = .ok (.return_, 1) := by decide +kernel
theorem dX9_inverse_0 : decode cX9_inverse 0 = .ok (.iconst 1, 1) := by decide +kernel
theorem dX9_inverse_1 : decode cX9_inverse 1 = .ok (.istore_n 2, 1) := by decide +kernel
theorem dX9_inverse_2 : decode cX9_inverse 2 = .ok (.iload_n 1, 1) := by decide +kernel
theorem dX9_inverse_3 : decode cX9_inverse 3 = .ok (.iload_n 2, 1) := by decide +kernel
theorem dX9_inverse_4 : decode cX9_inverse 4 = .ok (.imul, 1) := by decide +kernel
theorem dX9_inverse_5 : decode cX9_inverse 5 = .ok (.aload_n 0, 1) := by decide +kernel
theorem dX9_inverse_6 : decode cX9_inverse 6 = .ok (.getfield 7, 3) := by decide +kernel
theorem dX9_inverse_9 : decode cX9_inverse 9 = .ok (.irem, 1) := by decide +kernel
theorem dX9_inverse_10 : decode cX9_inverse 10 = .ok (.iconst 1, 1) := by decide +kernel
theorem dX9_inverse_11 : decode cX9_inverse 11 = .ok (.if_icmp .eq 9, 3) := by decide +kernel
theorem dX9_inverse_14 : decode cX9_inverse 14 = .ok (.iinc 2 1, 3) := by decide +kernel
theorem dX9_inverse_17 : decode cX9_inverse 17 = .ok (.goto (-15), 3) := by decide +kernel
theorem dX9_inverse_20 : decode cX9_inverse 20 = .ok (.iload_n 2, 1) := by decide +kernel
theorem dX9_inverse_21 : decode cX9_inverse 21 = .ok (.ireturn, 1) := by decide +kernel
theorem dX9_ground_0 : decode cX9_ground 0 = .ok (.iload_n 1, 1) := by decide +kernel
theorem dX9_ground_1 : decode cX9_ground 1 = .ok (.iconst 2, 1) := by decide +kernel
theorem dX9_ground_2 : decode cX9_ground 2 = .ok (.if_icmp .eq 21, 3) := by decide +kernel
theorem dX9_ground_5 : decode cX9_ground 5 = .ok (.iload_n 1, 1) := by decide +kernel
theorem dX9_ground_6 : decode cX9_ground 6 = .ok (.iconst 3, 1) := by decide +kernel
theorem dX9_ground_7 : decode cX9_ground 7 = .ok (.if_icmp .eq 16, 3) := by decide +kernel
theorem dX9_ground_10 : decode cX9_ground 10 = .ok (.iload_n 1, 1) := by decide +kernel
theorem dX9_ground_11 : decode cX9_ground 11 = .ok (.iconst 5, 1) := by decide +kernel
theorem dX9_ground_12 : decode cX9_ground 12 = .ok (.if_icmp .eq 11, 3) := by decide +kernel
theorem dX9_ground_15 : decode cX9_ground 15 = .ok (.iload_n 1, 1) := by decide +kernel
theorem dX9_ground_16 : decode cX9_ground 16 = .ok (.bipush 7, 2) := by decide +kernel
theorem dX9_ground_18 : decode cX9_ground 18 = .ok (.if_icmp .eq 5, 3) := by decide +kernel
theorem dX9_ground_21 : decode cX9_ground 21 = .ok (.iconst (-1), 1) := by decide +kernel
theorem dX9_ground_22 : decode cX9_ground 22 = .ok (.ireturn, 1) := by decide +kernel
theorem dX9_ground_23 : decode cX9_ground 23 = .ok (.aload_n 0, 1) := by decide +kernel
theorem dX9_ground_24 : decode cX9_ground 24 = .ok (.iload_n 1, 1) := by decide +kernel
theorem dX9_ground_25 : decode cX9_ground 25 = .ok (.putfield 7, 3) := by decide +kernel
theorem dX9_ground_28 : decode cX9_ground 28 = .ok (.aload_n 0, 1) := by decide +kernel
theorem dX9_ground_29 : decode cX9_ground 29 = .ok (.iconst 1, 1) := by decide +kernel
theorem dX9_ground_30 : decode cX9_ground 30 = .ok (.iconst 1, 1) := by decide +kernel
theorem dX9_ground_31 : decode cX9_ground 31 = .ok (.iconst 1, 1) := by decide +kernel
theorem dX9_ground_32 : decode cX9_ground 32 = .ok (.invokevirtual 81, 3) := by decide +kernel
theorem dX9_ground_35 : decode cX9_ground 35 = .ok (.iconst 0, 1) := by decide +kernel
theorem dX9_ground_36 : decode cX9_ground 36 = .ok (.istore_n 2, 1) := by decide +kernel
theorem dX9_ground_37 : decode cX9_ground 37 = .ok (.iload_n 2, 1) := by decide +kernel
theorem dX9_ground_38 : decode cX9_ground 38 = .ok (.iconst 4, 1) := by decide +kernel
theorem dX9_ground_39 : decode cX9_ground 39 = .ok (.if_icmp .ge 16, 3) := by decide +kernel
theorem dX9_ground_42 : decode cX9_ground 42 = .ok (.aload_n 0, 1) := by decide +kernel
theorem dX9_ground_43 : decode cX9_ground 43 = .ok (.getfield 26, 3) := by decide +kernel
theorem dX9_ground_46 : decode cX9_ground 46 = .ok (.iload_n 2, 1) := by decide +kernel
theorem dX9_ground_47 : decode cX9_ground 47 = .ok (.iconst 0, 1) := by decide +kernel
theorem dX9_ground_48 : decode cX9_ground 48 = .ok (.bastore, 1) := by decide +kernel
theorem dX9_ground_49 : decode cX9_ground 49 = .ok (.iinc 2 1, 3) := by decide +kernel
theorem dX9_ground_52 : decode cX9_ground 52 = .ok (.goto (-15), 3) := by decide +kernel
theorem dX9_ground_55 : decode cX9_ground 55 = .ok (.iconst 1, 1) := by decide +kernel
theorem dX9_ground_56 : decode cX9_ground 56 = .ok (.ireturn, 1) := by decide +kernel
theorem dX9_areSizes_0 : decode cX9_areSizes 0 = .ok (.iload_n 0, 1) := by decide +kernel
theorem dX9_areSizes_1 : decode cX9_areSizes 1 = .ok (.i2l, 1) := by decide +kernel
theorem dX9_areSizes_2 : decode cX9_areSizes 2 = .ok (.lconst 1, 1) := by decide +kernel
theorem dX9_areSizes_3 : decode cX9_areSizes 3 = .ok (.ldc2_w 95, 3) := by decide +kernel
theorem dX9_areSizes_6 : decode cX9_areSizes 6 = .ok (.invokestatic 97, 3) := by decide +kernel
theorem dX9_areSizes_9 : decode cX9_areSizes 9 = .ok (.ifCond .eq 31, 3) := by decide +kernel
theorem dX9_areSizes_12 : decode cX9_areSizes 12 = .ok (.iload_n 1, 1) := by decide +kernel
theorem dX9_areSizes_13 : decode cX9_areSizes 13 = .ok (.i2l, 1) := by decide +kernel
theorem dX9_areSizes_14 : decode cX9_areSizes 14 = .ok (.lconst 1, 1) := by decide +kernel
theorem dX9_areSizes_15 : decode cX9_areSizes 15 = .ok (.ldc2_w 95, 3) := by decide +kernel
theorem dX9_areSizes_18 : decode cX9_areSizes 18 = .ok (.invokestatic 97, 3) := by decide +kernel
theorem dX9_areSizes_21 : decode cX9_areSizes 21 = .ok (.ifCond .eq 19, 3) := by decide +kernel
theorem dX9_areSizes_24 : decode cX9_areSizes 24 = .ok (.iload_n 2, 1) := by decide +kernel
theorem dX9_areSizes_25 : decode cX9_areSizes 25 = .ok (.i2l, 1) := by decide +kernel
theorem dX9_areSizes_26 : decode cX9_areSizes 26 = .ok (.lconst 1, 1) := by decide +kernel
theorem dX9_areSizes_27 : decode cX9_areSizes 27 = .ok (.ldc2_w 95, 3) := by decide +kernel
theorem dX9_areSizes_30 : decode cX9_areSizes 30 = .ok (.invokestatic 97, 3) := by decide +kernel
theorem dX9_areSizes_33 : decode cX9_areSizes 33 = .ok (.ifCond .eq 7, 3) := by decide +kernel
theorem dX9_areSizes_36 : decode cX9_areSizes 36 = .ok (.iconst 1, 1) := by decide +kernel
theorem dX9_areSizes_37 : decode cX9_areSizes 37 = .ok (.goto 4, 3) := by decide +kernel
theorem dX9_areSizes_40 : decode cX9_areSizes 40 = .ok (.iconst 0, 1) := by decide +kernel
theorem dX9_areSizes_41 : decode cX9_areSizes 41 = .ok (.ireturn, 1) := by decide +kernel
theorem dX9_box_0 : decode cX9_box 0 = .ok (.iload_n 1, 1) := by decide +kernel
theorem dX9_box_1 : decode cX9_box 1 = .ok (.iload_n 2, 1) := by decide +kernel
theorem dX9_box_2 : decode cX9_box 2 = .ok (.iload_n 3, 1) := by decide +kernel
theorem dX9_box_3 : decode cX9_box 3 = .ok (.invokestatic 101, 3) := by decide +kernel
theorem dX9_box_6 : decode cX9_box 6 = .ok (.ifCond .ne 5, 3) := by decide +kernel
theorem dX9_box_9 : decode cX9_box 9 = .ok (.iconst (-1), 1) := by decide +kernel
theorem dX9_box_10 : decode cX9_box 10 = .ok (.ireturn, 1) := by decide +kernel
theorem dX9_box_11 : decode cX9_box 11 = .ok (.aload_n 0, 1) := by decide +kernel
theorem dX9_box_12 : decode cX9_box 12 = .ok (.iload_n 1, 1) := by decide +kernel
theorem dX9_box_13 : decode cX9_box 13 = .ok (.iload_n 2, 1) := by decide +kernel
theorem dX9_box_14 : decode cX9_box 14 = .ok (.iload_n 3, 1) := by decide +kernel
theorem dX9_box_15 : decode cX9_box 15 = .ok (.invokevirtual 81, 3) := by decide +kernel
theorem dX9_box_18 : decode cX9_box 18 = .ok (.iconst 1, 1) := by decide +kernel
theorem dX9_box_19 : decode cX9_box 19 = .ok (.ireturn, 1) := by decide +kernel
theorem dX9_tables_0 : decode cX9_tables 0 = .ok (.iload_n 1, 1) := by decide +kernel
theorem dX9_tables_1 : decode cX9_tables 1 = .ok (.iload_n 2, 1) := by decide +kernel
theorem dX9_tables_2 : decode cX9_tables 2 = .ok (.iload_n 3, 1) := by decide +kernel
theorem dX9_tables_3 : decode cX9_tables 3 = .ok (.invokestatic 101, 3) := by decide +kernel
theorem dX9_tables_6 : decode cX9_tables 6 = .ok (.ifCond .ne 5, 3) := by decide +kernel
theorem dX9_tables_9 : decode cX9_tables 9 = .ok (.iconst (-1), 1) := by decide +kernel
theorem dX9_tables_10 : decode cX9_tables 10 = .ok (.ireturn, 1) := by decide +kernel
theorem dX9_tables_11 : decode cX9_tables 11 = .ok (.iload_n 1, 1) := by decide +kernel
theorem dX9_tables_12 : decode cX9_tables 12 = .ok (.iload_n 2, 1) := by decide +kernel
theorem dX9_tables_13 : decode cX9_tables 13 = .ok (.imul, 1) := by decide +kernel
theorem dX9_tables_14 : decode cX9_tables 14 = .ok (.iload_n 2, 1) := by decide +kernel
theorem dX9_tables_15 : decode cX9_tables 15 = .ok (.iload_n 3, 1) := by decide +kernel
theorem dX9_tables_16 : decode cX9_tables 16 = .ok (.imul, 1) := by decide +kernel
theorem dX9_tables_17 : decode cX9_tables 17 = .ok (.iload_n 1, 1) := by decide +kernel
theorem dX9_tables_18 : decode cX9_tables 18 = .ok (.iload_n 3, 1) := by decide +kernel
theorem dX9_tables_19 : decode cX9_tables 19 = .ok (.imul, 1) := by decide +kernel
theorem dX9_tables_20 : decode cX9_tables 20 = .ok (.invokestatic 101, 3) := by decide +kernel
theorem dX9_tables_23 : decode cX9_tables 23 = .ok (.ifCond .ne 6, 3) := by decide +kernel
theorem dX9_tables_26 : decode cX9_tables 26 = .ok (.bipush (-3), 2) := by decide +kernel
theorem dX9_tables_28 : decode cX9_tables 28 = .ok (.ireturn, 1) := by decide +kernel
theorem dX9_tables_29 : decode cX9_tables 29 = .ok (.aload_n 0, 1) := by decide +kernel
theorem dX9_tables_30 : decode cX9_tables 30 = .ok (.iload_n 1, 1) := by decide +kernel
theorem dX9_tables_31 : decode cX9_tables 31 = .ok (.iload_n 2, 1) := by decide +kernel
theorem dX9_tables_32 : decode cX9_tables 32 = .ok (.imul, 1) := by decide +kernel
theorem dX9_tables_33 : decode cX9_tables 33 = .ok (.iload_n 2, 1) := by decide +kernel
theorem dX9_tables_34 : decode cX9_tables 34 = .ok (.iload_n 3, 1) := by decide +kernel
theorem dX9_tables_35 : decode cX9_tables 35 = .ok (.imul, 1) := by decide +kernel
theorem dX9_tables_36 : decode cX9_tables 36 = .ok (.iload_n 1, 1) := by decide +kernel
theorem dX9_tables_37 : decode cX9_tables 37 = .ok (.iload_n 3, 1) := by decide +kernel
theorem dX9_tables_38 : decode cX9_tables 38 = .ok (.imul, 1) := by decide +kernel
theorem dX9_tables_39 : decode cX9_tables 39 = .ok (.invokevirtual 81, 3) := by decide +kernel
theorem dX9_tables_42 : decode cX9_tables 42 = .ok (.iconst 0, 1) := by decide +kernel
theorem dX9_tables_43 : decode cX9_tables 43 = .ok (.istore 4, 2) := by decide +kernel
theorem dX9_tables_45 : decode cX9_tables 45 = .ok (.iload 4, 2) := by decide +kernel
theorem dX9_tables_47 : decode cX9_tables 47 = .ok (.iload_n 1, 1) := by decide +kernel
theorem dX9_tables_48 : decode cX9_tables 48 = .ok (.if_icmp .ge 74, 3) := by decide +kernel
theorem dX9_tables_51 : decode cX9_tables 51 = .ok (.iconst 0, 1) := by decide +kernel
theorem dX9_tables_52 : decode cX9_tables 52 = .ok (.istore 5, 2) := by decide +kernel
theorem dX9_tables_54 : decode cX9_tables 54 = .ok (.iload 5, 2) := by decide +kernel
theorem dX9_tables_56 : decode cX9_tables 56 = .ok (.iload_n 2, 1) := by decide +kernel
theorem dX9_tables_57 : decode cX9_tables 57 = .ok (.if_icmp .ge 59, 3) := by decide +kernel
theorem dX9_tables_60 : decode cX9_tables 60 = .ok (.iconst 0, 1) := by decide +kernel
theorem dX9_tables_61 : decode cX9_tables 61 = .ok (.istore 6, 2) := by decide +kernel
theorem dX9_tables_63 : decode cX9_tables 63 = .ok (.iload 6, 2) := by decide +kernel
theorem dX9_tables_65 : decode cX9_tables 65 = .ok (.iload_n 3, 1) := by decide +kernel
theorem dX9_tables_66 : decode cX9_tables 66 = .ok (.if_icmp .ge 44, 3) := by decide +kernel
theorem dX9_tables_69 : decode cX9_tables 69 = .ok (.aload_n 0, 1) := by decide +kernel
theorem dX9_tables_70 : decode cX9_tables 70 = .ok (.getfield 17, 3) := by decide +kernel
theorem dX9_tables_73 : decode cX9_tables 73 = .ok (.bipush 81, 2) := by decide +kernel
theorem dX9_tables_75 : decode cX9_tables 75 = .ok (.iload_n 2, 1) := by decide +kernel
theorem dX9_tables_76 : decode cX9_tables 76 = .ok (.iload 4, 2) := by decide +kernel
theorem dX9_tables_78 : decode cX9_tables 78 = .ok (.imul, 1) := by decide +kernel
theorem dX9_tables_79 : decode cX9_tables 79 = .ok (.iload 5, 2) := by decide +kernel
theorem dX9_tables_81 : decode cX9_tables 81 = .ok (.iadd, 1) := by decide +kernel
theorem dX9_tables_82 : decode cX9_tables 82 = .ok (.imul, 1) := by decide +kernel
theorem dX9_tables_83 : decode cX9_tables 83 = .ok (.bipush 9, 2) := by decide +kernel
theorem dX9_tables_85 : decode cX9_tables 85 = .ok (.iload_n 3, 1) := by decide +kernel
theorem dX9_tables_86 : decode cX9_tables 86 = .ok (.iload 5, 2) := by decide +kernel
theorem dX9_tables_88 : decode cX9_tables 88 = .ok (.imul, 1) := by decide +kernel
theorem dX9_tables_89 : decode cX9_tables 89 = .ok (.iload 6, 2) := by decide +kernel
theorem dX9_tables_91 : decode cX9_tables 91 = .ok (.iadd, 1) := by decide +kernel
theorem dX9_tables_92 : decode cX9_tables 92 = .ok (.imul, 1) := by decide +kernel
theorem dX9_tables_93 : decode cX9_tables 93 = .ok (.iadd, 1) := by decide +kernel
theorem dX9_tables_94 : decode cX9_tables 94 = .ok (.iload_n 3, 1) := by decide +kernel
theorem dX9_tables_95 : decode cX9_tables 95 = .ok (.iload 4, 2) := by decide +kernel
theorem dX9_tables_97 : decode cX9_tables 97 = .ok (.imul, 1) := by decide +kernel
theorem dX9_tables_98 : decode cX9_tables 98 = .ok (.iadd, 1) := by decide +kernel
theorem dX9_tables_99 : decode cX9_tables 99 = .ok (.iload 6, 2) := by decide +kernel
theorem dX9_tables_101 : decode cX9_tables 101 = .ok (.iadd, 1) := by decide +kernel
theorem dX9_tables_102 : decode cX9_tables 102 = .ok (.iconst 1, 1) := by decide +kernel
theorem dX9_tables_103 : decode cX9_tables 103 = .ok (.iastore, 1) := by decide +kernel
theorem dX9_tables_104 : decode cX9_tables 104 = .ok (.iinc 6 1, 3) := by decide +kernel
theorem dX9_tables_107 : decode cX9_tables 107 = .ok (.goto (-44), 3) := by decide +kernel
theorem dX9_tables_110 : decode cX9_tables 110 = .ok (.iinc 5 1, 3) := by decide +kernel
theorem dX9_tables_113 : decode cX9_tables 113 = .ok (.goto (-59), 3) := by decide +kernel
theorem dX9_tables_116 : decode cX9_tables 116 = .ok (.iinc 4 1, 3) := by decide +kernel
theorem dX9_tables_119 : decode cX9_tables 119 = .ok (.goto (-74), 3) := by decide +kernel
theorem dX9_tables_122 : decode cX9_tables 122 = .ok (.iconst 1, 1) := by decide +kernel
theorem dX9_tables_123 : decode cX9_tables 123 = .ok (.ireturn, 1) := by decide +kernel
theorem dX9_rows_0 : decode cX9_rows 0 = .ok (.iload_n 1, 1) := by decide +kernel
theorem dX9_rows_1 : decode cX9_rows 1 = .ok (.i2l, 1) := by decide +kernel
theorem dX9_rows_2 : decode cX9_rows 2 = .ok (.lconst 1, 1) := by decide +kernel
theorem dX9_rows_3 : decode cX9_rows 3 = .ok (.ldc2_w 95, 3) := by decide +kernel
theorem dX9_rows_6 : decode cX9_rows 6 = .ok (.invokestatic 97, 3) := by decide +kernel
theorem dX9_rows_9 : decode cX9_rows 9 = .ok (.ifCond .eq 27, 3) := by decide +kernel
theorem dX9_rows_12 : decode cX9_rows 12 = .ok (.iload_n 2, 1) := by decide +kernel
theorem dX9_rows_13 : decode cX9_rows 13 = .ok (.i2l, 1) := by decide +kernel
theorem dX9_rows_14 : decode cX9_rows 14 = .ok (.lconst 1, 1) := by decide +kernel
theorem dX9_rows_15 : decode cX9_rows 15 = .ok (.ldc2_w 95, 3) := by decide +kernel
theorem dX9_rows_18 : decode cX9_rows 18 = .ok (.invokestatic 97, 3) := by decide +kernel
theorem dX9_rows_21 : decode cX9_rows 21 = .ok (.ifCond .eq 15, 3) := by decide +kernel
theorem dX9_rows_24 : decode cX9_rows 24 = .ok (.iload_n 3, 1) := by decide +kernel
theorem dX9_rows_25 : decode cX9_rows 25 = .ok (.i2l, 1) := by decide +kernel
theorem dX9_rows_26 : decode cX9_rows 26 = .ok (.lconst 0, 1) := by decide +kernel
theorem dX9_rows_27 : decode cX9_rows 27 = .ok (.ldc2_w 95, 3) := by decide +kernel
theorem dX9_rows_30 : decode cX9_rows 30 = .ok (.invokestatic 97, 3) := by decide +kernel
theorem dX9_rows_33 : decode cX9_rows 33 = .ok (.ifCond .ne 5, 3) := by decide +kernel
theorem dX9_rows_36 : decode cX9_rows 36 = .ok (.iconst (-1), 1) := by decide +kernel
theorem dX9_rows_37 : decode cX9_rows 37 = .ok (.ireturn, 1) := by decide +kernel
theorem dX9_rows_38 : decode cX9_rows 38 = .ok (.iload_n 3, 1) := by decide +kernel
theorem dX9_rows_39 : decode cX9_rows 39 = .ok (.ifCond .ne 11, 3) := by decide +kernel
theorem dX9_rows_42 : decode cX9_rows 42 = .ok (.iload_n 1, 1) := by decide +kernel
theorem dX9_rows_43 : decode cX9_rows 43 = .ok (.iload_n 2, 1) := by decide +kernel
theorem dX9_rows_44 : decode cX9_rows 44 = .ok (.iadd, 1) := by decide +kernel
theorem dX9_rows_45 : decode cX9_rows 45 = .ok (.iconst 1, 1) := by decide +kernel
theorem dX9_rows_46 : decode cX9_rows 46 = .ok (.isub, 1) := by decide +kernel
theorem dX9_rows_47 : decode cX9_rows 47 = .ok (.goto 4, 3) := by decide +kernel
theorem dX9_rows_50 : decode cX9_rows 50 = .ok (.iload_n 3, 1) := by decide +kernel
theorem dX9_rows_51 : decode cX9_rows 51 = .ok (.istore 4, 2) := by decide +kernel
theorem dX9_rows_53 : decode cX9_rows 53 = .ok (.iload 4, 2) := by decide +kernel
theorem dX9_rows_55 : decode cX9_rows 55 = .ok (.bipush 9, 2) := by decide +kernel
theorem dX9_rows_57 : decode cX9_rows 57 = .ok (.if_icmp .le 6, 3) := by decide +kernel
theorem dX9_rows_60 : decode cX9_rows 60 = .ok (.bipush (-3), 2) := by decide +kernel
theorem dX9_rows_62 : decode cX9_rows 62 = .ok (.ireturn, 1) := by decide +kernel
theorem dX9_rows_63 : decode cX9_rows 63 = .ok (.aload_n 0, 1) := by decide +kernel
theorem dX9_rows_64 : decode cX9_rows 64 = .ok (.iload_n 1, 1) := by decide +kernel
theorem dX9_rows_65 : decode cX9_rows 65 = .ok (.iload_n 2, 1) := by decide +kernel
theorem dX9_rows_66 : decode cX9_rows 66 = .ok (.iload 4, 2) := by decide +kernel
theorem dX9_rows_68 : decode cX9_rows 68 = .ok (.invokevirtual 81, 3) := by decide +kernel
theorem dX9_rows_71 : decode cX9_rows 71 = .ok (.iconst 0, 1) := by decide +kernel
theorem dX9_rows_72 : decode cX9_rows 72 = .ok (.istore 5, 2) := by decide +kernel
theorem dX9_rows_74 : decode cX9_rows 74 = .ok (.iload 5, 2) := by decide +kernel
theorem dX9_rows_76 : decode cX9_rows 76 = .ok (.iload_n 1, 1) := by decide +kernel
theorem dX9_rows_77 : decode cX9_rows 77 = .ok (.if_icmp .ge 50, 3) := by decide +kernel
theorem dX9_rows_80 : decode cX9_rows 80 = .ok (.iconst 0, 1) := by decide +kernel
theorem dX9_rows_81 : decode cX9_rows 81 = .ok (.istore 6, 2) := by decide +kernel
theorem dX9_rows_83 : decode cX9_rows 83 = .ok (.iload 6, 2) := by decide +kernel
theorem dX9_rows_85 : decode cX9_rows 85 = .ok (.iload_n 2, 1) := by decide +kernel
theorem dX9_rows_86 : decode cX9_rows 86 = .ok (.if_icmp .ge 35, 3) := by decide +kernel
theorem dX9_rows_89 : decode cX9_rows 89 = .ok (.aload_n 0, 1) := by decide +kernel
theorem dX9_rows_90 : decode cX9_rows 90 = .ok (.getfield 17, 3) := by decide +kernel
theorem dX9_rows_93 : decode cX9_rows 93 = .ok (.bipush 81, 2) := by decide +kernel
theorem dX9_rows_95 : decode cX9_rows 95 = .ok (.iload 5, 2) := by decide +kernel
theorem dX9_rows_97 : decode cX9_rows 97 = .ok (.imul, 1) := by decide +kernel
theorem dX9_rows_98 : decode cX9_rows 98 = .ok (.bipush 9, 2) := by decide +kernel
theorem dX9_rows_100 : decode cX9_rows 100 = .ok (.iload 6, 2) := by decide +kernel
theorem dX9_rows_102 : decode cX9_rows 102 = .ok (.imul, 1) := by decide +kernel
theorem dX9_rows_103 : decode cX9_rows 103 = .ok (.iadd, 1) := by decide +kernel
theorem dX9_rows_104 : decode cX9_rows 104 = .ok (.iload 5, 2) := by decide +kernel
theorem dX9_rows_106 : decode cX9_rows 106 = .ok (.iload 6, 2) := by decide +kernel
theorem dX9_rows_108 : decode cX9_rows 108 = .ok (.iadd, 1) := by decide +kernel
theorem dX9_rows_109 : decode cX9_rows 109 = .ok (.iload 4, 2) := by decide +kernel
theorem dX9_rows_111 : decode cX9_rows 111 = .ok (.irem, 1) := by decide +kernel
theorem dX9_rows_112 : decode cX9_rows 112 = .ok (.iadd, 1) := by decide +kernel
theorem dX9_rows_113 : decode cX9_rows 113 = .ok (.iconst 1, 1) := by decide +kernel
theorem dX9_rows_114 : decode cX9_rows 114 = .ok (.iastore, 1) := by decide +kernel
theorem dX9_rows_115 : decode cX9_rows 115 = .ok (.iinc 6 1, 3) := by decide +kernel
theorem dX9_rows_118 : decode cX9_rows 118 = .ok (.goto (-35), 3) := by decide +kernel
theorem dX9_rows_121 : decode cX9_rows 121 = .ok (.iinc 5 1, 3) := by decide +kernel
theorem dX9_rows_124 : decode cX9_rows 124 = .ok (.goto (-50), 3) := by decide +kernel
theorem dX9_rows_127 : decode cX9_rows 127 = .ok (.iconst 1, 1) := by decide +kernel
theorem dX9_rows_128 : decode cX9_rows 128 = .ok (.ireturn, 1) := by decide +kernel
theorem dX9_isPlace_0 : decode cX9_isPlace 0 = .ok (.iload_n 1, 1) := by decide +kernel
theorem dX9_isPlace_1 : decode cX9_isPlace 1 = .ok (.i2l, 1) := by decide +kernel
theorem dX9_isPlace_2 : decode cX9_isPlace 2 = .ok (.lconst 0, 1) := by decide +kernel
theorem dX9_isPlace_3 : decode cX9_isPlace 3 = .ok (.aload_n 0, 1) := by decide +kernel
theorem dX9_isPlace_4 : decode cX9_isPlace 4 = .ok (.getfield 13, 3) := by decide +kernel
theorem dX9_isPlace_7 : decode cX9_isPlace 7 = .ok (.iconst 0, 1) := by decide +kernel
theorem dX9_isPlace_8 : decode cX9_isPlace 8 = .ok (.iaload, 1) := by decide +kernel
theorem dX9_isPlace_9 : decode cX9_isPlace 9 = .ok (.iconst 1, 1) := by decide +kernel
theorem dX9_isPlace_10 : decode cX9_isPlace 10 = .ok (.isub, 1) := by decide +kernel
theorem dX9_isPlace_11 : decode cX9_isPlace 11 = .ok (.i2l, 1) := by decide +kernel
theorem dX9_isPlace_12 : decode cX9_isPlace 12 = .ok (.invokestatic 97, 3) := by decide +kernel
theorem dX9_isPlace_15 : decode cX9_isPlace 15 = .ok (.ifCond .eq 43, 3) := by decide +kernel
theorem dX9_isPlace_18 : decode cX9_isPlace 18 = .ok (.iload_n 2, 1) := by decide +kernel
theorem dX9_isPlace_19 : decode cX9_isPlace 19 = .ok (.i2l, 1) := by decide +kernel
theorem dX9_isPlace_20 : decode cX9_isPlace 20 = .ok (.lconst 0, 1) := by decide +kernel
theorem dX9_isPlace_21 : decode cX9_isPlace 21 = .ok (.aload_n 0, 1) := by decide +kernel
theorem dX9_isPlace_22 : decode cX9_isPlace 22 = .ok (.getfield 13, 3) := by decide +kernel
theorem dX9_isPlace_25 : decode cX9_isPlace 25 = .ok (.iconst 1, 1) := by decide +kernel
theorem dX9_isPlace_26 : decode cX9_isPlace 26 = .ok (.iaload, 1) := by decide +kernel
theorem dX9_isPlace_27 : decode cX9_isPlace 27 = .ok (.iconst 1, 1) := by decide +kernel
theorem dX9_isPlace_28 : decode cX9_isPlace 28 = .ok (.isub, 1) := by decide +kernel
theorem dX9_isPlace_29 : decode cX9_isPlace 29 = .ok (.i2l, 1) := by decide +kernel
theorem dX9_isPlace_30 : decode cX9_isPlace 30 = .ok (.invokestatic 97, 3) := by decide +kernel
theorem dX9_isPlace_33 : decode cX9_isPlace 33 = .ok (.ifCond .eq 25, 3) := by decide +kernel
theorem dX9_isPlace_36 : decode cX9_isPlace 36 = .ok (.iload_n 3, 1) := by decide +kernel
theorem dX9_isPlace_37 : decode cX9_isPlace 37 = .ok (.i2l, 1) := by decide +kernel
theorem dX9_isPlace_38 : decode cX9_isPlace 38 = .ok (.lconst 0, 1) := by decide +kernel
theorem dX9_isPlace_39 : decode cX9_isPlace 39 = .ok (.aload_n 0, 1) := by decide +kernel
theorem dX9_isPlace_40 : decode cX9_isPlace 40 = .ok (.getfield 13, 3) := by decide +kernel
theorem dX9_isPlace_43 : decode cX9_isPlace 43 = .ok (.iconst 2, 1) := by decide +kernel
theorem dX9_isPlace_44 : decode cX9_isPlace 44 = .ok (.iaload, 1) := by decide +kernel
theorem dX9_isPlace_45 : decode cX9_isPlace 45 = .ok (.iconst 1, 1) := by decide +kernel
theorem dX9_isPlace_46 : decode cX9_isPlace 46 = .ok (.isub, 1) := by decide +kernel
theorem dX9_isPlace_47 : decode cX9_isPlace 47 = .ok (.i2l, 1) := by decide +kernel
theorem dX9_isPlace_48 : decode cX9_isPlace 48 = .ok (.invokestatic 97, 3) := by decide +kernel
theorem dX9_isPlace_51 : decode cX9_isPlace 51 = .ok (.ifCond .eq 7, 3) := by decide +kernel
theorem dX9_isPlace_54 : decode cX9_isPlace 54 = .ok (.iconst 1, 1) := by decide +kernel
theorem dX9_isPlace_55 : decode cX9_isPlace 55 = .ok (.goto 4, 3) := by decide +kernel
theorem dX9_isPlace_58 : decode cX9_isPlace 58 = .ok (.iconst 0, 1) := by decide +kernel
theorem dX9_isPlace_59 : decode cX9_isPlace 59 = .ok (.ireturn, 1) := by decide +kernel
theorem dX9_set_0 : decode cX9_set 0 = .ok (.aload_n 0, 1) := by decide +kernel
theorem dX9_set_1 : decode cX9_set 1 = .ok (.iload_n 1, 1) := by decide +kernel
theorem dX9_set_2 : decode cX9_set 2 = .ok (.iload_n 2, 1) := by decide +kernel
theorem dX9_set_3 : decode cX9_set 3 = .ok (.iload_n 3, 1) := by decide +kernel
theorem dX9_set_4 : decode cX9_set 4 = .ok (.invokevirtual 105, 3) := by decide +kernel
theorem dX9_set_7 : decode cX9_set 7 = .ok (.ifCond .eq 20, 3) := by decide +kernel
theorem dX9_set_10 : decode cX9_set 10 = .ok (.iload 4, 2) := by decide +kernel
theorem dX9_set_12 : decode cX9_set 12 = .ok (.i2l, 1) := by decide +kernel
theorem dX9_set_13 : decode cX9_set 13 = .ok (.lconst 0, 1) := by decide +kernel
theorem dX9_set_14 : decode cX9_set 14 = .ok (.aload_n 0, 1) := by decide +kernel
theorem dX9_set_15 : decode cX9_set 15 = .ok (.getfield 7, 3) := by decide +kernel
theorem dX9_set_18 : decode cX9_set 18 = .ok (.iconst 1, 1) := by decide +kernel
theorem dX9_set_19 : decode cX9_set 19 = .ok (.isub, 1) := by decide +kernel
theorem dX9_set_20 : decode cX9_set 20 = .ok (.i2l, 1) := by decide +kernel
theorem dX9_set_21 : decode cX9_set 21 = .ok (.invokestatic 97, 3) := by decide +kernel
theorem dX9_set_24 : decode cX9_set 24 = .ok (.ifCond .ne 5, 3) := by decide +kernel
theorem dX9_set_27 : decode cX9_set 27 = .ok (.iconst (-1), 1) := by decide +kernel
theorem dX9_set_28 : decode cX9_set 28 = .ok (.ireturn, 1) := by decide +kernel
theorem dX9_set_29 : decode cX9_set 29 = .ok (.aload_n 0, 1) := by decide +kernel
theorem dX9_set_30 : decode cX9_set 30 = .ok (.getfield 17, 3) := by decide +kernel
theorem dX9_set_33 : decode cX9_set 33 = .ok (.bipush 81, 2) := by decide +kernel
theorem dX9_set_35 : decode cX9_set 35 = .ok (.iload_n 1, 1) := by decide +kernel
theorem dX9_set_36 : decode cX9_set 36 = .ok (.imul, 1) := by decide +kernel
theorem dX9_set_37 : decode cX9_set 37 = .ok (.bipush 9, 2) := by decide +kernel
theorem dX9_set_39 : decode cX9_set 39 = .ok (.iload_n 2, 1) := by decide +kernel
theorem dX9_set_40 : decode cX9_set 40 = .ok (.imul, 1) := by decide +kernel
theorem dX9_set_41 : decode cX9_set 41 = .ok (.iadd, 1) := by decide +kernel
theorem dX9_set_42 : decode cX9_set 42 = .ok (.iload_n 3, 1) := by decide +kernel
theorem dX9_set_43 : decode cX9_set 43 = .ok (.iadd, 1) := by decide +kernel
theorem dX9_set_44 : decode cX9_set 44 = .ok (.iaload, 1) := by decide +kernel
theorem dX9_set_45 : decode cX9_set 45 = .ok (.istore 5, 2) := by decide +kernel
theorem dX9_set_47 : decode cX9_set 47 = .ok (.aload_n 0, 1) := by decide +kernel
theorem dX9_set_48 : decode cX9_set 48 = .ok (.getfield 17, 3) := by decide +kernel
theorem dX9_set_51 : decode cX9_set 51 = .ok (.bipush 81, 2) := by decide +kernel
theorem dX9_set_53 : decode cX9_set 53 = .ok (.iload_n 1, 1) := by decide +kernel
theorem dX9_set_54 : decode cX9_set 54 = .ok (.imul, 1) := by decide +kernel
theorem dX9_set_55 : decode cX9_set 55 = .ok (.bipush 9, 2) := by decide +kernel
theorem dX9_set_57 : decode cX9_set 57 = .ok (.iload_n 2, 1) := by decide +kernel
theorem dX9_set_58 : decode cX9_set 58 = .ok (.imul, 1) := by decide +kernel
theorem dX9_set_59 : decode cX9_set 59 = .ok (.iadd, 1) := by decide +kernel
theorem dX9_set_60 : decode cX9_set 60 = .ok (.iload_n 3, 1) := by decide +kernel
theorem dX9_set_61 : decode cX9_set 61 = .ok (.iadd, 1) := by decide +kernel
theorem dX9_set_62 : decode cX9_set 62 = .ok (.iload 4, 2) := by decide +kernel
theorem dX9_set_64 : decode cX9_set 64 = .ok (.iastore, 1) := by decide +kernel
theorem dX9_set_65 : decode cX9_set 65 = .ok (.aload_n 0, 1) := by decide +kernel
theorem dX9_set_66 : decode cX9_set 66 = .ok (.iconst 0, 1) := by decide +kernel
theorem dX9_set_67 : decode cX9_set 67 = .ok (.putfield 91, 3) := by decide +kernel
theorem dX9_set_70 : decode cX9_set 70 = .ok (.iload 5, 2) := by decide +kernel
theorem dX9_set_72 : decode cX9_set 72 = .ok (.ireturn, 1) := by decide +kernel
theorem dX9_at_0 : decode cX9_at 0 = .ok (.aload_n 0, 1) := by decide +kernel
theorem dX9_at_1 : decode cX9_at 1 = .ok (.iload_n 1, 1) := by decide +kernel
theorem dX9_at_2 : decode cX9_at 2 = .ok (.iload_n 2, 1) := by decide +kernel
theorem dX9_at_3 : decode cX9_at 3 = .ok (.iload_n 3, 1) := by decide +kernel
theorem dX9_at_4 : decode cX9_at 4 = .ok (.invokevirtual 105, 3) := by decide +kernel
theorem dX9_at_7 : decode cX9_at 7 = .ok (.ifCond .eq 22, 3) := by decide +kernel
theorem dX9_at_10 : decode cX9_at 10 = .ok (.aload_n 0, 1) := by decide +kernel
theorem dX9_at_11 : decode cX9_at 11 = .ok (.getfield 17, 3) := by decide +kernel
theorem dX9_at_14 : decode cX9_at 14 = .ok (.bipush 81, 2) := by decide +kernel
theorem dX9_at_16 : decode cX9_at 16 = .ok (.iload_n 1, 1) := by decide +kernel
theorem dX9_at_17 : decode cX9_at 17 = .ok (.imul, 1) := by decide +kernel
theorem dX9_at_18 : decode cX9_at 18 = .ok (.bipush 9, 2) := by decide +kernel
theorem dX9_at_20 : decode cX9_at 20 = .ok (.iload_n 2, 1) := by decide +kernel
theorem dX9_at_21 : decode cX9_at 21 = .ok (.imul, 1) := by decide +kernel
theorem dX9_at_22 : decode cX9_at 22 = .ok (.iadd, 1) := by decide +kernel
theorem dX9_at_23 : decode cX9_at 23 = .ok (.iload_n 3, 1) := by decide +kernel
theorem dX9_at_24 : decode cX9_at 24 = .ok (.iadd, 1) := by decide +kernel
theorem dX9_at_25 : decode cX9_at 25 = .ok (.iaload, 1) := by decide +kernel
theorem dX9_at_26 : decode cX9_at 26 = .ok (.goto 4, 3) := by decide +kernel
theorem dX9_at_29 : decode cX9_at 29 = .ok (.iconst (-1), 1) := by decide +kernel
theorem dX9_at_30 : decode cX9_at 30 = .ok (.ireturn, 1) := by decide +kernel
theorem dX9_filled_0 : decode cX9_filled 0 = .ok (.iconst 0, 1) := by decide +kernel
theorem dX9_filled_1 : decode cX9_filled 1 = .ok (.istore_n 1, 1) := by decide +kernel
theorem dX9_filled_2 : decode cX9_filled 2 = .ok (.iconst 0, 1) := by decide +kernel
theorem dX9_filled_3 : decode cX9_filled 3 = .ok (.istore_n 2, 1) := by decide +kernel
theorem dX9_filled_4 : decode cX9_filled 4 = .ok (.iload_n 2, 1) := by decide +kernel
theorem dX9_filled_5 : decode cX9_filled 5 = .ok (.sipush 729, 3) := by decide +kernel
theorem dX9_filled_8 : decode cX9_filled 8 = .ok (.if_icmp .ge 26, 3) := by decide +kernel
theorem dX9_filled_11 : decode cX9_filled 11 = .ok (.iload_n 1, 1) := by decide +kernel
theorem dX9_filled_12 : decode cX9_filled 12 = .ok (.aload_n 0, 1) := by decide +kernel
theorem dX9_filled_13 : decode cX9_filled 13 = .ok (.getfield 17, 3) := by decide +kernel
theorem dX9_filled_16 : decode cX9_filled 16 = .ok (.iload_n 2, 1) := by decide +kernel
theorem dX9_filled_17 : decode cX9_filled 17 = .ok (.iaload, 1) := by decide +kernel
theorem dX9_filled_18 : decode cX9_filled 18 = .ok (.ifCond .eq 7, 3) := by decide +kernel
theorem dX9_filled_21 : decode cX9_filled 21 = .ok (.iconst 1, 1) := by decide +kernel
theorem dX9_filled_22 : decode cX9_filled 22 = .ok (.goto 4, 3) := by decide +kernel
theorem dX9_filled_25 : decode cX9_filled 25 = .ok (.iconst 0, 1) := by decide +kernel
theorem dX9_filled_26 : decode cX9_filled 26 = .ok (.iadd, 1) := by decide +kernel
theorem dX9_filled_27 : decode cX9_filled 27 = .ok (.istore_n 1, 1) := by decide +kernel
theorem dX9_filled_28 : decode cX9_filled 28 = .ok (.iinc 2 1, 3) := by decide +kernel
theorem dX9_filled_31 : decode cX9_filled 31 = .ok (.goto (-27), 3) := by decide +kernel
theorem dX9_filled_34 : decode cX9_filled 34 = .ok (.iload_n 1, 1) := by decide +kernel
theorem dX9_filled_35 : decode cX9_filled 35 = .ok (.ireturn, 1) := by decide +kernel
theorem dX9_many_0 : decode cX9_many 0 = .ok (.iload_n 1, 1) := by decide +kernel
theorem dX9_many_1 : decode cX9_many 1 = .ok (.tableswitch 72 0 6 #[43, 48, 48, 48, 57, 62, 67], 43) := by decide +kernel
theorem dX9_many_44 : decode cX9_many 44 = .ok (.aload_n 0, 1) := by decide +kernel
theorem dX9_many_45 : decode cX9_many 45 = .ok (.getfield 7, 3) := by decide +kernel
theorem dX9_many_48 : decode cX9_many 48 = .ok (.ireturn, 1) := by decide +kernel
theorem dX9_many_49 : decode cX9_many 49 = .ok (.aload_n 0, 1) := by decide +kernel
theorem dX9_many_50 : decode cX9_many 50 = .ok (.getfield 13, 3) := by decide +kernel
theorem dX9_many_53 : decode cX9_many 53 = .ok (.iload_n 1, 1) := by decide +kernel
theorem dX9_many_54 : decode cX9_many 54 = .ok (.iconst 1, 1) := by decide +kernel
theorem dX9_many_55 : decode cX9_many 55 = .ok (.isub, 1) := by decide +kernel
theorem dX9_many_56 : decode cX9_many 56 = .ok (.iaload, 1) := by decide +kernel
theorem dX9_many_57 : decode cX9_many 57 = .ok (.ireturn, 1) := by decide +kernel
theorem dX9_many_58 : decode cX9_many 58 = .ok (.aload_n 0, 1) := by decide +kernel
theorem dX9_many_59 : decode cX9_many 59 = .ok (.getfield 85, 3) := by decide +kernel
theorem dX9_many_62 : decode cX9_many 62 = .ok (.ireturn, 1) := by decide +kernel
theorem dX9_many_63 : decode cX9_many 63 = .ok (.aload_n 0, 1) := by decide +kernel
theorem dX9_many_64 : decode cX9_many 64 = .ok (.invokevirtual 108, 3) := by decide +kernel
theorem dX9_many_67 : decode cX9_many 67 = .ok (.ireturn, 1) := by decide +kernel
theorem dX9_many_68 : decode cX9_many 68 = .ok (.aload_n 0, 1) := by decide +kernel
theorem dX9_many_69 : decode cX9_many 69 = .ok (.invokevirtual 112, 3) := by decide +kernel
theorem dX9_many_72 : decode cX9_many 72 = .ok (.ireturn, 1) := by decide +kernel
theorem dX9_many_73 : decode cX9_many 73 = .ok (.iconst (-1), 1) := by decide +kernel
theorem dX9_many_74 : decode cX9_many 74 = .ok (.ireturn, 1) := by decide +kernel
theorem dX9_rowsOf_0 : decode cX9_rowsOf 0 = .ok (.iconst 1, 1) := by decide +kernel
theorem dX9_rowsOf_1 : decode cX9_rowsOf 1 = .ok (.istore_n 2, 1) := by decide +kernel
theorem dX9_rowsOf_2 : decode cX9_rowsOf 2 = .ok (.iconst 0, 1) := by decide +kernel
theorem dX9_rowsOf_3 : decode cX9_rowsOf 3 = .ok (.istore_n 3, 1) := by decide +kernel
theorem dX9_rowsOf_4 : decode cX9_rowsOf 4 = .ok (.iload_n 3, 1) := by decide +kernel
theorem dX9_rowsOf_5 : decode cX9_rowsOf 5 = .ok (.aload_n 0, 1) := by decide +kernel
theorem dX9_rowsOf_6 : decode cX9_rowsOf 6 = .ok (.getfield 13, 3) := by decide +kernel
theorem dX9_rowsOf_9 : decode cX9_rowsOf 9 = .ok (.iload_n 1, 1) := by decide +kernel
theorem dX9_rowsOf_10 : decode cX9_rowsOf 10 = .ok (.iaload, 1) := by decide +kernel
theorem dX9_rowsOf_11 : decode cX9_rowsOf 11 = .ok (.if_icmp .ge 16, 3) := by decide +kernel
theorem dX9_rowsOf_14 : decode cX9_rowsOf 14 = .ok (.iload_n 2, 1) := by decide +kernel
theorem dX9_rowsOf_15 : decode cX9_rowsOf 15 = .ok (.aload_n 0, 1) := by decide +kernel
theorem dX9_rowsOf_16 : decode cX9_rowsOf 16 = .ok (.getfield 7, 3) := by decide +kernel
theorem dX9_rowsOf_19 : decode cX9_rowsOf 19 = .ok (.imul, 1) := by decide +kernel
theorem dX9_rowsOf_20 : decode cX9_rowsOf 20 = .ok (.istore_n 2, 1) := by decide +kernel
theorem dX9_rowsOf_21 : decode cX9_rowsOf 21 = .ok (.iinc 3 1, 3) := by decide +kernel
theorem dX9_rowsOf_24 : decode cX9_rowsOf 24 = .ok (.goto (-20), 3) := by decide +kernel
theorem dX9_rowsOf_27 : decode cX9_rowsOf 27 = .ok (.iload_n 2, 1) := by decide +kernel
theorem dX9_rowsOf_28 : decode cX9_rowsOf 28 = .ok (.ireturn, 1) := by decide +kernel
theorem dX9_isRow_0 : decode cX9_isRow 0 = .ok (.iload_n 1, 1) := by decide +kernel
theorem dX9_isRow_1 : decode cX9_isRow 1 = .ok (.i2l, 1) := by decide +kernel
theorem dX9_isRow_2 : decode cX9_isRow 2 = .ok (.lconst 0, 1) := by decide +kernel
theorem dX9_isRow_3 : decode cX9_isRow 3 = .ok (.aload_n 0, 1) := by decide +kernel
theorem dX9_isRow_4 : decode cX9_isRow 4 = .ok (.iload_n 2, 1) := by decide +kernel
theorem dX9_isRow_5 : decode cX9_isRow 5 = .ok (.invokevirtual 115, 3) := by decide +kernel
theorem dX9_isRow_8 : decode cX9_isRow 8 = .ok (.iconst 1, 1) := by decide +kernel
theorem dX9_isRow_9 : decode cX9_isRow 9 = .ok (.isub, 1) := by decide +kernel
theorem dX9_isRow_10 : decode cX9_isRow 10 = .ok (.i2l, 1) := by decide +kernel
theorem dX9_isRow_11 : decode cX9_isRow 11 = .ok (.invokestatic 97, 3) := by decide +kernel
theorem dX9_isRow_14 : decode cX9_isRow 14 = .ok (.ireturn, 1) := by decide +kernel
theorem dX9_putRow_0 : decode cX9_putRow 0 = .ok (.iload_n 3, 1) := by decide +kernel
theorem dX9_putRow_1 : decode cX9_putRow 1 = .ok (.istore 4, 2) := by decide +kernel
theorem dX9_putRow_3 : decode cX9_putRow 3 = .ok (.iconst 0, 1) := by decide +kernel
theorem dX9_putRow_4 : decode cX9_putRow 4 = .ok (.istore 5, 2) := by decide +kernel
theorem dX9_putRow_6 : decode cX9_putRow 6 = .ok (.iload 5, 2) := by decide +kernel
theorem dX9_putRow_8 : decode cX9_putRow 8 = .ok (.bipush 9, 2) := by decide +kernel
theorem dX9_putRow_10 : decode cX9_putRow 10 = .ok (.if_icmp .ge 42, 3) := by decide +kernel
theorem dX9_putRow_13 : decode cX9_putRow 13 = .ok (.aload_n 0, 1) := by decide +kernel
theorem dX9_putRow_14 : decode cX9_putRow 14 = .ok (.getfield 20, 3) := by decide +kernel
theorem dX9_putRow_17 : decode cX9_putRow 17 = .ok (.bipush 27, 2) := by decide +kernel
theorem dX9_putRow_19 : decode cX9_putRow 19 = .ok (.iload_n 1, 1) := by decide +kernel
theorem dX9_putRow_20 : decode cX9_putRow 20 = .ok (.imul, 1) := by decide +kernel
theorem dX9_putRow_21 : decode cX9_putRow 21 = .ok (.bipush 9, 2) := by decide +kernel
theorem dX9_putRow_23 : decode cX9_putRow 23 = .ok (.iload_n 2, 1) := by decide +kernel
theorem dX9_putRow_24 : decode cX9_putRow 24 = .ok (.imul, 1) := by decide +kernel
theorem dX9_putRow_25 : decode cX9_putRow 25 = .ok (.iadd, 1) := by decide +kernel
theorem dX9_putRow_26 : decode cX9_putRow 26 = .ok (.iload 5, 2) := by decide +kernel
theorem dX9_putRow_28 : decode cX9_putRow 28 = .ok (.iadd, 1) := by decide +kernel
theorem dX9_putRow_29 : decode cX9_putRow 29 = .ok (.iload 4, 2) := by decide +kernel
theorem dX9_putRow_31 : decode cX9_putRow 31 = .ok (.aload_n 0, 1) := by decide +kernel
theorem dX9_putRow_32 : decode cX9_putRow 32 = .ok (.getfield 7, 3) := by decide +kernel
theorem dX9_putRow_35 : decode cX9_putRow 35 = .ok (.irem, 1) := by decide +kernel
theorem dX9_putRow_36 : decode cX9_putRow 36 = .ok (.iastore, 1) := by decide +kernel
theorem dX9_putRow_37 : decode cX9_putRow 37 = .ok (.iload 4, 2) := by decide +kernel
theorem dX9_putRow_39 : decode cX9_putRow 39 = .ok (.aload_n 0, 1) := by decide +kernel
theorem dX9_putRow_40 : decode cX9_putRow 40 = .ok (.getfield 7, 3) := by decide +kernel
theorem dX9_putRow_43 : decode cX9_putRow 43 = .ok (.idiv, 1) := by decide +kernel
theorem dX9_putRow_44 : decode cX9_putRow 44 = .ok (.istore 4, 2) := by decide +kernel
theorem dX9_putRow_46 : decode cX9_putRow 46 = .ok (.iinc 5 1, 3) := by decide +kernel
theorem dX9_putRow_49 : decode cX9_putRow 49 = .ok (.goto (-43), 3) := by decide +kernel
theorem dX9_putRow_52 : decode cX9_putRow 52 = .ok (.return_, 1) := by decide +kernel
theorem dX9_getRow_0 : decode cX9_getRow 0 = .ok (.iconst 0, 1) := by decide +kernel
theorem dX9_getRow_1 : decode cX9_getRow 1 = .ok (.istore_n 3, 1) := by decide +kernel
theorem dX9_getRow_2 : decode cX9_getRow 2 = .ok (.aload_n 0, 1) := by decide +kernel
theorem dX9_getRow_3 : decode cX9_getRow 3 = .ok (.getfield 13, 3) := by decide +kernel
theorem dX9_getRow_6 : decode cX9_getRow 6 = .ok (.iload_n 2, 1) := by decide +kernel
theorem dX9_getRow_7 : decode cX9_getRow 7 = .ok (.iaload, 1) := by decide +kernel
theorem dX9_getRow_8 : decode cX9_getRow 8 = .ok (.iconst 1, 1) := by decide +kernel
theorem dX9_getRow_9 : decode cX9_getRow 9 = .ok (.isub, 1) := by decide +kernel
theorem dX9_getRow_10 : decode cX9_getRow 10 = .ok (.istore 4, 2) := by decide +kernel
theorem dX9_getRow_12 : decode cX9_getRow 12 = .ok (.iload 4, 2) := by decide +kernel
theorem dX9_getRow_14 : decode cX9_getRow 14 = .ok (.ifCond .lt 34, 3) := by decide +kernel
theorem dX9_getRow_17 : decode cX9_getRow 17 = .ok (.iload_n 3, 1) := by decide +kernel
theorem dX9_getRow_18 : decode cX9_getRow 18 = .ok (.aload_n 0, 1) := by decide +kernel
theorem dX9_getRow_19 : decode cX9_getRow 19 = .ok (.getfield 7, 3) := by decide +kernel
theorem dX9_getRow_22 : decode cX9_getRow 22 = .ok (.imul, 1) := by decide +kernel
theorem dX9_getRow_23 : decode cX9_getRow 23 = .ok (.aload_n 0, 1) := by decide +kernel
theorem dX9_getRow_24 : decode cX9_getRow 24 = .ok (.getfield 20, 3) := by decide +kernel
theorem dX9_getRow_27 : decode cX9_getRow 27 = .ok (.bipush 27, 2) := by decide +kernel
theorem dX9_getRow_29 : decode cX9_getRow 29 = .ok (.iload_n 1, 1) := by decide +kernel
theorem dX9_getRow_30 : decode cX9_getRow 30 = .ok (.imul, 1) := by decide +kernel
theorem dX9_getRow_31 : decode cX9_getRow 31 = .ok (.bipush 9, 2) := by decide +kernel
theorem dX9_getRow_33 : decode cX9_getRow 33 = .ok (.iload_n 2, 1) := by decide +kernel
theorem dX9_getRow_34 : decode cX9_getRow 34 = .ok (.imul, 1) := by decide +kernel
theorem dX9_getRow_35 : decode cX9_getRow 35 = .ok (.iadd, 1) := by decide +kernel
theorem dX9_getRow_36 : decode cX9_getRow 36 = .ok (.iload 4, 2) := by decide +kernel
theorem dX9_getRow_38 : decode cX9_getRow 38 = .ok (.iadd, 1) := by decide +kernel
theorem dX9_getRow_39 : decode cX9_getRow 39 = .ok (.iaload, 1) := by decide +kernel
theorem dX9_getRow_40 : decode cX9_getRow 40 = .ok (.iadd, 1) := by decide +kernel
theorem dX9_getRow_41 : decode cX9_getRow 41 = .ok (.istore_n 3, 1) := by decide +kernel
theorem dX9_getRow_42 : decode cX9_getRow 42 = .ok (.iinc 4 (-1), 3) := by decide +kernel
theorem dX9_getRow_45 : decode cX9_getRow 45 = .ok (.goto (-33), 3) := by decide +kernel
theorem dX9_getRow_48 : decode cX9_getRow 48 = .ok (.iload_n 3, 1) := by decide +kernel
theorem dX9_getRow_49 : decode cX9_getRow 49 = .ok (.ireturn, 1) := by decide +kernel
theorem dX9_time_0 : decode cX9_time 0 = .ok (.aload_n 0, 1) := by decide +kernel
theorem dX9_time_1 : decode cX9_time 1 = .ok (.iload_n 1, 1) := by decide +kernel
theorem dX9_time_2 : decode cX9_time 2 = .ok (.iconst 0, 1) := by decide +kernel
theorem dX9_time_3 : decode cX9_time 3 = .ok (.invokevirtual 119, 3) := by decide +kernel
theorem dX9_time_6 : decode cX9_time 6 = .ok (.ifCond .eq 21, 3) := by decide +kernel
theorem dX9_time_9 : decode cX9_time 9 = .ok (.aload_n 0, 1) := by decide +kernel
theorem dX9_time_10 : decode cX9_time 10 = .ok (.iload_n 2, 1) := by decide +kernel
theorem dX9_time_11 : decode cX9_time 11 = .ok (.iconst 1, 1) := by decide +kernel
theorem dX9_time_12 : decode cX9_time 12 = .ok (.invokevirtual 119, 3) := by decide +kernel
theorem dX9_time_15 : decode cX9_time 15 = .ok (.ifCond .eq 12, 3) := by decide +kernel
theorem dX9_time_18 : decode cX9_time 18 = .ok (.aload_n 0, 1) := by decide +kernel
theorem dX9_time_19 : decode cX9_time 19 = .ok (.iload_n 3, 1) := by decide +kernel
theorem dX9_time_20 : decode cX9_time 20 = .ok (.iconst 2, 1) := by decide +kernel
theorem dX9_time_21 : decode cX9_time 21 = .ok (.invokevirtual 119, 3) := by decide +kernel
theorem dX9_time_24 : decode cX9_time 24 = .ok (.ifCond .ne 5, 3) := by decide +kernel
theorem dX9_time_27 : decode cX9_time 27 = .ok (.iconst (-1), 1) := by decide +kernel
theorem dX9_time_28 : decode cX9_time 28 = .ok (.ireturn, 1) := by decide +kernel
theorem dX9_time_29 : decode cX9_time 29 = .ok (.aload_n 0, 1) := by decide +kernel
theorem dX9_time_30 : decode cX9_time 30 = .ok (.getfield 85, 3) := by decide +kernel
theorem dX9_time_33 : decode cX9_time 33 = .ok (.bipush 40, 2) := by decide +kernel
theorem dX9_time_35 : decode cX9_time 35 = .ok (.if_icmp .ne 6, 3) := by decide +kernel
theorem dX9_time_38 : decode cX9_time 38 = .ok (.bipush (-2), 2) := by decide +kernel
theorem dX9_time_40 : decode cX9_time 40 = .ok (.ireturn, 1) := by decide +kernel
theorem dX9_time_41 : decode cX9_time 41 = .ok (.aload_n 0, 1) := by decide +kernel
theorem dX9_time_42 : decode cX9_time 42 = .ok (.aload_n 0, 1) := by decide +kernel
theorem dX9_time_43 : decode cX9_time 43 = .ok (.getfield 85, 3) := by decide +kernel
theorem dX9_time_46 : decode cX9_time 46 = .ok (.iconst 0, 1) := by decide +kernel
theorem dX9_time_47 : decode cX9_time 47 = .ok (.iload_n 1, 1) := by decide +kernel
theorem dX9_time_48 : decode cX9_time 48 = .ok (.invokevirtual 123, 3) := by decide +kernel
theorem dX9_time_51 : decode cX9_time 51 = .ok (.aload_n 0, 1) := by decide +kernel
theorem dX9_time_52 : decode cX9_time 52 = .ok (.aload_n 0, 1) := by decide +kernel
theorem dX9_time_53 : decode cX9_time 53 = .ok (.getfield 85, 3) := by decide +kernel
theorem dX9_time_56 : decode cX9_time 56 = .ok (.iconst 1, 1) := by decide +kernel
theorem dX9_time_57 : decode cX9_time 57 = .ok (.iload_n 2, 1) := by decide +kernel
theorem dX9_time_58 : decode cX9_time 58 = .ok (.invokevirtual 123, 3) := by decide +kernel
theorem dX9_time_61 : decode cX9_time 61 = .ok (.aload_n 0, 1) := by decide +kernel
theorem dX9_time_62 : decode cX9_time 62 = .ok (.aload_n 0, 1) := by decide +kernel
theorem dX9_time_63 : decode cX9_time 63 = .ok (.getfield 85, 3) := by decide +kernel
theorem dX9_time_66 : decode cX9_time 66 = .ok (.iconst 2, 1) := by decide +kernel
theorem dX9_time_67 : decode cX9_time 67 = .ok (.iload_n 3, 1) := by decide +kernel
theorem dX9_time_68 : decode cX9_time 68 = .ok (.invokevirtual 123, 3) := by decide +kernel
theorem dX9_time_71 : decode cX9_time 71 = .ok (.aload_n 0, 1) := by decide +kernel
theorem dX9_time_72 : decode cX9_time 72 = .ok (.dup, 1) := by decide +kernel
theorem dX9_time_73 : decode cX9_time 73 = .ok (.getfield 85, 3) := by decide +kernel
theorem dX9_time_76 : decode cX9_time 76 = .ok (.iconst 1, 1) := by decide +kernel
theorem dX9_time_77 : decode cX9_time 77 = .ok (.iadd, 1) := by decide +kernel
theorem dX9_time_78 : decode cX9_time 78 = .ok (.putfield 85, 3) := by decide +kernel
theorem dX9_time_81 : decode cX9_time 81 = .ok (.aload_n 0, 1) := by decide +kernel
theorem dX9_time_82 : decode cX9_time 82 = .ok (.getfield 85, 3) := by decide +kernel
theorem dX9_time_85 : decode cX9_time 85 = .ok (.iconst 1, 1) := by decide +kernel
theorem dX9_time_86 : decode cX9_time 86 = .ok (.isub, 1) := by decide +kernel
theorem dX9_time_87 : decode cX9_time 87 = .ok (.ireturn, 1) := by decide +kernel
theorem dX9_isTime_0 : decode cX9_isTime 0 = .ok (.iload_n 1, 1) := by decide +kernel
theorem dX9_isTime_1 : decode cX9_isTime 1 = .ok (.i2l, 1) := by decide +kernel
theorem dX9_isTime_2 : decode cX9_isTime 2 = .ok (.lconst 0, 1) := by decide +kernel
theorem dX9_isTime_3 : decode cX9_isTime 3 = .ok (.aload_n 0, 1) := by decide +kernel
theorem dX9_isTime_4 : decode cX9_isTime 4 = .ok (.getfield 85, 3) := by decide +kernel
theorem dX9_isTime_7 : decode cX9_isTime 7 = .ok (.iconst 1, 1) := by decide +kernel
theorem dX9_isTime_8 : decode cX9_isTime 8 = .ok (.isub, 1) := by decide +kernel
theorem dX9_isTime_9 : decode cX9_isTime 9 = .ok (.i2l, 1) := by decide +kernel
theorem dX9_isTime_10 : decode cX9_isTime 10 = .ok (.invokestatic 97, 3) := by decide +kernel
theorem dX9_isTime_13 : decode cX9_isTime 13 = .ok (.ireturn, 1) := by decide +kernel
theorem dX9_row_0 : decode cX9_row 0 = .ok (.aload_n 0, 1) := by decide +kernel
theorem dX9_row_1 : decode cX9_row 1 = .ok (.iload_n 1, 1) := by decide +kernel
theorem dX9_row_2 : decode cX9_row 2 = .ok (.invokevirtual 126, 3) := by decide +kernel
theorem dX9_row_5 : decode cX9_row 5 = .ok (.ifCond .eq 24, 3) := by decide +kernel
theorem dX9_row_8 : decode cX9_row 8 = .ok (.iload_n 2, 1) := by decide +kernel
theorem dX9_row_9 : decode cX9_row 9 = .ok (.i2l, 1) := by decide +kernel
theorem dX9_row_10 : decode cX9_row 10 = .ok (.lconst 0, 1) := by decide +kernel
theorem dX9_row_11 : decode cX9_row 11 = .ok (.ldc2_w 130, 3) := by decide +kernel
theorem dX9_row_14 : decode cX9_row 14 = .ok (.invokestatic 97, 3) := by decide +kernel
theorem dX9_row_17 : decode cX9_row 17 = .ok (.ifCond .eq 12, 3) := by decide +kernel
theorem dX9_row_20 : decode cX9_row 20 = .ok (.aload_n 0, 1) := by decide +kernel
theorem dX9_row_21 : decode cX9_row 21 = .ok (.iload_n 1, 1) := by decide +kernel
theorem dX9_row_22 : decode cX9_row 22 = .ok (.iload_n 2, 1) := by decide +kernel
theorem dX9_row_23 : decode cX9_row 23 = .ok (.invokevirtual 132, 3) := by decide +kernel
theorem dX9_row_26 : decode cX9_row 26 = .ok (.goto 4, 3) := by decide +kernel
theorem dX9_row_29 : decode cX9_row 29 = .ok (.iconst (-1), 1) := by decide +kernel
theorem dX9_row_30 : decode cX9_row 30 = .ok (.ireturn, 1) := by decide +kernel
theorem dX9_change_0 : decode cX9_change 0 = .ok (.aload_n 0, 1) := by decide +kernel
theorem dX9_change_1 : decode cX9_change 1 = .ok (.iload_n 1, 1) := by decide +kernel
theorem dX9_change_2 : decode cX9_change 2 = .ok (.invokevirtual 126, 3) := by decide +kernel
theorem dX9_change_5 : decode cX9_change 5 = .ok (.ifCond .eq 24, 3) := by decide +kernel
theorem dX9_change_8 : decode cX9_change 8 = .ok (.iload_n 2, 1) := by decide +kernel
theorem dX9_change_9 : decode cX9_change 9 = .ok (.i2l, 1) := by decide +kernel
theorem dX9_change_10 : decode cX9_change 10 = .ok (.lconst 0, 1) := by decide +kernel
theorem dX9_change_11 : decode cX9_change 11 = .ok (.ldc2_w 130, 3) := by decide +kernel
theorem dX9_change_14 : decode cX9_change 14 = .ok (.invokestatic 97, 3) := by decide +kernel
theorem dX9_change_17 : decode cX9_change 17 = .ok (.ifCond .eq 12, 3) := by decide +kernel
theorem dX9_change_20 : decode cX9_change 20 = .ok (.aload_n 0, 1) := by decide +kernel
theorem dX9_change_21 : decode cX9_change 21 = .ok (.iload_n 3, 1) := by decide +kernel
theorem dX9_change_22 : decode cX9_change 22 = .ok (.iload_n 2, 1) := by decide +kernel
theorem dX9_change_23 : decode cX9_change 23 = .ok (.invokevirtual 119, 3) := by decide +kernel
theorem dX9_change_26 : decode cX9_change 26 = .ok (.ifCond .ne 5, 3) := by decide +kernel
theorem dX9_change_29 : decode cX9_change 29 = .ok (.iconst (-1), 1) := by decide +kernel
theorem dX9_change_30 : decode cX9_change 30 = .ok (.ireturn, 1) := by decide +kernel
theorem dX9_change_31 : decode cX9_change 31 = .ok (.aload_n 0, 1) := by decide +kernel
theorem dX9_change_32 : decode cX9_change 32 = .ok (.iload_n 1, 1) := by decide +kernel
theorem dX9_change_33 : decode cX9_change 33 = .ok (.iload_n 2, 1) := by decide +kernel
theorem dX9_change_34 : decode cX9_change 34 = .ok (.iload_n 3, 1) := by decide +kernel
theorem dX9_change_35 : decode cX9_change 35 = .ok (.invokevirtual 123, 3) := by decide +kernel
theorem dX9_change_38 : decode cX9_change 38 = .ok (.iconst 1, 1) := by decide +kernel
theorem dX9_change_39 : decode cX9_change 39 = .ok (.ireturn, 1) := by decide +kernel
theorem dX9_remove_0 : decode cX9_remove 0 = .ok (.bipush 27, 2) := by decide +kernel
theorem dX9_remove_2 : decode cX9_remove 2 = .ok (.iload_n 1, 1) := by decide +kernel
theorem dX9_remove_3 : decode cX9_remove 3 = .ok (.imul, 1) := by decide +kernel
theorem dX9_remove_4 : decode cX9_remove 4 = .ok (.istore_n 2, 1) := by decide +kernel
theorem dX9_remove_5 : decode cX9_remove 5 = .ok (.iload_n 2, 1) := by decide +kernel
theorem dX9_remove_6 : decode cX9_remove 6 = .ok (.bipush 27, 2) := by decide +kernel
theorem dX9_remove_8 : decode cX9_remove 8 = .ok (.aload_n 0, 1) := by decide +kernel
theorem dX9_remove_9 : decode cX9_remove 9 = .ok (.getfield 85, 3) := by decide +kernel
theorem dX9_remove_12 : decode cX9_remove 12 = .ok (.iconst 1, 1) := by decide +kernel
theorem dX9_remove_13 : decode cX9_remove 13 = .ok (.isub, 1) := by decide +kernel
theorem dX9_remove_14 : decode cX9_remove 14 = .ok (.imul, 1) := by decide +kernel
theorem dX9_remove_15 : decode cX9_remove 15 = .ok (.if_icmp .ge 24, 3) := by decide +kernel
theorem dX9_remove_18 : decode cX9_remove 18 = .ok (.aload_n 0, 1) := by decide +kernel
theorem dX9_remove_19 : decode cX9_remove 19 = .ok (.getfield 20, 3) := by decide +kernel
theorem dX9_remove_22 : decode cX9_remove 22 = .ok (.iload_n 2, 1) := by decide +kernel
theorem dX9_remove_23 : decode cX9_remove 23 = .ok (.aload_n 0, 1) := by decide +kernel
theorem dX9_remove_24 : decode cX9_remove 24 = .ok (.getfield 20, 3) := by decide +kernel
theorem dX9_remove_27 : decode cX9_remove 27 = .ok (.iload_n 2, 1) := by decide +kernel
theorem dX9_remove_28 : decode cX9_remove 28 = .ok (.bipush 27, 2) := by decide +kernel
theorem dX9_remove_30 : decode cX9_remove 30 = .ok (.iadd, 1) := by decide +kernel
theorem dX9_remove_31 : decode cX9_remove 31 = .ok (.iaload, 1) := by decide +kernel
theorem dX9_remove_32 : decode cX9_remove 32 = .ok (.iastore, 1) := by decide +kernel
theorem dX9_remove_33 : decode cX9_remove 33 = .ok (.iinc 2 1, 3) := by decide +kernel
theorem dX9_remove_36 : decode cX9_remove 36 = .ok (.goto (-31), 3) := by decide +kernel
theorem dX9_remove_39 : decode cX9_remove 39 = .ok (.aload_n 0, 1) := by decide +kernel
theorem dX9_remove_40 : decode cX9_remove 40 = .ok (.dup, 1) := by decide +kernel
theorem dX9_remove_41 : decode cX9_remove 41 = .ok (.getfield 85, 3) := by decide +kernel
theorem dX9_remove_44 : decode cX9_remove 44 = .ok (.iconst 1, 1) := by decide +kernel
theorem dX9_remove_45 : decode cX9_remove 45 = .ok (.isub, 1) := by decide +kernel
theorem dX9_remove_46 : decode cX9_remove 46 = .ok (.putfield 85, 3) := by decide +kernel
theorem dX9_remove_49 : decode cX9_remove 49 = .ok (.return_, 1) := by decide +kernel
theorem dX9_drop_0 : decode cX9_drop 0 = .ok (.aload_n 0, 1) := by decide +kernel
theorem dX9_drop_1 : decode cX9_drop 1 = .ok (.iload_n 1, 1) := by decide +kernel
theorem dX9_drop_2 : decode cX9_drop 2 = .ok (.invokevirtual 126, 3) := by decide +kernel
theorem dX9_drop_5 : decode cX9_drop 5 = .ok (.ifCond .ne 5, 3) := by decide +kernel
theorem dX9_drop_8 : decode cX9_drop 8 = .ok (.iconst (-1), 1) := by decide +kernel
theorem dX9_drop_9 : decode cX9_drop 9 = .ok (.ireturn, 1) := by decide +kernel
theorem dX9_drop_10 : decode cX9_drop 10 = .ok (.aload_n 0, 1) := by decide +kernel
theorem dX9_drop_11 : decode cX9_drop 11 = .ok (.iload_n 1, 1) := by decide +kernel
theorem dX9_drop_12 : decode cX9_drop 12 = .ok (.invokevirtual 136, 3) := by decide +kernel
theorem dX9_drop_15 : decode cX9_drop 15 = .ok (.aload_n 0, 1) := by decide +kernel
theorem dX9_drop_16 : decode cX9_drop 16 = .ok (.getfield 85, 3) := by decide +kernel
theorem dX9_drop_19 : decode cX9_drop 19 = .ok (.ireturn, 1) := by decide +kernel
theorem dX9_plain_0 : decode cX9_plain 0 = .ok (.aload_n 0, 1) := by decide +kernel
theorem dX9_plain_1 : decode cX9_plain 1 = .ok (.invokevirtual 108, 3) := by decide +kernel
theorem dX9_plain_4 : decode cX9_plain 4 = .ok (.bipush 40, 2) := by decide +kernel
theorem dX9_plain_6 : decode cX9_plain 6 = .ok (.if_icmp .le 6, 3) := by decide +kernel
theorem dX9_plain_9 : decode cX9_plain 9 = .ok (.bipush (-2), 2) := by decide +kernel
theorem dX9_plain_11 : decode cX9_plain 11 = .ok (.ireturn, 1) := by decide +kernel
theorem dX9_plain_12 : decode cX9_plain 12 = .ok (.aload_n 0, 1) := by decide +kernel
theorem dX9_plain_13 : decode cX9_plain 13 = .ok (.iconst 0, 1) := by decide +kernel
theorem dX9_plain_14 : decode cX9_plain 14 = .ok (.putfield 85, 3) := by decide +kernel
theorem dX9_plain_17 : decode cX9_plain 17 = .ok (.iconst 0, 1) := by decide +kernel
theorem dX9_plain_18 : decode cX9_plain 18 = .ok (.istore_n 1, 1) := by decide +kernel
theorem dX9_plain_19 : decode cX9_plain 19 = .ok (.iload_n 1, 1) := by decide +kernel
theorem dX9_plain_20 : decode cX9_plain 20 = .ok (.sipush 729, 3) := by decide +kernel
theorem dX9_plain_23 : decode cX9_plain 23 = .ok (.if_icmp .ge 125, 3) := by decide +kernel
theorem dX9_plain_26 : decode cX9_plain 26 = .ok (.aload_n 0, 1) := by decide +kernel
theorem dX9_plain_27 : decode cX9_plain 27 = .ok (.getfield 17, 3) := by decide +kernel
theorem dX9_plain_30 : decode cX9_plain 30 = .ok (.iload_n 1, 1) := by decide +kernel
theorem dX9_plain_31 : decode cX9_plain 31 = .ok (.iaload, 1) := by decide +kernel
theorem dX9_plain_32 : decode cX9_plain 32 = .ok (.ifCond .eq 110, 3) := by decide +kernel
theorem dX9_plain_35 : decode cX9_plain 35 = .ok (.iconst 0, 1) := by decide +kernel
theorem dX9_plain_36 : decode cX9_plain 36 = .ok (.istore_n 2, 1) := by decide +kernel
theorem dX9_plain_37 : decode cX9_plain 37 = .ok (.iload_n 2, 1) := by decide +kernel
theorem dX9_plain_38 : decode cX9_plain 38 = .ok (.bipush 27, 2) := by decide +kernel
theorem dX9_plain_40 : decode cX9_plain 40 = .ok (.if_icmp .ge 24, 3) := by decide +kernel
theorem dX9_plain_43 : decode cX9_plain 43 = .ok (.aload_n 0, 1) := by decide +kernel
theorem dX9_plain_44 : decode cX9_plain 44 = .ok (.getfield 20, 3) := by decide +kernel
theorem dX9_plain_47 : decode cX9_plain 47 = .ok (.bipush 27, 2) := by decide +kernel
theorem dX9_plain_49 : decode cX9_plain 49 = .ok (.aload_n 0, 1) := by decide +kernel
theorem dX9_plain_50 : decode cX9_plain 50 = .ok (.getfield 85, 3) := by decide +kernel
theorem dX9_plain_53 : decode cX9_plain 53 = .ok (.imul, 1) := by decide +kernel
theorem dX9_plain_54 : decode cX9_plain 54 = .ok (.iload_n 2, 1) := by decide +kernel
theorem dX9_plain_55 : decode cX9_plain 55 = .ok (.iadd, 1) := by decide +kernel
theorem dX9_plain_56 : decode cX9_plain 56 = .ok (.iconst 0, 1) := by decide +kernel
theorem dX9_plain_57 : decode cX9_plain 57 = .ok (.iastore, 1) := by decide +kernel
theorem dX9_plain_58 : decode cX9_plain 58 = .ok (.iinc 2 1, 3) := by decide +kernel
theorem dX9_plain_61 : decode cX9_plain 61 = .ok (.goto (-24), 3) := by decide +kernel
theorem dX9_plain_64 : decode cX9_plain 64 = .ok (.aload_n 0, 1) := by decide +kernel
theorem dX9_plain_65 : decode cX9_plain 65 = .ok (.getfield 20, 3) := by decide +kernel
theorem dX9_plain_68 : decode cX9_plain 68 = .ok (.bipush 27, 2) := by decide +kernel
theorem dX9_plain_70 : decode cX9_plain 70 = .ok (.aload_n 0, 1) := by decide +kernel
theorem dX9_plain_71 : decode cX9_plain 71 = .ok (.getfield 85, 3) := by decide +kernel
theorem dX9_plain_74 : decode cX9_plain 74 = .ok (.imul, 1) := by decide +kernel
theorem dX9_plain_75 : decode cX9_plain 75 = .ok (.iload_n 1, 1) := by decide +kernel
theorem dX9_plain_76 : decode cX9_plain 76 = .ok (.bipush 81, 2) := by decide +kernel
theorem dX9_plain_78 : decode cX9_plain 78 = .ok (.idiv, 1) := by decide +kernel
theorem dX9_plain_79 : decode cX9_plain 79 = .ok (.iadd, 1) := by decide +kernel
theorem dX9_plain_80 : decode cX9_plain 80 = .ok (.iconst 1, 1) := by decide +kernel
theorem dX9_plain_81 : decode cX9_plain 81 = .ok (.iastore, 1) := by decide +kernel
theorem dX9_plain_82 : decode cX9_plain 82 = .ok (.aload_n 0, 1) := by decide +kernel
theorem dX9_plain_83 : decode cX9_plain 83 = .ok (.getfield 20, 3) := by decide +kernel
theorem dX9_plain_86 : decode cX9_plain 86 = .ok (.bipush 27, 2) := by decide +kernel
theorem dX9_plain_88 : decode cX9_plain 88 = .ok (.aload_n 0, 1) := by decide +kernel
theorem dX9_plain_89 : decode cX9_plain 89 = .ok (.getfield 85, 3) := by decide +kernel
theorem dX9_plain_92 : decode cX9_plain 92 = .ok (.imul, 1) := by decide +kernel
theorem dX9_plain_93 : decode cX9_plain 93 = .ok (.bipush 9, 2) := by decide +kernel
theorem dX9_plain_95 : decode cX9_plain 95 = .ok (.iadd, 1) := by decide +kernel
theorem dX9_plain_96 : decode cX9_plain 96 = .ok (.iload_n 1, 1) := by decide +kernel
theorem dX9_plain_97 : decode cX9_plain 97 = .ok (.bipush 9, 2) := by decide +kernel
theorem dX9_plain_99 : decode cX9_plain 99 = .ok (.idiv, 1) := by decide +kernel
theorem dX9_plain_100 : decode cX9_plain 100 = .ok (.bipush 9, 2) := by decide +kernel
theorem dX9_plain_102 : decode cX9_plain 102 = .ok (.irem, 1) := by decide +kernel
theorem dX9_plain_103 : decode cX9_plain 103 = .ok (.iadd, 1) := by decide +kernel
theorem dX9_plain_104 : decode cX9_plain 104 = .ok (.iconst 1, 1) := by decide +kernel
theorem dX9_plain_105 : decode cX9_plain 105 = .ok (.iastore, 1) := by decide +kernel
theorem dX9_plain_106 : decode cX9_plain 106 = .ok (.aload_n 0, 1) := by decide +kernel
theorem dX9_plain_107 : decode cX9_plain 107 = .ok (.getfield 20, 3) := by decide +kernel
theorem dX9_plain_110 : decode cX9_plain 110 = .ok (.bipush 27, 2) := by decide +kernel
theorem dX9_plain_112 : decode cX9_plain 112 = .ok (.aload_n 0, 1) := by decide +kernel
theorem dX9_plain_113 : decode cX9_plain 113 = .ok (.getfield 85, 3) := by decide +kernel
theorem dX9_plain_116 : decode cX9_plain 116 = .ok (.imul, 1) := by decide +kernel
theorem dX9_plain_117 : decode cX9_plain 117 = .ok (.bipush 18, 2) := by decide +kernel
theorem dX9_plain_119 : decode cX9_plain 119 = .ok (.iadd, 1) := by decide +kernel
theorem dX9_plain_120 : decode cX9_plain 120 = .ok (.iload_n 1, 1) := by decide +kernel
theorem dX9_plain_121 : decode cX9_plain 121 = .ok (.bipush 9, 2) := by decide +kernel
theorem dX9_plain_123 : decode cX9_plain 123 = .ok (.irem, 1) := by decide +kernel
theorem dX9_plain_124 : decode cX9_plain 124 = .ok (.iadd, 1) := by decide +kernel
theorem dX9_plain_125 : decode cX9_plain 125 = .ok (.aload_n 0, 1) := by decide +kernel
theorem dX9_plain_126 : decode cX9_plain 126 = .ok (.getfield 17, 3) := by decide +kernel
theorem dX9_plain_129 : decode cX9_plain 129 = .ok (.iload_n 1, 1) := by decide +kernel
theorem dX9_plain_130 : decode cX9_plain 130 = .ok (.iaload, 1) := by decide +kernel
theorem dX9_plain_131 : decode cX9_plain 131 = .ok (.iastore, 1) := by decide +kernel
theorem dX9_plain_132 : decode cX9_plain 132 = .ok (.aload_n 0, 1) := by decide +kernel
theorem dX9_plain_133 : decode cX9_plain 133 = .ok (.dup, 1) := by decide +kernel
theorem dX9_plain_134 : decode cX9_plain 134 = .ok (.getfield 85, 3) := by decide +kernel
theorem dX9_plain_137 : decode cX9_plain 137 = .ok (.iconst 1, 1) := by decide +kernel
theorem dX9_plain_138 : decode cX9_plain 138 = .ok (.iadd, 1) := by decide +kernel
theorem dX9_plain_139 : decode cX9_plain 139 = .ok (.putfield 85, 3) := by decide +kernel
theorem dX9_plain_142 : decode cX9_plain 142 = .ok (.iinc 1 1, 3) := by decide +kernel
theorem dX9_plain_145 : decode cX9_plain 145 = .ok (.goto (-126), 3) := by decide +kernel
theorem dX9_plain_148 : decode cX9_plain 148 = .ok (.aload_n 0, 1) := by decide +kernel
theorem dX9_plain_149 : decode cX9_plain 149 = .ok (.getfield 85, 3) := by decide +kernel
theorem dX9_plain_152 : decode cX9_plain 152 = .ok (.ireturn, 1) := by decide +kernel
theorem dX9_added_0 : decode cX9_added 0 = .ok (.iconst 0, 1) := by decide +kernel
theorem dX9_added_1 : decode cX9_added 1 = .ok (.istore 4, 2) := by decide +kernel
theorem dX9_added_3 : decode cX9_added 3 = .ok (.iconst 0, 1) := by decide +kernel
theorem dX9_added_4 : decode cX9_added 4 = .ok (.istore 5, 2) := by decide +kernel
theorem dX9_added_6 : decode cX9_added 6 = .ok (.iload 5, 2) := by decide +kernel
theorem dX9_added_8 : decode cX9_added 8 = .ok (.aload_n 0, 1) := by decide +kernel
theorem dX9_added_9 : decode cX9_added 9 = .ok (.getfield 85, 3) := by decide +kernel
theorem dX9_added_12 : decode cX9_added 12 = .ok (.if_icmp .ge 58, 3) := by decide +kernel
theorem dX9_added_15 : decode cX9_added 15 = .ok (.iload 4, 2) := by decide +kernel
theorem dX9_added_17 : decode cX9_added 17 = .ok (.aload_n 0, 1) := by decide +kernel
theorem dX9_added_18 : decode cX9_added 18 = .ok (.getfield 20, 3) := by decide +kernel
theorem dX9_added_21 : decode cX9_added 21 = .ok (.bipush 27, 2) := by decide +kernel
theorem dX9_added_23 : decode cX9_added 23 = .ok (.iload 5, 2) := by decide +kernel
theorem dX9_added_25 : decode cX9_added 25 = .ok (.imul, 1) := by decide +kernel
theorem dX9_added_26 : decode cX9_added 26 = .ok (.iload_n 1, 1) := by decide +kernel
theorem dX9_added_27 : decode cX9_added 27 = .ok (.iadd, 1) := by decide +kernel
theorem dX9_added_28 : decode cX9_added 28 = .ok (.iaload, 1) := by decide +kernel
theorem dX9_added_29 : decode cX9_added 29 = .ok (.aload_n 0, 1) := by decide +kernel
theorem dX9_added_30 : decode cX9_added 30 = .ok (.getfield 20, 3) := by decide +kernel
theorem dX9_added_33 : decode cX9_added 33 = .ok (.bipush 27, 2) := by decide +kernel
theorem dX9_added_35 : decode cX9_added 35 = .ok (.iload 5, 2) := by decide +kernel
theorem dX9_added_37 : decode cX9_added 37 = .ok (.imul, 1) := by decide +kernel
theorem dX9_added_38 : decode cX9_added 38 = .ok (.bipush 9, 2) := by decide +kernel
theorem dX9_added_40 : decode cX9_added 40 = .ok (.iadd, 1) := by decide +kernel
theorem dX9_added_41 : decode cX9_added 41 = .ok (.iload_n 2, 1) := by decide +kernel
theorem dX9_added_42 : decode cX9_added 42 = .ok (.iadd, 1) := by decide +kernel
theorem dX9_added_43 : decode cX9_added 43 = .ok (.iaload, 1) := by decide +kernel
theorem dX9_added_44 : decode cX9_added 44 = .ok (.imul, 1) := by decide +kernel
theorem dX9_added_45 : decode cX9_added 45 = .ok (.aload_n 0, 1) := by decide +kernel
theorem dX9_added_46 : decode cX9_added 46 = .ok (.getfield 20, 3) := by decide +kernel
theorem dX9_added_49 : decode cX9_added 49 = .ok (.bipush 27, 2) := by decide +kernel
theorem dX9_added_51 : decode cX9_added 51 = .ok (.iload 5, 2) := by decide +kernel
theorem dX9_added_53 : decode cX9_added 53 = .ok (.imul, 1) := by decide +kernel
theorem dX9_added_54 : decode cX9_added 54 = .ok (.bipush 18, 2) := by decide +kernel
theorem dX9_added_56 : decode cX9_added 56 = .ok (.iadd, 1) := by decide +kernel
theorem dX9_added_57 : decode cX9_added 57 = .ok (.iload_n 3, 1) := by decide +kernel
theorem dX9_added_58 : decode cX9_added 58 = .ok (.iadd, 1) := by decide +kernel
theorem dX9_added_59 : decode cX9_added 59 = .ok (.iaload, 1) := by decide +kernel
theorem dX9_added_60 : decode cX9_added 60 = .ok (.imul, 1) := by decide +kernel
theorem dX9_added_61 : decode cX9_added 61 = .ok (.iadd, 1) := by decide +kernel
theorem dX9_added_62 : decode cX9_added 62 = .ok (.istore 4, 2) := by decide +kernel
theorem dX9_added_64 : decode cX9_added 64 = .ok (.iinc 5 1, 3) := by decide +kernel
theorem dX9_added_67 : decode cX9_added 67 = .ok (.goto (-61), 3) := by decide +kernel
theorem dX9_added_70 : decode cX9_added 70 = .ok (.iload 4, 2) := by decide +kernel
theorem dX9_added_72 : decode cX9_added 72 = .ok (.aload_n 0, 1) := by decide +kernel
theorem dX9_added_73 : decode cX9_added 73 = .ok (.getfield 7, 3) := by decide +kernel
theorem dX9_added_76 : decode cX9_added 76 = .ok (.irem, 1) := by decide +kernel
theorem dX9_added_77 : decode cX9_added 77 = .ok (.ireturn, 1) := by decide +kernel
theorem dX9_off_0 : decode cX9_off 0 = .ok (.iload_n 1, 1) := by decide +kernel
theorem dX9_off_1 : decode cX9_off 1 = .ok (.istore_n 2, 1) := by decide +kernel
theorem dX9_off_2 : decode cX9_off 2 = .ok (.iconst 0, 1) := by decide +kernel
theorem dX9_off_3 : decode cX9_off 3 = .ok (.istore_n 3, 1) := by decide +kernel
theorem dX9_off_4 : decode cX9_off 4 = .ok (.iload_n 3, 1) := by decide +kernel
theorem dX9_off_5 : decode cX9_off 5 = .ok (.aload_n 0, 1) := by decide +kernel
theorem dX9_off_6 : decode cX9_off 6 = .ok (.getfield 13, 3) := by decide +kernel
theorem dX9_off_9 : decode cX9_off 9 = .ok (.iconst 0, 1) := by decide +kernel
theorem dX9_off_10 : decode cX9_off 10 = .ok (.iaload, 1) := by decide +kernel
theorem dX9_off_11 : decode cX9_off 11 = .ok (.if_icmp .ge 100, 3) := by decide +kernel
theorem dX9_off_14 : decode cX9_off 14 = .ok (.iconst 0, 1) := by decide +kernel
theorem dX9_off_15 : decode cX9_off 15 = .ok (.istore 4, 2) := by decide +kernel
theorem dX9_off_17 : decode cX9_off 17 = .ok (.iload 4, 2) := by decide +kernel
theorem dX9_off_19 : decode cX9_off 19 = .ok (.aload_n 0, 1) := by decide +kernel
theorem dX9_off_20 : decode cX9_off 20 = .ok (.getfield 13, 3) := by decide +kernel
theorem dX9_off_23 : decode cX9_off 23 = .ok (.iconst 1, 1) := by decide +kernel
theorem dX9_off_24 : decode cX9_off 24 = .ok (.iaload, 1) := by decide +kernel
theorem dX9_off_25 : decode cX9_off 25 = .ok (.if_icmp .ge 80, 3) := by decide +kernel
theorem dX9_off_28 : decode cX9_off 28 = .ok (.iconst 0, 1) := by decide +kernel
theorem dX9_off_29 : decode cX9_off 29 = .ok (.istore 5, 2) := by decide +kernel
theorem dX9_off_31 : decode cX9_off 31 = .ok (.iload 5, 2) := by decide +kernel
theorem dX9_off_33 : decode cX9_off 33 = .ok (.aload_n 0, 1) := by decide +kernel
theorem dX9_off_34 : decode cX9_off 34 = .ok (.getfield 13, 3) := by decide +kernel
theorem dX9_off_37 : decode cX9_off 37 = .ok (.iconst 2, 1) := by decide +kernel
theorem dX9_off_38 : decode cX9_off 38 = .ok (.iaload, 1) := by decide +kernel
theorem dX9_off_39 : decode cX9_off 39 = .ok (.if_icmp .ge 60, 3) := by decide +kernel
theorem dX9_off_42 : decode cX9_off 42 = .ok (.aload_n 0, 1) := by decide +kernel
theorem dX9_off_43 : decode cX9_off 43 = .ok (.iload_n 3, 1) := by decide +kernel
theorem dX9_off_44 : decode cX9_off 44 = .ok (.iload 4, 2) := by decide +kernel
theorem dX9_off_46 : decode cX9_off 46 = .ok (.iload 5, 2) := by decide +kernel
theorem dX9_off_48 : decode cX9_off 48 = .ok (.invokevirtual 140, 3) := by decide +kernel
theorem dX9_off_51 : decode cX9_off 51 = .ok (.aload_n 0, 1) := by decide +kernel
theorem dX9_off_52 : decode cX9_off 52 = .ok (.getfield 17, 3) := by decide +kernel
theorem dX9_off_55 : decode cX9_off 55 = .ok (.bipush 81, 2) := by decide +kernel
theorem dX9_off_57 : decode cX9_off 57 = .ok (.iload_n 3, 1) := by decide +kernel
theorem dX9_off_58 : decode cX9_off 58 = .ok (.imul, 1) := by decide +kernel
theorem dX9_off_59 : decode cX9_off 59 = .ok (.bipush 9, 2) := by decide +kernel
theorem dX9_off_61 : decode cX9_off 61 = .ok (.iload 4, 2) := by decide +kernel
theorem dX9_off_63 : decode cX9_off 63 = .ok (.imul, 1) := by decide +kernel
theorem dX9_off_64 : decode cX9_off 64 = .ok (.iadd, 1) := by decide +kernel
theorem dX9_off_65 : decode cX9_off 65 = .ok (.iload 5, 2) := by decide +kernel
theorem dX9_off_67 : decode cX9_off 67 = .ok (.iadd, 1) := by decide +kernel
theorem dX9_off_68 : decode cX9_off 68 = .ok (.iaload, 1) := by decide +kernel
theorem dX9_off_69 : decode cX9_off 69 = .ok (.if_icmp .eq 24, 3) := by decide +kernel
theorem dX9_off_72 : decode cX9_off 72 = .ok (.iload_n 2, 1) := by decide +kernel
theorem dX9_off_73 : decode cX9_off 73 = .ok (.ifCond .ne 17, 3) := by decide +kernel
theorem dX9_off_76 : decode cX9_off 76 = .ok (.bipush 100, 2) := by decide +kernel
theorem dX9_off_78 : decode cX9_off 78 = .ok (.iload_n 3, 1) := by decide +kernel
theorem dX9_off_79 : decode cX9_off 79 = .ok (.imul, 1) := by decide +kernel
theorem dX9_off_80 : decode cX9_off 80 = .ok (.bipush 10, 2) := by decide +kernel
theorem dX9_off_82 : decode cX9_off 82 = .ok (.iload 4, 2) := by decide +kernel
theorem dX9_off_84 : decode cX9_off 84 = .ok (.imul, 1) := by decide +kernel
theorem dX9_off_85 : decode cX9_off 85 = .ok (.iadd, 1) := by decide +kernel
theorem dX9_off_86 : decode cX9_off 86 = .ok (.iload 5, 2) := by decide +kernel
theorem dX9_off_88 : decode cX9_off 88 = .ok (.iadd, 1) := by decide +kernel
theorem dX9_off_89 : decode cX9_off 89 = .ok (.ireturn, 1) := by decide +kernel
theorem dX9_off_90 : decode cX9_off 90 = .ok (.iinc 2 (-1), 3) := by decide +kernel
theorem dX9_off_93 : decode cX9_off 93 = .ok (.iinc 5 1, 3) := by decide +kernel
theorem dX9_off_96 : decode cX9_off 96 = .ok (.goto (-65), 3) := by decide +kernel
theorem dX9_off_99 : decode cX9_off 99 = .ok (.iinc 4 1, 3) := by decide +kernel
theorem dX9_off_102 : decode cX9_off 102 = .ok (.goto (-85), 3) := by decide +kernel
theorem dX9_off_105 : decode cX9_off 105 = .ok (.iinc 3 1, 3) := by decide +kernel
theorem dX9_off_108 : decode cX9_off 108 = .ok (.goto (-104), 3) := by decide +kernel
theorem dX9_off_111 : decode cX9_off 111 = .ok (.iconst (-1), 1) := by decide +kernel
theorem dX9_off_112 : decode cX9_off 112 = .ok (.ireturn, 1) := by decide +kernel
theorem dX9_makes_0 : decode cX9_makes 0 = .ok (.aload_n 0, 1) := by decide +kernel
theorem dX9_makes_1 : decode cX9_makes 1 = .ok (.iconst 0, 1) := by decide +kernel
theorem dX9_makes_2 : decode cX9_makes 2 = .ok (.invokevirtual 144, 3) := by decide +kernel
theorem dX9_makes_5 : decode cX9_makes 5 = .ok (.ifCond .ge 7, 3) := by decide +kernel
theorem dX9_makes_8 : decode cX9_makes 8 = .ok (.iconst 1, 1) := by decide +kernel
theorem dX9_makes_9 : decode cX9_makes 9 = .ok (.goto 4, 3) := by decide +kernel
theorem dX9_makes_12 : decode cX9_makes 12 = .ok (.iconst 0, 1) := by decide +kernel
theorem dX9_makes_13 : decode cX9_makes 13 = .ok (.ireturn, 1) := by decide +kernel
theorem dX9_isNought_0 : decode cX9_isNought 0 = .ok (.iconst 1, 1) := by decide +kernel
theorem dX9_isNought_1 : decode cX9_isNought 1 = .ok (.istore_n 3, 1) := by decide +kernel
theorem dX9_isNought_2 : decode cX9_isNought 2 = .ok (.iconst 0, 1) := by decide +kernel
theorem dX9_isNought_3 : decode cX9_isNought 3 = .ok (.istore 4, 2) := by decide +kernel
theorem dX9_isNought_5 : decode cX9_isNought 5 = .ok (.iload 4, 2) := by decide +kernel
theorem dX9_isNought_7 : decode cX9_isNought 7 = .ok (.bipush 9, 2) := by decide +kernel
theorem dX9_isNought_9 : decode cX9_isNought 9 = .ok (.if_icmp .ge 39, 3) := by decide +kernel
theorem dX9_isNought_12 : decode cX9_isNought 12 = .ok (.iload_n 3, 1) := by decide +kernel
theorem dX9_isNought_13 : decode cX9_isNought 13 = .ok (.ifCond .eq 27, 3) := by decide +kernel
theorem dX9_isNought_16 : decode cX9_isNought 16 = .ok (.aload_n 0, 1) := by decide +kernel
theorem dX9_isNought_17 : decode cX9_isNought 17 = .ok (.getfield 20, 3) := by decide +kernel
theorem dX9_isNought_20 : decode cX9_isNought 20 = .ok (.bipush 27, 2) := by decide +kernel
theorem dX9_isNought_22 : decode cX9_isNought 22 = .ok (.iload_n 1, 1) := by decide +kernel
theorem dX9_isNought_23 : decode cX9_isNought 23 = .ok (.imul, 1) := by decide +kernel
theorem dX9_isNought_24 : decode cX9_isNought 24 = .ok (.bipush 9, 2) := by decide +kernel
theorem dX9_isNought_26 : decode cX9_isNought 26 = .ok (.iload_n 2, 1) := by decide +kernel
theorem dX9_isNought_27 : decode cX9_isNought 27 = .ok (.imul, 1) := by decide +kernel
theorem dX9_isNought_28 : decode cX9_isNought 28 = .ok (.iadd, 1) := by decide +kernel
theorem dX9_isNought_29 : decode cX9_isNought 29 = .ok (.iload 4, 2) := by decide +kernel
theorem dX9_isNought_31 : decode cX9_isNought 31 = .ok (.iadd, 1) := by decide +kernel
theorem dX9_isNought_32 : decode cX9_isNought 32 = .ok (.iaload, 1) := by decide +kernel
theorem dX9_isNought_33 : decode cX9_isNought 33 = .ok (.ifCond .ne 7, 3) := by decide +kernel
theorem dX9_isNought_36 : decode cX9_isNought 36 = .ok (.iconst 1, 1) := by decide +kernel
theorem dX9_isNought_37 : decode cX9_isNought 37 = .ok (.goto 4, 3) := by decide +kernel
theorem dX9_isNought_40 : decode cX9_isNought 40 = .ok (.iconst 0, 1) := by decide +kernel
theorem dX9_isNought_41 : decode cX9_isNought 41 = .ok (.istore_n 3, 1) := by decide +kernel
theorem dX9_isNought_42 : decode cX9_isNought 42 = .ok (.iinc 4 1, 3) := by decide +kernel
theorem dX9_isNought_45 : decode cX9_isNought 45 = .ok (.goto (-40), 3) := by decide +kernel
theorem dX9_isNought_48 : decode cX9_isNought 48 = .ok (.iload_n 3, 1) := by decide +kernel
theorem dX9_isNought_49 : decode cX9_isNought 49 = .ok (.ireturn, 1) := by decide +kernel
theorem dX9_factor_0 : decode cX9_factor 0 = .ok (.bipush 27, 2) := by decide +kernel
theorem dX9_factor_2 : decode cX9_factor 2 = .ok (.iload_n 1, 1) := by decide +kernel
theorem dX9_factor_3 : decode cX9_factor 3 = .ok (.imul, 1) := by decide +kernel
theorem dX9_factor_4 : decode cX9_factor 4 = .ok (.bipush 9, 2) := by decide +kernel
theorem dX9_factor_6 : decode cX9_factor 6 = .ok (.iload_n 3, 1) := by decide +kernel
theorem dX9_factor_7 : decode cX9_factor 7 = .ok (.imul, 1) := by decide +kernel
theorem dX9_factor_8 : decode cX9_factor 8 = .ok (.iadd, 1) := by decide +kernel
theorem dX9_factor_9 : decode cX9_factor 9 = .ok (.istore 4, 2) := by decide +kernel
theorem dX9_factor_11 : decode cX9_factor 11 = .ok (.bipush 27, 2) := by decide +kernel
theorem dX9_factor_13 : decode cX9_factor 13 = .ok (.iload_n 2, 1) := by decide +kernel
theorem dX9_factor_14 : decode cX9_factor 14 = .ok (.imul, 1) := by decide +kernel
theorem dX9_factor_15 : decode cX9_factor 15 = .ok (.bipush 9, 2) := by decide +kernel
theorem dX9_factor_17 : decode cX9_factor 17 = .ok (.iload_n 3, 1) := by decide +kernel
theorem dX9_factor_18 : decode cX9_factor 18 = .ok (.imul, 1) := by decide +kernel
theorem dX9_factor_19 : decode cX9_factor 19 = .ok (.iadd, 1) := by decide +kernel
theorem dX9_factor_20 : decode cX9_factor 20 = .ok (.istore 5, 2) := by decide +kernel
theorem dX9_factor_22 : decode cX9_factor 22 = .ok (.iconst 0, 1) := by decide +kernel
theorem dX9_factor_23 : decode cX9_factor 23 = .ok (.istore 6, 2) := by decide +kernel
theorem dX9_factor_25 : decode cX9_factor 25 = .ok (.iload 6, 2) := by decide +kernel
theorem dX9_factor_27 : decode cX9_factor 27 = .ok (.bipush 9, 2) := by decide +kernel
theorem dX9_factor_29 : decode cX9_factor 29 = .ok (.if_icmp .ge 22, 3) := by decide +kernel
theorem dX9_factor_32 : decode cX9_factor 32 = .ok (.aload_n 0, 1) := by decide +kernel
theorem dX9_factor_33 : decode cX9_factor 33 = .ok (.getfield 20, 3) := by decide +kernel
theorem dX9_factor_36 : decode cX9_factor 36 = .ok (.iload 4, 2) := by decide +kernel
theorem dX9_factor_38 : decode cX9_factor 38 = .ok (.iload 6, 2) := by decide +kernel
theorem dX9_factor_40 : decode cX9_factor 40 = .ok (.iadd, 1) := by decide +kernel
theorem dX9_factor_41 : decode cX9_factor 41 = .ok (.iaload, 1) := by decide +kernel
theorem dX9_factor_42 : decode cX9_factor 42 = .ok (.ifCond .ne 9, 3) := by decide +kernel
theorem dX9_factor_45 : decode cX9_factor 45 = .ok (.iinc 6 1, 3) := by decide +kernel
theorem dX9_factor_48 : decode cX9_factor 48 = .ok (.goto (-23), 3) := by decide +kernel
theorem dX9_factor_51 : decode cX9_factor 51 = .ok (.iload 6, 2) := by decide +kernel
theorem dX9_factor_53 : decode cX9_factor 53 = .ok (.bipush 9, 2) := by decide +kernel
theorem dX9_factor_55 : decode cX9_factor 55 = .ok (.if_icmp .ne 7, 3) := by decide +kernel
theorem dX9_factor_58 : decode cX9_factor 58 = .ok (.iconst 0, 1) := by decide +kernel
theorem dX9_factor_59 : decode cX9_factor 59 = .ok (.goto 33, 3) := by decide +kernel
theorem dX9_factor_62 : decode cX9_factor 62 = .ok (.aload_n 0, 1) := by decide +kernel
theorem dX9_factor_63 : decode cX9_factor 63 = .ok (.getfield 20, 3) := by decide +kernel
theorem dX9_factor_66 : decode cX9_factor 66 = .ok (.iload 5, 2) := by decide +kernel
theorem dX9_factor_68 : decode cX9_factor 68 = .ok (.iload 6, 2) := by decide +kernel
theorem dX9_factor_70 : decode cX9_factor 70 = .ok (.iadd, 1) := by decide +kernel
theorem dX9_factor_71 : decode cX9_factor 71 = .ok (.iaload, 1) := by decide +kernel
theorem dX9_factor_72 : decode cX9_factor 72 = .ok (.aload_n 0, 1) := by decide +kernel
theorem dX9_factor_73 : decode cX9_factor 73 = .ok (.aload_n 0, 1) := by decide +kernel
theorem dX9_factor_74 : decode cX9_factor 74 = .ok (.getfield 20, 3) := by decide +kernel
theorem dX9_factor_77 : decode cX9_factor 77 = .ok (.iload 4, 2) := by decide +kernel
theorem dX9_factor_79 : decode cX9_factor 79 = .ok (.iload 6, 2) := by decide +kernel
theorem dX9_factor_81 : decode cX9_factor 81 = .ok (.iadd, 1) := by decide +kernel
theorem dX9_factor_82 : decode cX9_factor 82 = .ok (.iaload, 1) := by decide +kernel
theorem dX9_factor_83 : decode cX9_factor 83 = .ok (.invokevirtual 147, 3) := by decide +kernel
theorem dX9_factor_86 : decode cX9_factor 86 = .ok (.imul, 1) := by decide +kernel
theorem dX9_factor_87 : decode cX9_factor 87 = .ok (.aload_n 0, 1) := by decide +kernel
theorem dX9_factor_88 : decode cX9_factor 88 = .ok (.getfield 7, 3) := by decide +kernel
theorem dX9_factor_91 : decode cX9_factor 91 = .ok (.irem, 1) := by decide +kernel
theorem dX9_factor_92 : decode cX9_factor 92 = .ok (.istore 7, 2) := by decide +kernel
theorem dX9_factor_94 : decode cX9_factor 94 = .ok (.iload 7, 2) := by decide +kernel
theorem dX9_factor_96 : decode cX9_factor 96 = .ok (.ifCond .le 7, 3) := by decide +kernel
theorem dX9_factor_99 : decode cX9_factor 99 = .ok (.iconst 1, 1) := by decide +kernel
theorem dX9_factor_100 : decode cX9_factor 100 = .ok (.goto 4, 3) := by decide +kernel
theorem dX9_factor_103 : decode cX9_factor 103 = .ok (.iconst 0, 1) := by decide +kernel
theorem dX9_factor_104 : decode cX9_factor 104 = .ok (.istore 8, 2) := by decide +kernel
theorem dX9_factor_106 : decode cX9_factor 106 = .ok (.iconst 0, 1) := by decide +kernel
theorem dX9_factor_107 : decode cX9_factor 107 = .ok (.istore 9, 2) := by decide +kernel
theorem dX9_factor_109 : decode cX9_factor 109 = .ok (.iload 9, 2) := by decide +kernel
theorem dX9_factor_111 : decode cX9_factor 111 = .ok (.bipush 9, 2) := by decide +kernel
