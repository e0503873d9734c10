theorem dX8_init_0 : decode cX8_init 0 = .ok (.aload_n 0, 1) := by decide +kernel
theorem dX8_init_1 : decode cX8_init 1 = .ok (.invokespecial 3, 3) := by decide +kernel
theorem dX8_init_4 : decode cX8_init 4 = .ok (.aload_n 0, 1) := by decide +kernel
theorem dX8_init_5 : decode cX8_init 5 = .ok (.new 9, 3) := by decide +kernel
theorem dX8_init_8 : decode cX8_init 8 = .ok (.dup, 1) := by decide +kernel
theorem dX8_init_9 : decode cX8_init 9 = .ok (.invokespecial 11, 3) := by decide +kernel
theorem dX8_init_12 : decode cX8_init 12 = .ok (.putfield 12, 3) := by decide +kernel
theorem dX8_init_15 : decode cX8_init 15 = .ok (.aload_n 0, 1) := by decide +kernel
theorem dX8_init_16 : decode cX8_init 16 = .ok (.new 16, 3) := by decide +kernel
theorem dX8_init_19 : decode cX8_init 19 = .ok (.dup, 1) := by decide +kernel
theorem dX8_init_20 : decode cX8_init 20 = .ok (.aload_n 0, 1) := by decide +kernel
theorem dX8_init_21 : decode cX8_init 21 = .ok (.getfield 12, 3) := by decide +kernel
theorem dX8_init_24 : decode cX8_init 24 = .ok (.invokespecial 18, 3) := by decide +kernel
theorem dX8_init_27 : decode cX8_init 27 = .ok (.putfield 21, 3) := by decide +kernel
theorem dX8_init_30 : decode cX8_init 30 = .ok (.aload_n 0, 1) := by decide +kernel
theorem dX8_init_31 : decode cX8_init 31 = .ok (.new 16, 3) := by decide +kernel
theorem dX8_init_34 : decode cX8_init 34 = .ok (.dup, 1) := by decide +kernel
theorem dX8_init_35 : decode cX8_init 35 = .ok (.aload_n 0, 1) := by decide +kernel
theorem dX8_init_36 : decode cX8_init 36 = .ok (.getfield 12, 3) := by decide +kernel
theorem dX8_init_39 : decode cX8_init 39 = .ok (.invokespecial 18, 3) := by decide +kernel
theorem dX8_init_42 : decode cX8_init 42 = .ok (.putfield 25, 3) := by decide +kernel
theorem dX8_init_45 : decode cX8_init 45 = .ok (.aload_n 0, 1) := by decide +kernel
theorem dX8_init_46 : decode cX8_init 46 = .ok (.iconst 4, 1) := by decide +kernel
theorem dX8_init_47 : decode cX8_init 47 = .ok (.anewarray 16, 3) := by decide +kernel
theorem dX8_init_50 : decode cX8_init 50 = .ok (.putfield 28, 3) := by decide +kernel
theorem dX8_init_53 : decode cX8_init 53 = .ok (.iconst 0, 1) := by decide +kernel
theorem dX8_init_54 : decode cX8_init 54 = .ok (.istore_n 1, 1) := by decide +kernel
theorem dX8_init_55 : decode cX8_init 55 = .ok (.iload_n 1, 1) := by decide +kernel
theorem dX8_init_56 : decode cX8_init 56 = .ok (.iconst 4, 1) := by decide +kernel
theorem dX8_init_57 : decode cX8_init 57 = .ok (.if_icmp .ge 26, 3) := by decide +kernel
theorem dX8_init_60 : decode cX8_init 60 = .ok (.aload_n 0, 1) := by decide +kernel
theorem dX8_init_61 : decode cX8_init 61 = .ok (.getfield 28, 3) := by decide +kernel
theorem dX8_init_64 : decode cX8_init 64 = .ok (.iload_n 1, 1) := by decide +kernel
theorem dX8_init_65 : decode cX8_init 65 = .ok (.new 16, 3) := by decide +kernel
theorem dX8_init_68 : decode cX8_init 68 = .ok (.dup, 1) := by decide +kernel
theorem dX8_init_69 : decode cX8_init 69 = .ok (.aload_n 0, 1) := by decide +kernel
theorem dX8_init_70 : decode cX8_init 70 = .ok (.getfield 12, 3) := by decide +kernel
theorem dX8_init_73 : decode cX8_init 73 = .ok (.invokespecial 18, 3) := by decide +kernel
theorem dX8_init_76 : decode cX8_init 76 = .ok (.aastore, 1) := by decide +kernel
theorem dX8_init_77 : decode cX8_init 77 = .ok (.iinc 1 1, 3) := by decide +kernel
theorem dX8_init_80 : decode cX8_init 80 = .ok (.goto (-25), 3) := by decide +kernel
theorem dX8_init_83 : decode cX8_init 83 = .ok (.aload_n 0, 1) := by decide +kernel
theorem dX8_init_84 : decode cX8_init 84 = .ok (.iconst 4, 1) := by decide +kernel
theorem dX8_init_85 : decode cX8_init 85 = .ok (.newarray .boolean, 2) := by decide +kernel
theorem dX8_init_87 : decode cX8_init 87 = .ok (.putfield 32, 3) := by decide +kernel
theorem dX8_init_90 : decode cX8_init 90 = .ok (.aload_n 0, 1) := by decide +kernel
theorem dX8_init_91 : decode cX8_init 91 = .ok (.iconst 2, 1) := by decide +kernel
theorem dX8_init_92 : decode cX8_init 92 = .ok (.newarray .int, 2) := by decide +kernel
theorem dX8_init_94 : decode cX8_init 94 = .ok (.putfield 36, 3) := by decide +kernel
theorem dX8_init_97 : decode cX8_init 97 = .ok (.aload_n 0, 1) := by decide +kernel
theorem dX8_init_98 : decode cX8_init 98 = .ok (.new 40, 3) := by decide +kernel
theorem dX8_init_101 : decode cX8_init 101 = .ok (.dup, 1) := by decide +kernel
theorem dX8_init_102 : decode cX8_init 102 = .ok (.aload_n 0, 1) := by decide +kernel
theorem dX8_init_103 : decode cX8_init 103 = .ok (.getfield 12, 3) := by decide +kernel
theorem dX8_init_106 : decode cX8_init 106 = .ok (.invokespecial 42, 3) := by decide +kernel
theorem dX8_init_109 : decode cX8_init 109 = .ok (.putfield 43, 3) := by decide +kernel
theorem dX8_init_112 : decode cX8_init 112 = .ok (.aload_n 0, 1) := by decide +kernel
theorem dX8_init_113 : decode cX8_init 113 = .ok (.new 47, 3) := by decide +kernel
theorem dX8_init_116 : decode cX8_init 116 = .ok (.dup, 1) := by decide +kernel
theorem dX8_init_117 : decode cX8_init 117 = .ok (.aload_n 0, 1) := by decide +kernel
theorem dX8_init_118 : decode cX8_init 118 = .ok (.getfield 12, 3) := by decide +kernel
theorem dX8_init_121 : decode cX8_init 121 = .ok (.invokespecial 49, 3) := by decide +kernel
theorem dX8_init_124 : decode cX8_init 124 = .ok (.putfield 50, 3) := by decide +kernel
theorem dX8_init_127 : decode cX8_init 127 = .ok (.aload_n 0, 1) := by decide +kernel
theorem dX8_init_128 : decode cX8_init 128 = .ok (.new 54, 3) := by decide +kernel
theorem dX8_init_131 : decode cX8_init 131 = .ok (.dup, 1) := by decide +kernel
theorem dX8_init_132 : decode cX8_init 132 = .ok (.aload_n 0, 1) := by decide +kernel
theorem dX8_init_133 : decode cX8_init 133 = .ok (.getfield 12, 3) := by decide +kernel
theorem dX8_init_136 : decode cX8_init 136 = .ok (.invokespecial 56, 3) := by decide +kernel
theorem dX8_init_139 : decode cX8_init 139 = .ok (.putfield 57, 3) := by decide +kernel
theorem dX8_init_142 : decode cX8_init 142 = .ok (.aload_n 0, 1) := by decide +kernel
theorem dX8_init_143 : decode cX8_init 143 = .ok (.new 61, 3) := by decide +kernel
theorem dX8_init_146 : decode cX8_init 146 = .ok (.dup, 1) := by decide +kernel
theorem dX8_init_147 : decode cX8_init 147 = .ok (.aload_n 0, 1) := by decide +kernel
theorem dX8_init_148 : decode cX8_init 148 = .ok (.getfield 12, 3) := by decide +kernel
theorem dX8_init_151 : decode cX8_init 151 = .ok (.invokespecial 63, 3) := by decide +kernel
theorem dX8_init_154 : decode cX8_init 154 = .ok (.putfield 64, 3) := by decide +kernel
theorem dX8_init_157 : decode cX8_init 157 = .ok (.aload_n 0, 1) := by decide +kernel
theorem dX8_init_158 : decode cX8_init 158 = .ok (.new 68, 3) := by decide +kernel
theorem dX8_init_161 : decode cX8_init 161 = .ok (.dup, 1) := by decide +kernel
theorem dX8_init_162 : decode cX8_init 162 = .ok (.aload_n 0, 1) := by decide +kernel
theorem dX8_init_163 : decode cX8_init 163 = .ok (.getfield 12, 3) := by decide +kernel
theorem dX8_init_166 : decode cX8_init 166 = .ok (.invokespecial 70, 3) := by decide +kernel
theorem dX8_init_169 : decode cX8_init 169 = .ok (.putfield 71, 3) := by decide +kernel
theorem dX8_init_172 : decode cX8_init 172 = .ok (.aload_n 0, 1) := by decide +kernel
theorem dX8_init_173 : decode cX8_init 173 = .ok (.new 75, 3) := by decide +kernel
theorem dX8_init_176 : decode cX8_init 176 = .ok (.dup, 1) := by decide +kernel
theorem dX8_init_177 : decode cX8_init 177 = .ok (.aload_n 0, 1) := by decide +kernel
theorem dX8_init_178 : decode cX8_init 178 = .ok (.getfield 12, 3) := by decide +kernel
theorem dX8_init_181 : decode cX8_init 181 = .ok (.invokespecial 77, 3) := by decide +kernel
theorem dX8_init_184 : decode cX8_init 184 = .ok (.putfield 78, 3) := by decide +kernel
theorem dX8_init_187 : decode cX8_init 187 = .ok (.return_, 1) := by decide +kernel
theorem dX8_ground_0 : decode cX8_ground 0 = .ok (.iload_n 1, 1) := by decide +kernel
theorem dX8_ground_1 : decode cX8_ground 1 = .ok (.invokestatic 82, 3) := by decide +kernel
theorem dX8_ground_4 : decode cX8_ground 4 = .ok (.ifCond .ne 5, 3) := by decide +kernel
theorem dX8_ground_7 : decode cX8_ground 7 = .ok (.iconst (-1), 1) := by decide +kernel
theorem dX8_ground_8 : decode cX8_ground 8 = .ok (.ireturn, 1) := by decide +kernel
theorem dX8_ground_9 : decode cX8_ground 9 = .ok (.aload_n 0, 1) := by decide +kernel
theorem dX8_ground_10 : decode cX8_ground 10 = .ok (.getfield 12, 3) := by decide +kernel
theorem dX8_ground_13 : decode cX8_ground 13 = .ok (.iload_n 1, 1) := by decide +kernel
theorem dX8_ground_14 : decode cX8_ground 14 = .ok (.invokevirtual 86, 3) := by decide +kernel
theorem dX8_ground_17 : decode cX8_ground 17 = .ok (.iconst 0, 1) := by decide +kernel
theorem dX8_ground_18 : decode cX8_ground 18 = .ok (.istore_n 2, 1) := by decide +kernel
theorem dX8_ground_19 : decode cX8_ground 19 = .ok (.iload_n 2, 1) := by decide +kernel
theorem dX8_ground_20 : decode cX8_ground 20 = .ok (.iconst 4, 1) := by decide +kernel
theorem dX8_ground_21 : decode cX8_ground 21 = .ok (.if_icmp .ge 16, 3) := by decide +kernel
theorem dX8_ground_24 : decode cX8_ground 24 = .ok (.aload_n 0, 1) := by decide +kernel
theorem dX8_ground_25 : decode cX8_ground 25 = .ok (.getfield 32, 3) := by decide +kernel
theorem dX8_ground_28 : decode cX8_ground 28 = .ok (.iload_n 2, 1) := by decide +kernel
theorem dX8_ground_29 : decode cX8_ground 29 = .ok (.iconst 0, 1) := by decide +kernel
theorem dX8_ground_30 : decode cX8_ground 30 = .ok (.bastore, 1) := by decide +kernel
theorem dX8_ground_31 : decode cX8_ground 31 = .ok (.iinc 2 1, 3) := by decide +kernel
theorem dX8_ground_34 : decode cX8_ground 34 = .ok (.goto (-15), 3) := by decide +kernel
theorem dX8_ground_37 : decode cX8_ground 37 = .ok (.aload_n 0, 1) := by decide +kernel
theorem dX8_ground_38 : decode cX8_ground 38 = .ok (.iconst 1, 1) := by decide +kernel
theorem dX8_ground_39 : decode cX8_ground 39 = .ok (.iconst 1, 1) := by decide +kernel
theorem dX8_ground_40 : decode cX8_ground 40 = .ok (.iconst 1, 1) := by decide +kernel
theorem dX8_ground_41 : decode cX8_ground 41 = .ok (.invokevirtual 90, 3) := by decide +kernel
theorem dX8_ground_44 : decode cX8_ground 44 = .ok (.iconst 1, 1) := by decide +kernel
theorem dX8_ground_45 : decode cX8_ground 45 = .ok (.ireturn, 1) := by decide +kernel
theorem dX8_box_0 : decode cX8_box 0 = .ok (.iload_n 1, 1) := by decide +kernel
theorem dX8_box_1 : decode cX8_box 1 = .ok (.invokestatic 94, 3) := by decide +kernel
theorem dX8_box_4 : decode cX8_box 4 = .ok (.ifCond .eq 17, 3) := by decide +kernel
theorem dX8_box_7 : decode cX8_box 7 = .ok (.iload_n 2, 1) := by decide +kernel
theorem dX8_box_8 : decode cX8_box 8 = .ok (.invokestatic 94, 3) := by decide +kernel
theorem dX8_box_11 : decode cX8_box 11 = .ok (.ifCond .eq 10, 3) := by decide +kernel
theorem dX8_box_14 : decode cX8_box 14 = .ok (.iload_n 3, 1) := by decide +kernel
theorem dX8_box_15 : decode cX8_box 15 = .ok (.invokestatic 94, 3) := by decide +kernel
theorem dX8_box_18 : decode cX8_box 18 = .ok (.ifCond .ne 5, 3) := by decide +kernel
theorem dX8_box_21 : decode cX8_box 21 = .ok (.iconst (-1), 1) := by decide +kernel
theorem dX8_box_22 : decode cX8_box 22 = .ok (.ireturn, 1) := by decide +kernel
theorem dX8_box_23 : decode cX8_box 23 = .ok (.aload_n 0, 1) := by decide +kernel
theorem dX8_box_24 : decode cX8_box 24 = .ok (.iload_n 1, 1) := by decide +kernel
theorem dX8_box_25 : decode cX8_box 25 = .ok (.iload_n 2, 1) := by decide +kernel
theorem dX8_box_26 : decode cX8_box 26 = .ok (.iload_n 3, 1) := by decide +kernel
theorem dX8_box_27 : decode cX8_box 27 = .ok (.invokevirtual 90, 3) := by decide +kernel
theorem dX8_box_30 : decode cX8_box 30 = .ok (.iconst 1, 1) := by decide +kernel
theorem dX8_box_31 : decode cX8_box 31 = .ok (.ireturn, 1) := by decide +kernel
theorem dX8_tables_0 : decode cX8_tables 0 = .ok (.iload_n 1, 1) := by decide +kernel
theorem dX8_tables_1 : decode cX8_tables 1 = .ok (.invokestatic 94, 3) := by decide +kernel
theorem dX8_tables_4 : decode cX8_tables 4 = .ok (.ifCond .eq 17, 3) := by decide +kernel
theorem dX8_tables_7 : decode cX8_tables 7 = .ok (.iload_n 2, 1) := by decide +kernel
theorem dX8_tables_8 : decode cX8_tables 8 = .ok (.invokestatic 94, 3) := by decide +kernel
theorem dX8_tables_11 : decode cX8_tables 11 = .ok (.ifCond .eq 10, 3) := by decide +kernel
theorem dX8_tables_14 : decode cX8_tables 14 = .ok (.iload_n 3, 1) := by decide +kernel
theorem dX8_tables_15 : decode cX8_tables 15 = .ok (.invokestatic 94, 3) := by decide +kernel
theorem dX8_tables_18 : decode cX8_tables 18 = .ok (.ifCond .ne 5, 3) := by decide +kernel
theorem dX8_tables_21 : decode cX8_tables 21 = .ok (.iconst (-1), 1) := by decide +kernel
theorem dX8_tables_22 : decode cX8_tables 22 = .ok (.ireturn, 1) := by decide +kernel
theorem dX8_tables_23 : decode cX8_tables 23 = .ok (.iload_n 1, 1) := by decide +kernel
theorem dX8_tables_24 : decode cX8_tables 24 = .ok (.iload_n 2, 1) := by decide +kernel
theorem dX8_tables_25 : decode cX8_tables 25 = .ok (.imul, 1) := by decide +kernel
theorem dX8_tables_26 : decode cX8_tables 26 = .ok (.bipush 9, 2) := by decide +kernel
theorem dX8_tables_28 : decode cX8_tables 28 = .ok (.if_icmp .gt 19, 3) := by decide +kernel
theorem dX8_tables_31 : decode cX8_tables 31 = .ok (.iload_n 2, 1) := by decide +kernel
theorem dX8_tables_32 : decode cX8_tables 32 = .ok (.iload_n 3, 1) := by decide +kernel
theorem dX8_tables_33 : decode cX8_tables 33 = .ok (.imul, 1) := by decide +kernel
theorem dX8_tables_34 : decode cX8_tables 34 = .ok (.bipush 9, 2) := by decide +kernel
theorem dX8_tables_36 : decode cX8_tables 36 = .ok (.if_icmp .gt 11, 3) := by decide +kernel
theorem dX8_tables_39 : decode cX8_tables 39 = .ok (.iload_n 1, 1) := by decide +kernel
theorem dX8_tables_40 : decode cX8_tables 40 = .ok (.iload_n 3, 1) := by decide +kernel
theorem dX8_tables_41 : decode cX8_tables 41 = .ok (.imul, 1) := by decide +kernel
theorem dX8_tables_42 : decode cX8_tables 42 = .ok (.bipush 9, 2) := by decide +kernel
theorem dX8_tables_44 : decode cX8_tables 44 = .ok (.if_icmp .le 6, 3) := by decide +kernel
theorem dX8_tables_47 : decode cX8_tables 47 = .ok (.bipush (-3), 2) := by decide +kernel
theorem dX8_tables_49 : decode cX8_tables 49 = .ok (.ireturn, 1) := by decide +kernel
theorem dX8_tables_50 : decode cX8_tables 50 = .ok (.aload_n 0, 1) := by decide +kernel
theorem dX8_tables_51 : decode cX8_tables 51 = .ok (.iload_n 1, 1) := by decide +kernel
theorem dX8_tables_52 : decode cX8_tables 52 = .ok (.iload_n 2, 1) := by decide +kernel
theorem dX8_tables_53 : decode cX8_tables 53 = .ok (.imul, 1) := by decide +kernel
theorem dX8_tables_54 : decode cX8_tables 54 = .ok (.iload_n 2, 1) := by decide +kernel
theorem dX8_tables_55 : decode cX8_tables 55 = .ok (.iload_n 3, 1) := by decide +kernel
theorem dX8_tables_56 : decode cX8_tables 56 = .ok (.imul, 1) := by decide +kernel
theorem dX8_tables_57 : decode cX8_tables 57 = .ok (.iload_n 1, 1) := by decide +kernel
theorem dX8_tables_58 : decode cX8_tables 58 = .ok (.iload_n 3, 1) := by decide +kernel
theorem dX8_tables_59 : decode cX8_tables 59 = .ok (.imul, 1) := by decide +kernel
theorem dX8_tables_60 : decode cX8_tables 60 = .ok (.invokevirtual 90, 3) := by decide +kernel
theorem dX8_tables_63 : decode cX8_tables 63 = .ok (.iconst 0, 1) := by decide +kernel
theorem dX8_tables_64 : decode cX8_tables 64 = .ok (.istore 4, 2) := by decide +kernel
theorem dX8_tables_66 : decode cX8_tables 66 = .ok (.iload 4, 2) := by decide +kernel
theorem dX8_tables_68 : decode cX8_tables 68 = .ok (.iload_n 1, 1) := by decide +kernel
theorem dX8_tables_69 : decode cX8_tables 69 = .ok (.if_icmp .ge 68, 3) := by decide +kernel
theorem dX8_tables_72 : decode cX8_tables 72 = .ok (.iconst 0, 1) := by decide +kernel
theorem dX8_tables_73 : decode cX8_tables 73 = .ok (.istore 5, 2) := by decide +kernel
theorem dX8_tables_75 : decode cX8_tables 75 = .ok (.iload 5, 2) := by decide +kernel
theorem dX8_tables_77 : decode cX8_tables 77 = .ok (.iload_n 2, 1) := by decide +kernel
theorem dX8_tables_78 : decode cX8_tables 78 = .ok (.if_icmp .ge 53, 3) := by decide +kernel
theorem dX8_tables_81 : decode cX8_tables 81 = .ok (.iconst 0, 1) := by decide +kernel
theorem dX8_tables_82 : decode cX8_tables 82 = .ok (.istore 6, 2) := by decide +kernel
theorem dX8_tables_84 : decode cX8_tables 84 = .ok (.iload 6, 2) := by decide +kernel
theorem dX8_tables_86 : decode cX8_tables 86 = .ok (.iload_n 3, 1) := by decide +kernel
theorem dX8_tables_87 : decode cX8_tables 87 = .ok (.if_icmp .ge 38, 3) := by decide +kernel
theorem dX8_tables_90 : decode cX8_tables 90 = .ok (.aload_n 0, 1) := by decide +kernel
theorem dX8_tables_91 : decode cX8_tables 91 = .ok (.getfield 21, 3) := by decide +kernel
theorem dX8_tables_94 : decode cX8_tables 94 = .ok (.iload_n 2, 1) := by decide +kernel
theorem dX8_tables_95 : decode cX8_tables 95 = .ok (.iload 4, 2) := by decide +kernel
theorem dX8_tables_97 : decode cX8_tables 97 = .ok (.imul, 1) := by decide +kernel
theorem dX8_tables_98 : decode cX8_tables 98 = .ok (.iload 5, 2) := by decide +kernel
theorem dX8_tables_100 : decode cX8_tables 100 = .ok (.iadd, 1) := by decide +kernel
theorem dX8_tables_101 : decode cX8_tables 101 = .ok (.iload_n 3, 1) := by decide +kernel
theorem dX8_tables_102 : decode cX8_tables 102 = .ok (.iload 5, 2) := by decide +kernel
theorem dX8_tables_104 : decode cX8_tables 104 = .ok (.imul, 1) := by decide +kernel
theorem dX8_tables_105 : decode cX8_tables 105 = .ok (.iload 6, 2) := by decide +kernel
theorem dX8_tables_107 : decode cX8_tables 107 = .ok (.iadd, 1) := by decide +kernel
theorem dX8_tables_108 : decode cX8_tables 108 = .ok (.iload_n 3, 1) := by decide +kernel
theorem dX8_tables_109 : decode cX8_tables 109 = .ok (.iload 4, 2) := by decide +kernel
theorem dX8_tables_111 : decode cX8_tables 111 = .ok (.imul, 1) := by decide +kernel
theorem dX8_tables_112 : decode cX8_tables 112 = .ok (.iload 6, 2) := by decide +kernel
theorem dX8_tables_114 : decode cX8_tables 114 = .ok (.iadd, 1) := by decide +kernel
theorem dX8_tables_115 : decode cX8_tables 115 = .ok (.iconst 1, 1) := by decide +kernel
theorem dX8_tables_116 : decode cX8_tables 116 = .ok (.invokevirtual 97, 3) := by decide +kernel
theorem dX8_tables_119 : decode cX8_tables 119 = .ok (.iinc 6 1, 3) := by decide +kernel
theorem dX8_tables_122 : decode cX8_tables 122 = .ok (.goto (-38), 3) := by decide +kernel
theorem dX8_tables_125 : decode cX8_tables 125 = .ok (.iinc 5 1, 3) := by decide +kernel
theorem dX8_tables_128 : decode cX8_tables 128 = .ok (.goto (-53), 3) := by decide +kernel
theorem dX8_tables_131 : decode cX8_tables 131 = .ok (.iinc 4 1, 3) := by decide +kernel
theorem dX8_tables_134 : decode cX8_tables 134 = .ok (.goto (-68), 3) := by decide +kernel
theorem dX8_tables_137 : decode cX8_tables 137 = .ok (.iconst 1, 1) := by decide +kernel
theorem dX8_tables_138 : decode cX8_tables 138 = .ok (.ireturn, 1) := by decide +kernel
theorem dX8_rows_0 : decode cX8_rows 0 = .ok (.iload_n 1, 1) := by decide +kernel
theorem dX8_rows_1 : decode cX8_rows 1 = .ok (.invokestatic 94, 3) := by decide +kernel
theorem dX8_rows_4 : decode cX8_rows 4 = .ok (.ifCond .eq 20, 3) := by decide +kernel
theorem dX8_rows_7 : decode cX8_rows 7 = .ok (.iload_n 2, 1) := by decide +kernel
theorem dX8_rows_8 : decode cX8_rows 8 = .ok (.invokestatic 94, 3) := by decide +kernel
theorem dX8_rows_11 : decode cX8_rows 11 = .ok (.ifCond .eq 13, 3) := by decide +kernel
theorem dX8_rows_14 : decode cX8_rows 14 = .ok (.iload_n 3, 1) := by decide +kernel
theorem dX8_rows_15 : decode cX8_rows 15 = .ok (.ifCond .lt 9, 3) := by decide +kernel
theorem dX8_rows_18 : decode cX8_rows 18 = .ok (.iload_n 3, 1) := by decide +kernel
theorem dX8_rows_19 : decode cX8_rows 19 = .ok (.bipush 9, 2) := by decide +kernel
theorem dX8_rows_21 : decode cX8_rows 21 = .ok (.if_icmp .le 5, 3) := by decide +kernel
theorem dX8_rows_24 : decode cX8_rows 24 = .ok (.iconst (-1), 1) := by decide +kernel
theorem dX8_rows_25 : decode cX8_rows 25 = .ok (.ireturn, 1) := by decide +kernel
theorem dX8_rows_26 : decode cX8_rows 26 = .ok (.iload_n 3, 1) := by decide +kernel
theorem dX8_rows_27 : decode cX8_rows 27 = .ok (.ifCond .ne 11, 3) := by decide +kernel
theorem dX8_rows_30 : decode cX8_rows 30 = .ok (.iload_n 1, 1) := by decide +kernel
theorem dX8_rows_31 : decode cX8_rows 31 = .ok (.iload_n 2, 1) := by decide +kernel
theorem dX8_rows_32 : decode cX8_rows 32 = .ok (.iadd, 1) := by decide +kernel
theorem dX8_rows_33 : decode cX8_rows 33 = .ok (.iconst 1, 1) := by decide +kernel
theorem dX8_rows_34 : decode cX8_rows 34 = .ok (.isub, 1) := by decide +kernel
theorem dX8_rows_35 : decode cX8_rows 35 = .ok (.goto 4, 3) := by decide +kernel
theorem dX8_rows_38 : decode cX8_rows 38 = .ok (.iload_n 3, 1) := by decide +kernel
theorem dX8_rows_39 : decode cX8_rows 39 = .ok (.istore 4, 2) := by decide +kernel
theorem dX8_rows_41 : decode cX8_rows 41 = .ok (.iload 4, 2) := by decide +kernel
theorem dX8_rows_43 : decode cX8_rows 43 = .ok (.bipush 9, 2) := by decide +kernel
theorem dX8_rows_45 : decode cX8_rows 45 = .ok (.if_icmp .le 6, 3) := by decide +kernel
theorem dX8_rows_48 : decode cX8_rows 48 = .ok (.bipush (-3), 2) := by decide +kernel
theorem dX8_rows_50 : decode cX8_rows 50 = .ok (.ireturn, 1) := by decide +kernel
theorem dX8_rows_51 : decode cX8_rows 51 = .ok (.aload_n 0, 1) := by decide +kernel
theorem dX8_rows_52 : decode cX8_rows 52 = .ok (.iload_n 1, 1) := by decide +kernel
theorem dX8_rows_53 : decode cX8_rows 53 = .ok (.iload_n 2, 1) := by decide +kernel
theorem dX8_rows_54 : decode cX8_rows 54 = .ok (.iload 4, 2) := by decide +kernel
theorem dX8_rows_56 : decode cX8_rows 56 = .ok (.invokevirtual 90, 3) := by decide +kernel
theorem dX8_rows_59 : decode cX8_rows 59 = .ok (.iconst 0, 1) := by decide +kernel
theorem dX8_rows_60 : decode cX8_rows 60 = .ok (.istore 5, 2) := by decide +kernel
theorem dX8_rows_62 : decode cX8_rows 62 = .ok (.iload 5, 2) := by decide +kernel
theorem dX8_rows_64 : decode cX8_rows 64 = .ok (.iload_n 1, 1) := by decide +kernel
theorem dX8_rows_65 : decode cX8_rows 65 = .ok (.if_icmp .ge 44, 3) := by decide +kernel
theorem dX8_rows_68 : decode cX8_rows 68 = .ok (.iconst 0, 1) := by decide +kernel
theorem dX8_rows_69 : decode cX8_rows 69 = .ok (.istore 6, 2) := by decide +kernel
theorem dX8_rows_71 : decode cX8_rows 71 = .ok (.iload 6, 2) := by decide +kernel
theorem dX8_rows_73 : decode cX8_rows 73 = .ok (.iload_n 2, 1) := by decide +kernel
theorem dX8_rows_74 : decode cX8_rows 74 = .ok (.if_icmp .ge 29, 3) := by decide +kernel
theorem dX8_rows_77 : decode cX8_rows 77 = .ok (.aload_n 0, 1) := by decide +kernel
theorem dX8_rows_78 : decode cX8_rows 78 = .ok (.getfield 21, 3) := by decide +kernel
theorem dX8_rows_81 : decode cX8_rows 81 = .ok (.iload 5, 2) := by decide +kernel
theorem dX8_rows_83 : decode cX8_rows 83 = .ok (.iload 6, 2) := by decide +kernel
theorem dX8_rows_85 : decode cX8_rows 85 = .ok (.iload 5, 2) := by decide +kernel
theorem dX8_rows_87 : decode cX8_rows 87 = .ok (.iload 6, 2) := by decide +kernel
theorem dX8_rows_89 : decode cX8_rows 89 = .ok (.iadd, 1) := by decide +kernel
theorem dX8_rows_90 : decode cX8_rows 90 = .ok (.iload 4, 2) := by decide +kernel
theorem dX8_rows_92 : decode cX8_rows 92 = .ok (.irem, 1) := by decide +kernel
theorem dX8_rows_93 : decode cX8_rows 93 = .ok (.iconst 1, 1) := by decide +kernel
theorem dX8_rows_94 : decode cX8_rows 94 = .ok (.invokevirtual 97, 3) := by decide +kernel
theorem dX8_rows_97 : decode cX8_rows 97 = .ok (.iinc 6 1, 3) := by decide +kernel
theorem dX8_rows_100 : decode cX8_rows 100 = .ok (.goto (-29), 3) := by decide +kernel
theorem dX8_rows_103 : decode cX8_rows 103 = .ok (.iinc 5 1, 3) := by decide +kernel
theorem dX8_rows_106 : decode cX8_rows 106 = .ok (.goto (-44), 3) := by decide +kernel
theorem dX8_rows_109 : decode cX8_rows 109 = .ok (.iconst 1, 1) := by decide +kernel
theorem dX8_rows_110 : decode cX8_rows 110 = .ok (.ireturn, 1) := by decide +kernel
theorem dX8_set_0 : decode cX8_set 0 = .ok (.aload_n 0, 1) := by decide +kernel
theorem dX8_set_1 : decode cX8_set 1 = .ok (.getfield 21, 3) := by decide +kernel
theorem dX8_set_4 : decode cX8_set 4 = .ok (.iload_n 1, 1) := by decide +kernel
theorem dX8_set_5 : decode cX8_set 5 = .ok (.iload_n 2, 1) := by decide +kernel
theorem dX8_set_6 : decode cX8_set 6 = .ok (.iload_n 3, 1) := by decide +kernel
theorem dX8_set_7 : decode cX8_set 7 = .ok (.invokevirtual 101, 3) := by decide +kernel
theorem dX8_set_10 : decode cX8_set 10 = .ok (.ifCond .eq 15, 3) := by decide +kernel
theorem dX8_set_13 : decode cX8_set 13 = .ok (.aload_n 0, 1) := by decide +kernel
theorem dX8_set_14 : decode cX8_set 14 = .ok (.getfield 12, 3) := by decide +kernel
theorem dX8_set_17 : decode cX8_set 17 = .ok (.iload 4, 2) := by decide +kernel
theorem dX8_set_19 : decode cX8_set 19 = .ok (.invokevirtual 105, 3) := by decide +kernel
theorem dX8_set_22 : decode cX8_set 22 = .ok (.ifCond .ne 5, 3) := by decide +kernel
theorem dX8_set_25 : decode cX8_set 25 = .ok (.iconst (-1), 1) := by decide +kernel
theorem dX8_set_26 : decode cX8_set 26 = .ok (.ireturn, 1) := by decide +kernel
theorem dX8_set_27 : decode cX8_set 27 = .ok (.aload_n 0, 1) := by decide +kernel
theorem dX8_set_28 : decode cX8_set 28 = .ok (.getfield 21, 3) := by decide +kernel
theorem dX8_set_31 : decode cX8_set 31 = .ok (.iload_n 1, 1) := by decide +kernel
theorem dX8_set_32 : decode cX8_set 32 = .ok (.iload_n 2, 1) := by decide +kernel
theorem dX8_set_33 : decode cX8_set 33 = .ok (.iload_n 3, 1) := by decide +kernel
theorem dX8_set_34 : decode cX8_set 34 = .ok (.invokevirtual 108, 3) := by decide +kernel
theorem dX8_set_37 : decode cX8_set 37 = .ok (.istore 5, 2) := by decide +kernel
theorem dX8_set_39 : decode cX8_set 39 = .ok (.aload_n 0, 1) := by decide +kernel
theorem dX8_set_40 : decode cX8_set 40 = .ok (.getfield 21, 3) := by decide +kernel
theorem dX8_set_43 : decode cX8_set 43 = .ok (.iload_n 1, 1) := by decide +kernel
theorem dX8_set_44 : decode cX8_set 44 = .ok (.iload_n 2, 1) := by decide +kernel
theorem dX8_set_45 : decode cX8_set 45 = .ok (.iload_n 3, 1) := by decide +kernel
theorem dX8_set_46 : decode cX8_set 46 = .ok (.iload 4, 2) := by decide +kernel
theorem dX8_set_48 : decode cX8_set 48 = .ok (.invokevirtual 97, 3) := by decide +kernel
theorem dX8_set_51 : decode cX8_set 51 = .ok (.iload 5, 2) := by decide +kernel
theorem dX8_set_53 : decode cX8_set 53 = .ok (.ireturn, 1) := by decide +kernel
theorem dX8_at_0 : decode cX8_at 0 = .ok (.aload_n 0, 1) := by decide +kernel
theorem dX8_at_1 : decode cX8_at 1 = .ok (.getfield 21, 3) := by decide +kernel
theorem dX8_at_4 : decode cX8_at 4 = .ok (.iload_n 1, 1) := by decide +kernel
theorem dX8_at_5 : decode cX8_at 5 = .ok (.iload_n 2, 1) := by decide +kernel
theorem dX8_at_6 : decode cX8_at 6 = .ok (.iload_n 3, 1) := by decide +kernel
theorem dX8_at_7 : decode cX8_at 7 = .ok (.invokevirtual 101, 3) := by decide +kernel
theorem dX8_at_10 : decode cX8_at 10 = .ok (.ifCond .eq 16, 3) := by decide +kernel
theorem dX8_at_13 : decode cX8_at 13 = .ok (.aload_n 0, 1) := by decide +kernel
theorem dX8_at_14 : decode cX8_at 14 = .ok (.getfield 21, 3) := by decide +kernel
theorem dX8_at_17 : decode cX8_at 17 = .ok (.iload_n 1, 1) := by decide +kernel
theorem dX8_at_18 : decode cX8_at 18 = .ok (.iload_n 2, 1) := by decide +kernel
theorem dX8_at_19 : decode cX8_at 19 = .ok (.iload_n 3, 1) := by decide +kernel
theorem dX8_at_20 : decode cX8_at 20 = .ok (.invokevirtual 108, 3) := by decide +kernel
theorem dX8_at_23 : decode cX8_at 23 = .ok (.goto 4, 3) := by decide +kernel
theorem dX8_at_26 : decode cX8_at 26 = .ok (.iconst (-1), 1) := by decide +kernel
theorem dX8_at_27 : decode cX8_at 27 = .ok (.ireturn, 1) := by decide +kernel
theorem dX8_many_0 : decode cX8_many 0 = .ok (.iload_n 1, 1) := by decide +kernel
theorem dX8_many_1 : decode cX8_many 1 = .ok (.tableswitch 91 0 6 #[43, 51, 51, 51, 63, 71, 79], 43) := by decide +kernel
theorem dX8_many_44 : decode cX8_many 44 = .ok (.aload_n 0, 1) := by decide +kernel
theorem dX8_many_45 : decode cX8_many 45 = .ok (.getfield 12, 3) := by decide +kernel
theorem dX8_many_48 : decode cX8_many 48 = .ok (.getfield 112, 3) := by decide +kernel
theorem dX8_many_51 : decode cX8_many 51 = .ok (.ireturn, 1) := by decide +kernel
theorem dX8_many_52 : decode cX8_many 52 = .ok (.aload_n 0, 1) := by decide +kernel
theorem dX8_many_53 : decode cX8_many 53 = .ok (.getfield 21, 3) := by decide +kernel
theorem dX8_many_56 : decode cX8_many 56 = .ok (.getfield 116, 3) := by decide +kernel
theorem dX8_many_59 : decode cX8_many 59 = .ok (.iload_n 1, 1) := by decide +kernel
theorem dX8_many_60 : decode cX8_many 60 = .ok (.iconst 1, 1) := by decide +kernel
theorem dX8_many_61 : decode cX8_many 61 = .ok (.isub, 1) := by decide +kernel
theorem dX8_many_62 : decode cX8_many 62 = .ok (.iaload, 1) := by decide +kernel
theorem dX8_many_63 : decode cX8_many 63 = .ok (.ireturn, 1) := by decide +kernel
theorem dX8_many_64 : decode cX8_many 64 = .ok (.aload_n 0, 1) := by decide +kernel
theorem dX8_many_65 : decode cX8_many 65 = .ok (.getfield 21, 3) := by decide +kernel
theorem dX8_many_68 : decode cX8_many 68 = .ok (.getfield 119, 3) := by decide +kernel
theorem dX8_many_71 : decode cX8_many 71 = .ok (.ireturn, 1) := by decide +kernel
theorem dX8_many_72 : decode cX8_many 72 = .ok (.aload_n 0, 1) := by decide +kernel
theorem dX8_many_73 : decode cX8_many 73 = .ok (.getfield 21, 3) := by decide +kernel
theorem dX8_many_76 : decode cX8_many 76 = .ok (.invokevirtual 122, 3) := by decide +kernel
theorem dX8_many_79 : decode cX8_many 79 = .ok (.ireturn, 1) := by decide +kernel
theorem dX8_many_80 : decode cX8_many 80 = .ok (.aload_n 0, 1) := by decide +kernel
theorem dX8_many_81 : decode cX8_many 81 = .ok (.getfield 43, 3) := by decide +kernel
theorem dX8_many_84 : decode cX8_many 84 = .ok (.aload_n 0, 1) := by decide +kernel
theorem dX8_many_85 : decode cX8_many 85 = .ok (.getfield 21, 3) := by decide +kernel
theorem dX8_many_88 : decode cX8_many 88 = .ok (.invokevirtual 126, 3) := by decide +kernel
theorem dX8_many_91 : decode cX8_many 91 = .ok (.ireturn, 1) := by decide +kernel
theorem dX8_many_92 : decode cX8_many 92 = .ok (.iconst (-1), 1) := by decide +kernel
theorem dX8_many_93 : decode cX8_many 93 = .ok (.ireturn, 1) := by decide +kernel
theorem dX8_time_0 : decode cX8_time 0 = .ok (.aload_n 0, 1) := by decide +kernel
theorem dX8_time_1 : decode cX8_time 1 = .ok (.getfield 21, 3) := by decide +kernel
theorem dX8_time_4 : decode cX8_time 4 = .ok (.iconst 0, 1) := by decide +kernel
theorem dX8_time_5 : decode cX8_time 5 = .ok (.iload_n 1, 1) := by decide +kernel
theorem dX8_time_6 : decode cX8_time 6 = .ok (.invokevirtual 130, 3) := by decide +kernel
theorem dX8_time_9 : decode cX8_time 9 = .ok (.ifCond .eq 27, 3) := by decide +kernel
theorem dX8_time_12 : decode cX8_time 12 = .ok (.aload_n 0, 1) := by decide +kernel
theorem dX8_time_13 : decode cX8_time 13 = .ok (.getfield 21, 3) := by decide +kernel
theorem dX8_time_16 : decode cX8_time 16 = .ok (.iconst 1, 1) := by decide +kernel
theorem dX8_time_17 : decode cX8_time 17 = .ok (.iload_n 2, 1) := by decide +kernel
theorem dX8_time_18 : decode cX8_time 18 = .ok (.invokevirtual 130, 3) := by decide +kernel
theorem dX8_time_21 : decode cX8_time 21 = .ok (.ifCond .eq 15, 3) := by decide +kernel
theorem dX8_time_24 : decode cX8_time 24 = .ok (.aload_n 0, 1) := by decide +kernel
theorem dX8_time_25 : decode cX8_time 25 = .ok (.getfield 21, 3) := by decide +kernel
theorem dX8_time_28 : decode cX8_time 28 = .ok (.iconst 2, 1) := by decide +kernel
theorem dX8_time_29 : decode cX8_time 29 = .ok (.iload_n 3, 1) := by decide +kernel
theorem dX8_time_30 : decode cX8_time 30 = .ok (.invokevirtual 130, 3) := by decide +kernel
theorem dX8_time_33 : decode cX8_time 33 = .ok (.ifCond .ne 5, 3) := by decide +kernel
theorem dX8_time_36 : decode cX8_time 36 = .ok (.iconst (-1), 1) := by decide +kernel
theorem dX8_time_37 : decode cX8_time 37 = .ok (.ireturn, 1) := by decide +kernel
theorem dX8_time_38 : decode cX8_time 38 = .ok (.aload_n 0, 1) := by decide +kernel
theorem dX8_time_39 : decode cX8_time 39 = .ok (.getfield 21, 3) := by decide +kernel
theorem dX8_time_42 : decode cX8_time 42 = .ok (.getfield 119, 3) := by decide +kernel
theorem dX8_time_45 : decode cX8_time 45 = .ok (.bipush 40, 2) := by decide +kernel
theorem dX8_time_47 : decode cX8_time 47 = .ok (.if_icmp .lt 6, 3) := by decide +kernel
theorem dX8_time_50 : decode cX8_time 50 = .ok (.bipush (-2), 2) := by decide +kernel
theorem dX8_time_52 : decode cX8_time 52 = .ok (.ireturn, 1) := by decide +kernel
theorem dX8_time_53 : decode cX8_time 53 = .ok (.aload_n 0, 1) := by decide +kernel
theorem dX8_time_54 : decode cX8_time 54 = .ok (.getfield 21, 3) := by decide +kernel
theorem dX8_time_57 : decode cX8_time 57 = .ok (.iload_n 1, 1) := by decide +kernel
theorem dX8_time_58 : decode cX8_time 58 = .ok (.iload_n 2, 1) := by decide +kernel
theorem dX8_time_59 : decode cX8_time 59 = .ok (.iload_n 3, 1) := by decide +kernel
theorem dX8_time_60 : decode cX8_time 60 = .ok (.invokevirtual 134, 3) := by decide +kernel
theorem dX8_time_63 : decode cX8_time 63 = .ok (.aload_n 0, 1) := by decide +kernel
theorem dX8_time_64 : decode cX8_time 64 = .ok (.getfield 21, 3) := by decide +kernel
theorem dX8_time_67 : decode cX8_time 67 = .ok (.getfield 119, 3) := by decide +kernel
theorem dX8_time_70 : decode cX8_time 70 = .ok (.iconst 1, 1) := by decide +kernel
theorem dX8_time_71 : decode cX8_time 71 = .ok (.isub, 1) := by decide +kernel
theorem dX8_time_72 : decode cX8_time 72 = .ok (.ireturn, 1) := by decide +kernel
theorem dX8_row_0 : decode cX8_row 0 = .ok (.aload_n 0, 1) := by decide +kernel
theorem dX8_row_1 : decode cX8_row 1 = .ok (.getfield 21, 3) := by decide +kernel
theorem dX8_row_4 : decode cX8_row 4 = .ok (.iload_n 1, 1) := by decide +kernel
theorem dX8_row_5 : decode cX8_row 5 = .ok (.invokevirtual 137, 3) := by decide +kernel
theorem dX8_row_8 : decode cX8_row 8 = .ok (.ifCond .eq 22, 3) := by decide +kernel
theorem dX8_row_11 : decode cX8_row 11 = .ok (.iload_n 2, 1) := by decide +kernel
theorem dX8_row_12 : decode cX8_row 12 = .ok (.invokestatic 140, 3) := by decide +kernel
theorem dX8_row_15 : decode cX8_row 15 = .ok (.ifCond .eq 15, 3) := by decide +kernel
theorem dX8_row_18 : decode cX8_row 18 = .ok (.aload_n 0, 1) := by decide +kernel
theorem dX8_row_19 : decode cX8_row 19 = .ok (.getfield 21, 3) := by decide +kernel
theorem dX8_row_22 : decode cX8_row 22 = .ok (.iload_n 2, 1) := by decide +kernel
theorem dX8_row_23 : decode cX8_row 23 = .ok (.iload_n 1, 1) := by decide +kernel
theorem dX8_row_24 : decode cX8_row 24 = .ok (.invokevirtual 143, 3) := by decide +kernel
theorem dX8_row_27 : decode cX8_row 27 = .ok (.goto 4, 3) := by decide +kernel
theorem dX8_row_30 : decode cX8_row 30 = .ok (.iconst (-1), 1) := by decide +kernel
theorem dX8_row_31 : decode cX8_row 31 = .ok (.ireturn, 1) := by decide +kernel
theorem dX8_change_0 : decode cX8_change 0 = .ok (.aload_n 0, 1) := by decide +kernel
theorem dX8_change_1 : decode cX8_change 1 = .ok (.getfield 21, 3) := by decide +kernel
theorem dX8_change_4 : decode cX8_change 4 = .ok (.iload_n 1, 1) := by decide +kernel
theorem dX8_change_5 : decode cX8_change 5 = .ok (.invokevirtual 137, 3) := by decide +kernel
theorem dX8_change_8 : decode cX8_change 8 = .ok (.ifCond .eq 22, 3) := by decide +kernel
theorem dX8_change_11 : decode cX8_change 11 = .ok (.iload_n 2, 1) := by decide +kernel
theorem dX8_change_12 : decode cX8_change 12 = .ok (.invokestatic 140, 3) := by decide +kernel
theorem dX8_change_15 : decode cX8_change 15 = .ok (.ifCond .eq 15, 3) := by decide +kernel
theorem dX8_change_18 : decode cX8_change 18 = .ok (.aload_n 0, 1) := by decide +kernel
theorem dX8_change_19 : decode cX8_change 19 = .ok (.getfield 21, 3) := by decide +kernel
theorem dX8_change_22 : decode cX8_change 22 = .ok (.iload_n 2, 1) := by decide +kernel
theorem dX8_change_23 : decode cX8_change 23 = .ok (.iload_n 3, 1) := by decide +kernel
theorem dX8_change_24 : decode cX8_change 24 = .ok (.invokevirtual 130, 3) := by decide +kernel
theorem dX8_change_27 : decode cX8_change 27 = .ok (.ifCond .ne 5, 3) := by decide +kernel
theorem dX8_change_30 : decode cX8_change 30 = .ok (.iconst (-1), 1) := by decide +kernel
theorem dX8_change_31 : decode cX8_change 31 = .ok (.ireturn, 1) := by decide +kernel
theorem dX8_change_32 : decode cX8_change 32 = .ok (.aload_n 0, 1) := by decide +kernel
theorem dX8_change_33 : decode cX8_change 33 = .ok (.getfield 21, 3) := by decide +kernel
theorem dX8_change_36 : decode cX8_change 36 = .ok (.iload_n 2, 1) := by decide +kernel
theorem dX8_change_37 : decode cX8_change 37 = .ok (.iload_n 1, 1) := by decide +kernel
theorem dX8_change_38 : decode cX8_change 38 = .ok (.iload_n 3, 1) := by decide +kernel
theorem dX8_change_39 : decode cX8_change 39 = .ok (.invokevirtual 147, 3) := by decide +kernel
theorem dX8_change_42 : decode cX8_change 42 = .ok (.iconst 1, 1) := by decide +kernel
theorem dX8_change_43 : decode cX8_change 43 = .ok (.ireturn, 1) := by decide +kernel
theorem dX8_drop_0 : decode cX8_drop 0 = .ok (.aload_n 0, 1) := by decide +kernel
theorem dX8_drop_1 : decode cX8_drop 1 = .ok (.getfield 21, 3) := by decide +kernel
theorem dX8_drop_4 : decode cX8_drop 4 = .ok (.iload_n 1, 1) := by decide +kernel
theorem dX8_drop_5 : decode cX8_drop 5 = .ok (.invokevirtual 137, 3) := by decide +kernel
theorem dX8_drop_8 : decode cX8_drop 8 = .ok (.ifCond .ne 5, 3) := by decide +kernel
theorem dX8_drop_11 : decode cX8_drop 11 = .ok (.iconst (-1), 1) := by decide +kernel
theorem dX8_drop_12 : decode cX8_drop 12 = .ok (.ireturn, 1) := by decide +kernel
theorem dX8_drop_13 : decode cX8_drop 13 = .ok (.aload_n 0, 1) := by decide +kernel
theorem dX8_drop_14 : decode cX8_drop 14 = .ok (.getfield 21, 3) := by decide +kernel
theorem dX8_drop_17 : decode cX8_drop 17 = .ok (.iload_n 1, 1) := by decide +kernel
theorem dX8_drop_18 : decode cX8_drop 18 = .ok (.invokevirtual 150, 3) := by decide +kernel
theorem dX8_drop_21 : decode cX8_drop 21 = .ok (.aload_n 0, 1) := by decide +kernel
theorem dX8_drop_22 : decode cX8_drop 22 = .ok (.getfield 21, 3) := by decide +kernel
theorem dX8_drop_25 : decode cX8_drop 25 = .ok (.getfield 119, 3) := by decide +kernel
theorem dX8_drop_28 : decode cX8_drop 28 = .ok (.ireturn, 1) := by decide +kernel
theorem dX8_plain_0 : decode cX8_plain 0 = .ok (.aload_n 0, 1) := by decide +kernel
theorem dX8_plain_1 : decode cX8_plain 1 = .ok (.getfield 21, 3) := by decide +kernel
theorem dX8_plain_4 : decode cX8_plain 4 = .ok (.invokevirtual 122, 3) := by decide +kernel
theorem dX8_plain_7 : decode cX8_plain 7 = .ok (.bipush 40, 2) := by decide +kernel
theorem dX8_plain_9 : decode cX8_plain 9 = .ok (.if_icmp .le 6, 3) := by decide +kernel
theorem dX8_plain_12 : decode cX8_plain 12 = .ok (.bipush (-2), 2) := by decide +kernel
theorem dX8_plain_14 : decode cX8_plain 14 = .ok (.ireturn, 1) := by decide +kernel
theorem dX8_plain_15 : decode cX8_plain 15 = .ok (.aload_n 0, 1) := by decide +kernel
theorem dX8_plain_16 : decode cX8_plain 16 = .ok (.getfield 21, 3) := by decide +kernel
theorem dX8_plain_19 : decode cX8_plain 19 = .ok (.invokevirtual 153, 3) := by decide +kernel
theorem dX8_plain_22 : decode cX8_plain 22 = .ok (.aload_n 0, 1) := by decide +kernel
theorem dX8_plain_23 : decode cX8_plain 23 = .ok (.getfield 21, 3) := by decide +kernel
theorem dX8_plain_26 : decode cX8_plain 26 = .ok (.getfield 119, 3) := by decide +kernel
theorem dX8_plain_29 : decode cX8_plain 29 = .ok (.ireturn, 1) := by decide +kernel
theorem dX8_makes_0 : decode cX8_makes 0 = .ok (.aload_n 0, 1) := by decide +kernel
theorem dX8_makes_1 : decode cX8_makes 1 = .ok (.getfield 57, 3) := by decide +kernel
theorem dX8_makes_4 : decode cX8_makes 4 = .ok (.aload_n 0, 1) := by decide +kernel
theorem dX8_makes_5 : decode cX8_makes 5 = .ok (.getfield 21, 3) := by decide +kernel
theorem dX8_makes_8 : decode cX8_makes 8 = .ok (.iconst 0, 1) := by decide +kernel
theorem dX8_makes_9 : decode cX8_makes 9 = .ok (.invokevirtual 156, 3) := by decide +kernel
theorem dX8_makes_12 : decode cX8_makes 12 = .ok (.iconst (-1), 1) := by decide +kernel
theorem dX8_makes_13 : decode cX8_makes 13 = .ok (.if_icmp .ne 7, 3) := by decide +kernel
theorem dX8_makes_16 : decode cX8_makes 16 = .ok (.iconst 1, 1) := by decide +kernel
theorem dX8_makes_17 : decode cX8_makes 17 = .ok (.goto 4, 3) := by decide +kernel
theorem dX8_makes_20 : decode cX8_makes 20 = .ok (.iconst 0, 1) := by decide +kernel
theorem dX8_makes_21 : decode cX8_makes 21 = .ok (.ireturn, 1) := by decide +kernel
theorem dX8_off_0 : decode cX8_off 0 = .ok (.iload_n 1, 1) := by decide +kernel
theorem dX8_off_1 : decode cX8_off 1 = .ok (.ifCond .ge 7, 3) := by decide +kernel
theorem dX8_off_4 : decode cX8_off 4 = .ok (.iconst (-1), 1) := by decide +kernel
theorem dX8_off_5 : decode cX8_off 5 = .ok (.goto 15, 3) := by decide +kernel
theorem dX8_off_8 : decode cX8_off 8 = .ok (.aload_n 0, 1) := by decide +kernel
theorem dX8_off_9 : decode cX8_off 9 = .ok (.getfield 57, 3) := by decide +kernel
theorem dX8_off_12 : decode cX8_off 12 = .ok (.aload_n 0, 1) := by decide +kernel
theorem dX8_off_13 : decode cX8_off 13 = .ok (.getfield 21, 3) := by decide +kernel
theorem dX8_off_16 : decode cX8_off 16 = .ok (.iload_n 1, 1) := by decide +kernel
theorem dX8_off_17 : decode cX8_off 17 = .ok (.invokevirtual 156, 3) := by decide +kernel
theorem dX8_off_20 : decode cX8_off 20 = .ok (.ireturn, 1) := by decide +kernel
theorem dX8_less_0 : decode cX8_less 0 = .ok (.aload_n 0, 1) := by decide +kernel
theorem dX8_less_1 : decode cX8_less 1 = .ok (.getfield 43, 3) := by decide +kernel
theorem dX8_less_4 : decode cX8_less 4 = .ok (.aload_n 0, 1) := by decide +kernel
theorem dX8_less_5 : decode cX8_less 5 = .ok (.getfield 21, 3) := by decide +kernel
theorem dX8_less_8 : decode cX8_less 8 = .ok (.invokevirtual 160, 3) := by decide +kernel
theorem dX8_less_11 : decode cX8_less 11 = .ok (.ireturn, 1) := by decide +kernel
theorem dX8_move_0 : decode cX8_move 0 = .ok (.iload_n 1, 1) := by decide +kernel
theorem dX8_move_1 : decode cX8_move 1 = .ok (.invokestatic 140, 3) := by decide +kernel
theorem dX8_move_4 : decode cX8_move 4 = .ok (.ifCond .eq 30, 3) := by decide +kernel
theorem dX8_move_7 : decode cX8_move 7 = .ok (.aload_n 0, 1) := by decide +kernel
theorem dX8_move_8 : decode cX8_move 8 = .ok (.getfield 21, 3) := by decide +kernel
theorem dX8_move_11 : decode cX8_move 11 = .ok (.iload_n 2, 1) := by decide +kernel
theorem dX8_move_12 : decode cX8_move 12 = .ok (.invokevirtual 137, 3) := by decide +kernel
theorem dX8_move_15 : decode cX8_move 15 = .ok (.ifCond .eq 19, 3) := by decide +kernel
theorem dX8_move_18 : decode cX8_move 18 = .ok (.aload_n 0, 1) := by decide +kernel
theorem dX8_move_19 : decode cX8_move 19 = .ok (.getfield 21, 3) := by decide +kernel
theorem dX8_move_22 : decode cX8_move 22 = .ok (.iload_n 3, 1) := by decide +kernel
theorem dX8_move_23 : decode cX8_move 23 = .ok (.invokevirtual 137, 3) := by decide +kernel
theorem dX8_move_26 : decode cX8_move 26 = .ok (.ifCond .eq 8, 3) := by decide +kernel
theorem dX8_move_29 : decode cX8_move 29 = .ok (.iload_n 2, 1) := by decide +kernel
theorem dX8_move_30 : decode cX8_move 30 = .ok (.iload_n 3, 1) := by decide +kernel
theorem dX8_move_31 : decode cX8_move 31 = .ok (.if_icmp .ne 5, 3) := by decide +kernel
theorem dX8_move_34 : decode cX8_move 34 = .ok (.iconst (-1), 1) := by decide +kernel
theorem dX8_move_35 : decode cX8_move 35 = .ok (.ireturn, 1) := by decide +kernel
theorem dX8_move_36 : decode cX8_move 36 = .ok (.aload_n 0, 1) := by decide +kernel
theorem dX8_move_37 : decode cX8_move 37 = .ok (.getfield 21, 3) := by decide +kernel
theorem dX8_move_40 : decode cX8_move 40 = .ok (.iload_n 1, 1) := by decide +kernel
theorem dX8_move_41 : decode cX8_move 41 = .ok (.iload_n 2, 1) := by decide +kernel
theorem dX8_move_42 : decode cX8_move 42 = .ok (.iload_n 3, 1) := by decide +kernel
theorem dX8_move_43 : decode cX8_move 43 = .ok (.invokevirtual 163, 3) := by decide +kernel
theorem dX8_move_46 : decode cX8_move 46 = .ok (.ifCond .ne 6, 3) := by decide +kernel
theorem dX8_move_49 : decode cX8_move 49 = .ok (.bipush (-4), 2) := by decide +kernel
theorem dX8_move_51 : decode cX8_move 51 = .ok (.ireturn, 1) := by decide +kernel
theorem dX8_move_52 : decode cX8_move 52 = .ok (.aload_n 0, 1) := by decide +kernel
theorem dX8_move_53 : decode cX8_move 53 = .ok (.getfield 43, 3) := by decide +kernel
theorem dX8_move_56 : decode cX8_move 56 = .ok (.aload_n 0, 1) := by decide +kernel
theorem dX8_move_57 : decode cX8_move 57 = .ok (.getfield 21, 3) := by decide +kernel
theorem dX8_move_60 : decode cX8_move 60 = .ok (.iload_n 1, 1) := by decide +kernel
theorem dX8_move_61 : decode cX8_move 61 = .ok (.iload_n 2, 1) := by decide +kernel
theorem dX8_move_62 : decode cX8_move 62 = .ok (.iload_n 3, 1) := by decide +kernel
theorem dX8_move_63 : decode cX8_move 63 = .ok (.invokevirtual 166, 3) := by decide +kernel
theorem dX8_move_66 : decode cX8_move 66 = .ok (.iconst 1, 1) := by decide +kernel
theorem dX8_move_67 : decode cX8_move 67 = .ok (.ireturn, 1) := by decide +kernel
theorem dX8_walk_0 : decode cX8_walk 0 = .ok (.iload_n 2, 1) := by decide +kernel
theorem dX8_walk_1 : decode cX8_walk 1 = .ok (.ifCond .lt 10, 3) := by decide +kernel
theorem dX8_walk_4 : decode cX8_walk 4 = .ok (.iload_n 2, 1) := by decide +kernel
theorem dX8_walk_5 : decode cX8_walk 5 = .ok (.sipush 200, 3) := by decide +kernel
theorem dX8_walk_8 : decode cX8_walk 8 = .ok (.if_icmp .le 5, 3) := by decide +kernel
theorem dX8_walk_11 : decode cX8_walk 11 = .ok (.iconst (-1), 1) := by decide +kernel
theorem dX8_walk_12 : decode cX8_walk 12 = .ok (.ireturn, 1) := by decide +kernel
theorem dX8_walk_13 : decode cX8_walk 13 = .ok (.iload_n 1, 1) := by decide +kernel
theorem dX8_walk_14 : decode cX8_walk 14 = .ok (.istore_n 3, 1) := by decide +kernel
theorem dX8_walk_15 : decode cX8_walk 15 = .ok (.iconst 0, 1) := by decide +kernel
theorem dX8_walk_16 : decode cX8_walk 16 = .ok (.istore 4, 2) := by decide +kernel
theorem dX8_walk_18 : decode cX8_walk 18 = .ok (.iload 4, 2) := by decide +kernel
theorem dX8_walk_20 : decode cX8_walk 20 = .ok (.iload_n 2, 1) := by decide +kernel
theorem dX8_walk_21 : decode cX8_walk 21 = .ok (.if_icmp .ge 69, 3) := by decide +kernel
theorem dX8_walk_24 : decode cX8_walk 24 = .ok (.aload_n 0, 1) := by decide +kernel
theorem dX8_walk_25 : decode cX8_walk 25 = .ok (.getfield 43, 3) := by decide +kernel
theorem dX8_walk_28 : decode cX8_walk 28 = .ok (.aload_n 0, 1) := by decide +kernel
theorem dX8_walk_29 : decode cX8_walk 29 = .ok (.getfield 21, 3) := by decide +kernel
theorem dX8_walk_32 : decode cX8_walk 32 = .ok (.invokevirtual 126, 3) := by decide +kernel
theorem dX8_walk_35 : decode cX8_walk 35 = .ok (.istore 5, 2) := by decide +kernel
theorem dX8_walk_37 : decode cX8_walk 37 = .ok (.iload 5, 2) := by decide +kernel
theorem dX8_walk_39 : decode cX8_walk 39 = .ok (.ifCond .ne 6, 3) := by decide +kernel
theorem dX8_walk_42 : decode cX8_walk 42 = .ok (.goto 48, 3) := by decide +kernel
theorem dX8_walk_45 : decode cX8_walk 45 = .ok (.ldc 170, 2) := by decide +kernel
theorem dX8_walk_47 : decode cX8_walk 47 = .ok (.iload_n 3, 1) := by decide +kernel
theorem dX8_walk_48 : decode cX8_walk 48 = .ok (.imul, 1) := by decide +kernel
theorem dX8_walk_49 : decode cX8_walk 49 = .ok (.sipush 12345, 3) := by decide +kernel
theorem dX8_walk_52 : decode cX8_walk 52 = .ok (.iadd, 1) := by decide +kernel
theorem dX8_walk_53 : decode cX8_walk 53 = .ok (.istore_n 3, 1) := by decide +kernel
theorem dX8_walk_54 : decode cX8_walk 54 = .ok (.aload_n 0, 1) := by decide +kernel
theorem dX8_walk_55 : decode cX8_walk 55 = .ok (.getfield 43, 3) := by decide +kernel
theorem dX8_walk_58 : decode cX8_walk 58 = .ok (.aload_n 0, 1) := by decide +kernel
theorem dX8_walk_59 : decode cX8_walk 59 = .ok (.getfield 21, 3) := by decide +kernel
theorem dX8_walk_62 : decode cX8_walk 62 = .ok (.iload_n 3, 1) := by decide +kernel
theorem dX8_walk_63 : decode cX8_walk 63 = .ok (.bipush 16, 2) := by decide +kernel
theorem dX8_walk_65 : decode cX8_walk 65 = .ok (.iushr, 1) := by decide +kernel
theorem dX8_walk_66 : decode cX8_walk 66 = .ok (.iload 5, 2) := by decide +kernel
theorem dX8_walk_68 : decode cX8_walk 68 = .ok (.irem, 1) := by decide +kernel
theorem dX8_walk_69 : decode cX8_walk 69 = .ok (.invokevirtual 171, 3) := by decide +kernel
theorem dX8_walk_72 : decode cX8_walk 72 = .ok (.aload_n 0, 1) := by decide +kernel
theorem dX8_walk_73 : decode cX8_walk 73 = .ok (.getfield 43, 3) := by decide +kernel
theorem dX8_walk_76 : decode cX8_walk 76 = .ok (.aload_n 0, 1) := by decide +kernel
theorem dX8_walk_77 : decode cX8_walk 77 = .ok (.getfield 21, 3) := by decide +kernel
theorem dX8_walk_80 : decode cX8_walk 80 = .ok (.invokevirtual 160, 3) := by decide +kernel
theorem dX8_walk_83 : decode cX8_walk 83 = .ok (.pop, 1) := by decide +kernel
theorem dX8_walk_84 : decode cX8_walk 84 = .ok (.iinc 4 1, 3) := by decide +kernel
theorem dX8_walk_87 : decode cX8_walk 87 = .ok (.goto (-69), 3) := by decide +kernel
theorem dX8_walk_90 : decode cX8_walk 90 = .ok (.aload_n 0, 1) := by decide +kernel
theorem dX8_walk_91 : decode cX8_walk 91 = .ok (.getfield 21, 3) := by decide +kernel
theorem dX8_walk_94 : decode cX8_walk 94 = .ok (.getfield 119, 3) := by decide +kernel
theorem dX8_walk_97 : decode cX8_walk 97 = .ok (.ireturn, 1) := by decide +kernel
theorem dX8_around_0 : decode cX8_around 0 = .ok (.aload_n 0, 1) := by decide +kernel
theorem dX8_around_1 : decode cX8_around 1 = .ok (.getfield 50, 3) := by decide +kernel
theorem dX8_around_4 : decode cX8_around 4 = .ok (.aload_n 0, 1) := by decide +kernel
theorem dX8_around_5 : decode cX8_around 5 = .ok (.getfield 21, 3) := by decide +kernel
theorem dX8_around_8 : decode cX8_around 8 = .ok (.aload_n 0, 1) := by decide +kernel
theorem dX8_around_9 : decode cX8_around 9 = .ok (.getfield 25, 3) := by decide +kernel
theorem dX8_around_12 : decode cX8_around 12 = .ok (.invokevirtual 175, 3) := by decide +kernel
theorem dX8_around_15 : decode cX8_around 15 = .ok (.aload_n 0, 1) := by decide +kernel
theorem dX8_around_16 : decode cX8_around 16 = .ok (.invokevirtual 179, 3) := by decide +kernel
theorem dX8_around_19 : decode cX8_around 19 = .ok (.iconst 1, 1) := by decide +kernel
theorem dX8_around_20 : decode cX8_around 20 = .ok (.ireturn, 1) := by decide +kernel
theorem dX8_turn_0 : decode cX8_turn 0 = .ok (.iload_n 1, 1) := by decide +kernel
theorem dX8_turn_1 : decode cX8_turn 1 = .ok (.invokestatic 140, 3) := by decide +kernel
theorem dX8_turn_4 : decode cX8_turn 4 = .ok (.ifCond .eq 27, 3) := by decide +kernel
theorem dX8_turn_7 : decode cX8_turn 7 = .ok (.aload_n 0, 1) := by decide +kernel
theorem dX8_turn_8 : decode cX8_turn 8 = .ok (.getfield 21, 3) := by decide +kernel
theorem dX8_turn_11 : decode cX8_turn 11 = .ok (.iload_n 1, 1) := by decide +kernel
theorem dX8_turn_12 : decode cX8_turn 12 = .ok (.iload_n 2, 1) := by decide +kernel
theorem dX8_turn_13 : decode cX8_turn 13 = .ok (.invokevirtual 182, 3) := by decide +kernel
theorem dX8_turn_16 : decode cX8_turn 16 = .ok (.ifCond .eq 15, 3) := by decide +kernel
theorem dX8_turn_19 : decode cX8_turn 19 = .ok (.aload_n 0, 1) := by decide +kernel
theorem dX8_turn_20 : decode cX8_turn 20 = .ok (.getfield 21, 3) := by decide +kernel
theorem dX8_turn_23 : decode cX8_turn 23 = .ok (.iload_n 1, 1) := by decide +kernel
theorem dX8_turn_24 : decode cX8_turn 24 = .ok (.iload_n 3, 1) := by decide +kernel
theorem dX8_turn_25 : decode cX8_turn 25 = .ok (.invokevirtual 182, 3) := by decide +kernel
theorem dX8_turn_28 : decode cX8_turn 28 = .ok (.ifCond .ne 5, 3) := by decide +kernel
theorem dX8_turn_31 : decode cX8_turn 31 = .ok (.iconst (-1), 1) := by decide +kernel
theorem dX8_turn_32 : decode cX8_turn 32 = .ok (.ireturn, 1) := by decide +kernel
theorem dX8_turn_33 : decode cX8_turn 33 = .ok (.iload_n 2, 1) := by decide +kernel
theorem dX8_turn_34 : decode cX8_turn 34 = .ok (.iload_n 3, 1) := by decide +kernel
theorem dX8_turn_35 : decode cX8_turn 35 = .ok (.if_icmp .eq 15, 3) := by decide +kernel
theorem dX8_turn_38 : decode cX8_turn 38 = .ok (.aload_n 0, 1) := by decide +kernel
theorem dX8_turn_39 : decode cX8_turn 39 = .ok (.getfield 12, 3) := by decide +kernel
theorem dX8_turn_42 : decode cX8_turn 42 = .ok (.iload 4, 2) := by decide +kernel
theorem dX8_turn_44 : decode cX8_turn 44 = .ok (.invokevirtual 105, 3) := by decide +kernel
theorem dX8_turn_47 : decode cX8_turn 47 = .ok (.ifCond .ne 5, 3) := by decide +kernel
theorem dX8_turn_50 : decode cX8_turn 50 = .ok (.iconst (-1), 1) := by decide +kernel
theorem dX8_turn_51 : decode cX8_turn 51 = .ok (.ireturn, 1) := by decide +kernel
theorem dX8_turn_52 : decode cX8_turn 52 = .ok (.aload_n 0, 1) := by decide +kernel
theorem dX8_turn_53 : decode cX8_turn 53 = .ok (.getfield 21, 3) := by decide +kernel
theorem dX8_turn_56 : decode cX8_turn 56 = .ok (.iload_n 1, 1) := by decide +kernel
theorem dX8_turn_57 : decode cX8_turn 57 = .ok (.iload_n 2, 1) := by decide +kernel
theorem dX8_turn_58 : decode cX8_turn 58 = .ok (.iload_n 3, 1) := by decide +kernel
theorem dX8_turn_59 : decode cX8_turn 59 = .ok (.iload 4, 2) := by decide +kernel
theorem dX8_turn_61 : decode cX8_turn 61 = .ok (.invokevirtual 185, 3) := by decide +kernel
theorem dX8_turn_64 : decode cX8_turn 64 = .ok (.iconst 1, 1) := by decide +kernel
theorem dX8_turn_65 : decode cX8_turn 65 = .ok (.ireturn, 1) := by decide +kernel
theorem dX8_rank_0 : decode cX8_rank 0 = .ok (.iload_n 1, 1) := by decide +kernel
theorem dX8_rank_1 : decode cX8_rank 1 = .ok (.iconst 3, 1) := by decide +kernel
theorem dX8_rank_2 : decode cX8_rank 2 = .ok (.if_icmp .ne 25, 3) := by decide +kernel
theorem dX8_rank_5 : decode cX8_rank 5 = .ok (.aload_n 0, 1) := by decide +kernel
theorem dX8_rank_6 : decode cX8_rank 6 = .ok (.iconst 0, 1) := by decide +kernel
theorem dX8_rank_7 : decode cX8_rank 7 = .ok (.invokevirtual 188, 3) := by decide +kernel
theorem dX8_rank_10 : decode cX8_rank 10 = .ok (.aload_n 0, 1) := by decide +kernel
theorem dX8_rank_11 : decode cX8_rank 11 = .ok (.iconst 1, 1) := by decide +kernel
theorem dX8_rank_12 : decode cX8_rank 12 = .ok (.invokevirtual 188, 3) := by decide +kernel
theorem dX8_rank_15 : decode cX8_rank 15 = .ok (.aload_n 0, 1) := by decide +kernel
theorem dX8_rank_16 : decode cX8_rank 16 = .ok (.iconst 2, 1) := by decide +kernel
theorem dX8_rank_17 : decode cX8_rank 17 = .ok (.invokevirtual 188, 3) := by decide +kernel
theorem dX8_rank_20 : decode cX8_rank 20 = .ok (.invokestatic 192, 3) := by decide +kernel
theorem dX8_rank_23 : decode cX8_rank 23 = .ok (.invokestatic 192, 3) := by decide +kernel
theorem dX8_rank_26 : decode cX8_rank 26 = .ok (.ireturn, 1) := by decide +kernel
theorem dX8_rank_27 : decode cX8_rank 27 = .ok (.iload_n 1, 1) := by decide +kernel
theorem dX8_rank_28 : decode cX8_rank 28 = .ok (.invokestatic 140, 3) := by decide +kernel
theorem dX8_rank_31 : decode cX8_rank 31 = .ok (.ifCond .eq 11, 3) := by decide +kernel
theorem dX8_rank_34 : decode cX8_rank 34 = .ok (.aload_n 0, 1) := by decide +kernel
theorem dX8_rank_35 : decode cX8_rank 35 = .ok (.iload_n 1, 1) := by decide +kernel
theorem dX8_rank_36 : decode cX8_rank 36 = .ok (.invokevirtual 188, 3) := by decide +kernel
theorem dX8_rank_39 : decode cX8_rank 39 = .ok (.goto 4, 3) := by decide +kernel
theorem dX8_rank_42 : decode cX8_rank 42 = .ok (.iconst (-1), 1) := by decide +kernel
theorem dX8_rank_43 : decode cX8_rank 43 = .ok (.ireturn, 1) := by decide +kernel
theorem dX8_least_0 : decode cX8_least 0 = .ok (.aload_n 0, 1) := by decide +kernel
theorem dX8_least_1 : decode cX8_least 1 = .ok (.getfield 71, 3) := by decide +kernel
theorem dX8_least_4 : decode cX8_least 4 = .ok (.aload_n 0, 1) := by decide +kernel
theorem dX8_least_5 : decode cX8_least 5 = .ok (.getfield 21, 3) := by decide +kernel
theorem dX8_least_8 : decode cX8_least 8 = .ok (.invokevirtual 197, 3) := by decide +kernel
theorem dX8_least_11 : decode cX8_least 11 = .ok (.ireturn, 1) := by decide +kernel
theorem dX8_find_0 : decode cX8_find 0 = .ok (.aload_n 0, 1) := by decide +kernel
theorem dX8_find_1 : decode cX8_find 1 = .ok (.getfield 71, 3) := by decide +kernel
theorem dX8_find_4 : decode cX8_find 4 = .ok (.aload_n 0, 1) := by decide +kernel
theorem dX8_find_5 : decode cX8_find 5 = .ok (.getfield 21, 3) := by decide +kernel
theorem dX8_find_8 : decode cX8_find 8 = .ok (.invokevirtual 197, 3) := by decide +kernel
theorem dX8_find_11 : decode cX8_find 11 = .ok (.istore_n 1, 1) := by decide +kernel
theorem dX8_find_12 : decode cX8_find 12 = .ok (.iload_n 1, 1) := by decide +kernel
theorem dX8_find_13 : decode cX8_find 13 = .ok (.ifCond .lt 15, 3) := by decide +kernel
theorem dX8_find_16 : decode cX8_find 16 = .ok (.aload_n 0, 1) := by decide +kernel
theorem dX8_find_17 : decode cX8_find 17 = .ok (.getfield 71, 3) := by decide +kernel
theorem dX8_find_20 : decode cX8_find 20 = .ok (.aload_n 0, 1) := by decide +kernel
theorem dX8_find_21 : decode cX8_find 21 = .ok (.getfield 21, 3) := by decide +kernel
theorem dX8_find_24 : decode cX8_find 24 = .ok (.iload_n 1, 1) := by decide +kernel
theorem dX8_find_25 : decode cX8_find 25 = .ok (.invokevirtual 200, 3) := by decide +kernel
theorem dX8_find_28 : decode cX8_find 28 = .ok (.iload_n 1, 1) := by decide +kernel
theorem dX8_find_29 : decode cX8_find 29 = .ok (.ireturn, 1) := by decide +kernel
theorem dX8_hand_0 : decode cX8_hand 0 = .ok (.iload_n 1, 1) := by decide +kernel
theorem dX8_hand_1 : decode cX8_hand 1 = .ok (.ifCond .eq 10, 3) := by decide +kernel
theorem dX8_hand_4 : decode cX8_hand 4 = .ok (.iload_n 1, 1) := by decide +kernel
theorem dX8_hand_5 : decode cX8_hand 5 = .ok (.iconst 1, 1) := by decide +kernel
theorem dX8_hand_6 : decode cX8_hand 6 = .ok (.if_icmp .eq 5, 3) := by decide +kernel
theorem dX8_hand_9 : decode cX8_hand 9 = .ok (.iconst (-1), 1) := by decide +kernel
theorem dX8_hand_10 : decode cX8_hand 10 = .ok (.ireturn, 1) := by decide +kernel
theorem dX8_hand_11 : decode cX8_hand 11 = .ok (.aload_n 0, 1) := by decide +kernel
theorem dX8_hand_12 : decode cX8_hand 12 = .ok (.getfield 21, 3) := by decide +kernel
theorem dX8_hand_15 : decode cX8_hand 15 = .ok (.iload_n 1, 1) := by decide +kernel
theorem dX8_hand_16 : decode cX8_hand 16 = .ok (.iload_n 2, 1) := by decide +kernel
theorem dX8_hand_17 : decode cX8_hand 17 = .ok (.invokevirtual 182, 3) := by decide +kernel
theorem dX8_hand_20 : decode cX8_hand 20 = .ok (.ifCond .eq 14, 3) := by decide +kernel
theorem dX8_hand_23 : decode cX8_hand 23 = .ok (.aload_n 0, 1) := by decide +kernel
theorem dX8_hand_24 : decode cX8_hand 24 = .ok (.getfield 12, 3) := by decide +kernel
theorem dX8_hand_27 : decode cX8_hand 27 = .ok (.iload_n 3, 1) := by decide +kernel
theorem dX8_hand_28 : decode cX8_hand 28 = .ok (.invokevirtual 105, 3) := by decide +kernel
theorem dX8_hand_31 : decode cX8_hand 31 = .ok (.ifCond .ne 5, 3) := by decide +kernel
theorem dX8_hand_34 : decode cX8_hand 34 = .ok (.iconst (-1), 1) := by decide +kernel
theorem dX8_hand_35 : decode cX8_hand 35 = .ok (.ireturn, 1) := by decide +kernel
theorem dX8_hand_36 : decode cX8_hand 36 = .ok (.aload_n 0, 1) := by decide +kernel
theorem dX8_hand_37 : decode cX8_hand 37 = .ok (.getfield 36, 3) := by decide +kernel
theorem dX8_hand_40 : decode cX8_hand 40 = .ok (.iload_n 1, 1) := by decide +kernel
theorem dX8_hand_41 : decode cX8_hand 41 = .ok (.aload_n 0, 1) := by decide +kernel
theorem dX8_hand_42 : decode cX8_hand 42 = .ok (.getfield 12, 3) := by decide +kernel
theorem dX8_hand_45 : decode cX8_hand 45 = .ok (.aload_n 0, 1) := by decide +kernel
theorem dX8_hand_46 : decode cX8_hand 46 = .ok (.getfield 36, 3) := by decide +kernel
theorem dX8_hand_49 : decode cX8_hand 49 = .ok (.iload_n 1, 1) := by decide +kernel
theorem dX8_hand_50 : decode cX8_hand 50 = .ok (.iaload, 1) := by decide +kernel
theorem dX8_hand_51 : decode cX8_hand 51 = .ok (.iload_n 2, 1) := by decide +kernel
theorem dX8_hand_52 : decode cX8_hand 52 = .ok (.iload_n 3, 1) := by decide +kernel
theorem dX8_hand_53 : decode cX8_hand 53 = .ok (.invokevirtual 203, 3) := by decide +kernel
theorem dX8_hand_56 : decode cX8_hand 56 = .ok (.iastore, 1) := by decide +kernel
theorem dX8_hand_57 : decode cX8_hand 57 = .ok (.iconst 1, 1) := by decide +kernel
theorem dX8_hand_58 : decode cX8_hand 58 = .ok (.ireturn, 1) := by decide +kernel
theorem dX8_run_0 : decode cX8_run 0 = .ok (.iload_n 1, 1) := by decide +kernel
theorem dX8_run_1 : decode cX8_run 1 = .ok (.lookupswitch 75 #[(0, 27), (1, 51)], 27) := by decide +kernel
theorem dX8_run_28 : decode cX8_run 28 = .ok (.aload_n 0, 1) := by decide +kernel
theorem dX8_run_29 : decode cX8_run 29 = .ok (.getfield 57, 3) := by decide +kernel
theorem dX8_run_32 : decode cX8_run 32 = .ok (.aload_n 0, 1) := by decide +kernel
theorem dX8_run_33 : decode cX8_run 33 = .ok (.getfield 21, 3) := by decide +kernel
theorem dX8_run_36 : decode cX8_run 36 = .ok (.aload_n 0, 1) := by decide +kernel
theorem dX8_run_37 : decode cX8_run 37 = .ok (.getfield 36, 3) := by decide +kernel
theorem dX8_run_40 : decode cX8_run 40 = .ok (.iconst 0, 1) := by decide +kernel
theorem dX8_run_41 : decode cX8_run 41 = .ok (.iaload, 1) := by decide +kernel
theorem dX8_run_42 : decode cX8_run 42 = .ok (.aload_n 0, 1) := by decide +kernel
theorem dX8_run_43 : decode cX8_run 43 = .ok (.getfield 36, 3) := by decide +kernel
theorem dX8_run_46 : decode cX8_run 46 = .ok (.iconst 1, 1) := by decide +kernel
theorem dX8_run_47 : decode cX8_run 47 = .ok (.iaload, 1) := by decide +kernel
theorem dX8_run_48 : decode cX8_run 48 = .ok (.invokevirtual 206, 3) := by decide +kernel
theorem dX8_run_51 : decode cX8_run 51 = .ok (.ireturn, 1) := by decide +kernel
theorem dX8_run_52 : decode cX8_run 52 = .ok (.aload_n 0, 1) := by decide +kernel
theorem dX8_run_53 : decode cX8_run 53 = .ok (.getfield 57, 3) := by decide +kernel
theorem dX8_run_56 : decode cX8_run 56 = .ok (.aload_n 0, 1) := by decide +kernel
theorem dX8_run_57 : decode cX8_run 57 = .ok (.getfield 21, 3) := by decide +kernel
theorem dX8_run_60 : decode cX8_run 60 = .ok (.aload_n 0, 1) := by decide +kernel
theorem dX8_run_61 : decode cX8_run 61 = .ok (.getfield 36, 3) := by decide +kernel
theorem dX8_run_64 : decode cX8_run 64 = .ok (.iconst 0, 1) := by decide +kernel
theorem dX8_run_65 : decode cX8_run 65 = .ok (.iaload, 1) := by decide +kernel
theorem dX8_run_66 : decode cX8_run 66 = .ok (.aload_n 0, 1) := by decide +kernel
theorem dX8_run_67 : decode cX8_run 67 = .ok (.getfield 36, 3) := by decide +kernel
theorem dX8_run_70 : decode cX8_run 70 = .ok (.iconst 1, 1) := by decide +kernel
theorem dX8_run_71 : decode cX8_run 71 = .ok (.iaload, 1) := by decide +kernel
theorem dX8_run_72 : decode cX8_run 72 = .ok (.invokevirtual 210, 3) := by decide +kernel
theorem dX8_run_75 : decode cX8_run 75 = .ok (.ireturn, 1) := by decide +kernel
theorem dX8_run_76 : decode cX8_run 76 = .ok (.iconst (-1), 1) := by decide +kernel
theorem dX8_run_77 : decode cX8_run 77 = .ok (.ireturn, 1) := by decide +kernel
theorem dX8_sums_0 : decode cX8_sums 0 = .ok (.iload_n 1, 1) := by decide +kernel
theorem dX8_sums_1 : decode cX8_sums 1 = .ok (.ifCond .eq 10, 3) := by decide +kernel
theorem dX8_sums_4 : decode cX8_sums 4 = .ok (.iload_n 1, 1) := by decide +kernel
theorem dX8_sums_5 : decode cX8_sums 5 = .ok (.iconst 1, 1) := by decide +kernel
theorem dX8_sums_6 : decode cX8_sums 6 = .ok (.if_icmp .eq 5, 3) := by decide +kernel
theorem dX8_sums_9 : decode cX8_sums 9 = .ok (.iconst (-1), 1) := by decide +kernel
theorem dX8_sums_10 : decode cX8_sums 10 = .ok (.ireturn, 1) := by decide +kernel
theorem dX8_sums_11 : decode cX8_sums 11 = .ok (.iload_n 2, 1) := by decide +kernel
theorem dX8_sums_12 : decode cX8_sums 12 = .ok (.lookupswitch 54 #[(0, 28), (1, 41)], 28) := by decide +kernel
theorem dX8_sums_40 : decode cX8_sums 40 = .ok (.aload_n 0, 1) := by decide +kernel
theorem dX8_sums_41 : decode cX8_sums 41 = .ok (.getfield 78, 3) := by decide +kernel
theorem dX8_sums_44 : decode cX8_sums 44 = .ok (.aload_n 0, 1) := by decide +kernel
theorem dX8_sums_45 : decode cX8_sums 45 = .ok (.getfield 21, 3) := by decide +kernel
theorem dX8_sums_48 : decode cX8_sums 48 = .ok (.iload_n 1, 1) := by decide +kernel
theorem dX8_sums_49 : decode cX8_sums 49 = .ok (.invokevirtual 213, 3) := by decide +kernel
theorem dX8_sums_52 : decode cX8_sums 52 = .ok (.ireturn, 1) := by decide +kernel
theorem dX8_sums_53 : decode cX8_sums 53 = .ok (.aload_n 0, 1) := by decide +kernel
theorem dX8_sums_54 : decode cX8_sums 54 = .ok (.getfield 78, 3) := by decide +kernel
theorem dX8_sums_57 : decode cX8_sums 57 = .ok (.aload_n 0, 1) := by decide +kernel
theorem dX8_sums_58 : decode cX8_sums 58 = .ok (.getfield 21, 3) := by decide +kernel
theorem dX8_sums_61 : decode cX8_sums 61 = .ok (.iload_n 1, 1) := by decide +kernel
theorem dX8_sums_62 : decode cX8_sums 62 = .ok (.invokevirtual 216, 3) := by decide +kernel
theorem dX8_sums_65 : decode cX8_sums 65 = .ok (.ireturn, 1) := by decide +kernel
theorem dX8_sums_66 : decode cX8_sums 66 = .ok (.iconst (-1), 1) := by decide +kernel
theorem dX8_sums_67 : decode cX8_sums 67 = .ok (.ireturn, 1) := by decide +kernel
theorem dX8_keep_0 : decode cX8_keep 0 = .ok (.iload_n 1, 1) := by decide +kernel
theorem dX8_keep_1 : decode cX8_keep 1 = .ok (.invokestatic 219, 3) := by decide +kernel
theorem dX8_keep_4 : decode cX8_keep 4 = .ok (.ifCond .ne 5, 3) := by decide +kernel
theorem dX8_keep_7 : decode cX8_keep 7 = .ok (.iconst (-1), 1) := by decide +kernel
theorem dX8_keep_8 : decode cX8_keep 8 = .ok (.ireturn, 1) := by decide +kernel
theorem dX8_keep_9 : decode cX8_keep 9 = .ok (.aload_n 0, 1) := by decide +kernel
theorem dX8_keep_10 : decode cX8_keep 10 = .ok (.getfield 28, 3) := by decide +kernel
theorem dX8_keep_13 : decode cX8_keep 13 = .ok (.iload_n 1, 1) := by decide +kernel
theorem dX8_keep_14 : decode cX8_keep 14 = .ok (.aaload, 1) := by decide +kernel
theorem dX8_keep_15 : decode cX8_keep 15 = .ok (.aload_n 0, 1) := by decide +kernel
theorem dX8_keep_16 : decode cX8_keep 16 = .ok (.getfield 21, 3) := by decide +kernel
theorem dX8_keep_19 : decode cX8_keep 19 = .ok (.invokevirtual 222, 3) := by decide +kernel
theorem dX8_keep_22 : decode cX8_keep 22 = .ok (.aload_n 0, 1) := by decide +kernel
theorem dX8_keep_23 : decode cX8_keep 23 = .ok (.getfield 32, 3) := by decide +kernel
theorem dX8_keep_26 : decode cX8_keep 26 = .ok (.iload_n 1, 1) := by decide +kernel
theorem dX8_keep_27 : decode cX8_keep 27 = .ok (.iconst 1, 1) := by decide +kernel
theorem dX8_keep_28 : decode cX8_keep 28 = .ok (.bastore, 1) := by decide +kernel
theorem dX8_keep_29 : decode cX8_keep 29 = .ok (.iconst 1, 1) := by decide +kernel
theorem dX8_keep_30 : decode cX8_keep 30 = .ok (.ireturn, 1) := by decide +kernel
theorem dX8_back_0 : decode cX8_back 0 = .ok (.aload_n 0, 1) := by decide +kernel
theorem dX8_back_1 : decode cX8_back 1 = .ok (.iload_n 1, 1) := by decide +kernel
theorem dX8_back_2 : decode cX8_back 2 = .ok (.invokevirtual 226, 3) := by decide +kernel
theorem dX8_back_5 : decode cX8_back 5 = .ok (.istore_n 2, 1) := by decide +kernel
theorem dX8_back_6 : decode cX8_back 6 = .ok (.iload_n 2, 1) := by decide +kernel
theorem dX8_back_7 : decode cX8_back 7 = .ok (.ifCond .eq 5, 3) := by decide +kernel
theorem dX8_back_10 : decode cX8_back 10 = .ok (.iload_n 2, 1) := by decide +kernel
theorem dX8_back_11 : decode cX8_back 11 = .ok (.ireturn, 1) := by decide +kernel
theorem dX8_back_12 : decode cX8_back 12 = .ok (.aload_n 0, 1) := by decide +kernel
theorem dX8_back_13 : decode cX8_back 13 = .ok (.getfield 21, 3) := by decide +kernel
theorem dX8_back_16 : decode cX8_back 16 = .ok (.aload_n 0, 1) := by decide +kernel
theorem dX8_back_17 : decode cX8_back 17 = .ok (.getfield 28, 3) := by decide +kernel
theorem dX8_back_20 : decode cX8_back 20 = .ok (.iload_n 1, 1) := by decide +kernel
theorem dX8_back_21 : decode cX8_back 21 = .ok (.aaload, 1) := by decide +kernel
theorem dX8_back_22 : decode cX8_back 22 = .ok (.invokevirtual 222, 3) := by decide +kernel
theorem dX8_back_25 : decode cX8_back 25 = .ok (.aload_n 0, 1) := by decide +kernel
theorem dX8_back_26 : decode cX8_back 26 = .ok (.invokevirtual 229, 3) := by decide +kernel
theorem dX8_back_29 : decode cX8_back 29 = .ok (.iconst 1, 1) := by decide +kernel
theorem dX8_back_30 : decode cX8_back 30 = .ok (.ireturn, 1) := by decide +kernel
theorem dX8_beside_0 : decode cX8_beside 0 = .ok (.aload_n 0, 1) := by decide +kernel
theorem dX8_beside_1 : decode cX8_beside 1 = .ok (.iload_n 1, 1) := by decide +kernel
theorem dX8_beside_2 : decode cX8_beside 2 = .ok (.invokevirtual 226, 3) := by decide +kernel
theorem dX8_beside_5 : decode cX8_beside 5 = .ok (.istore_n 2, 1) := by decide +kernel
theorem dX8_beside_6 : decode cX8_beside 6 = .ok (.iload_n 2, 1) := by decide +kernel
theorem dX8_beside_7 : decode cX8_beside 7 = .ok (.ifCond .eq 5, 3) := by decide +kernel
theorem dX8_beside_10 : decode cX8_beside 10 = .ok (.iload_n 2, 1) := by decide +kernel
theorem dX8_beside_11 : decode cX8_beside 11 = .ok (.ireturn, 1) := by decide +kernel
theorem dX8_beside_12 : decode cX8_beside 12 = .ok (.aload_n 0, 1) := by decide +kernel
theorem dX8_beside_13 : decode cX8_beside 13 = .ok (.getfield 28, 3) := by decide +kernel
theorem dX8_beside_16 : decode cX8_beside 16 = .ok (.iload_n 1, 1) := by decide +kernel
theorem dX8_beside_17 : decode cX8_beside 17 = .ok (.aaload, 1) := by decide +kernel
theorem dX8_beside_18 : decode cX8_beside 18 = .ok (.astore_n 3, 1) := by decide +kernel
theorem dX8_beside_19 : decode cX8_beside 19 = .ok (.iconst 0, 1) := by decide +kernel
theorem dX8_beside_20 : decode cX8_beside 20 = .ok (.istore 4, 2) := by decide +kernel
theorem dX8_beside_22 : decode cX8_beside 22 = .ok (.iload 4, 2) := by decide +kernel
theorem dX8_beside_24 : decode cX8_beside 24 = .ok (.iconst 3, 1) := by decide +kernel
theorem dX8_beside_25 : decode cX8_beside 25 = .ok (.if_icmp .ge 35, 3) := by decide +kernel
theorem dX8_beside_28 : decode cX8_beside 28 = .ok (.aload_n 0, 1) := by decide +kernel
theorem dX8_beside_29 : decode cX8_beside 29 = .ok (.getfield 21, 3) := by decide +kernel
theorem dX8_beside_32 : decode cX8_beside 32 = .ok (.getfield 116, 3) := by decide +kernel
theorem dX8_beside_35 : decode cX8_beside 35 = .ok (.iload 4, 2) := by decide +kernel
theorem dX8_beside_37 : decode cX8_beside 37 = .ok (.iaload, 1) := by decide +kernel
theorem dX8_beside_38 : decode cX8_beside 38 = .ok (.aload_n 3, 1) := by decide +kernel
theorem dX8_beside_39 : decode cX8_beside 39 = .ok (.getfield 116, 3) := by decide +kernel
theorem dX8_beside_42 : decode cX8_beside 42 = .ok (.iload 4, 2) := by decide +kernel
theorem dX8_beside_44 : decode cX8_beside 44 = .ok (.iaload, 1) := by decide +kernel
theorem dX8_beside_45 : decode cX8_beside 45 = .ok (.iadd, 1) := by decide +kernel
theorem dX8_beside_46 : decode cX8_beside 46 = .ok (.bipush 9, 2) := by decide +kernel
theorem dX8_beside_48 : decode cX8_beside 48 = .ok (.if_icmp .le 6, 3) := by decide +kernel
theorem dX8_beside_51 : decode cX8_beside 51 = .ok (.bipush (-3), 2) := by decide +kernel
theorem dX8_beside_53 : decode cX8_beside 53 = .ok (.ireturn, 1) := by decide +kernel
theorem dX8_beside_54 : decode cX8_beside 54 = .ok (.iinc 4 1, 3) := by decide +kernel
theorem dX8_beside_57 : decode cX8_beside 57 = .ok (.goto (-35), 3) := by decide +kernel
theorem dX8_beside_60 : decode cX8_beside 60 = .ok (.aload_n 0, 1) := by decide +kernel
theorem dX8_beside_61 : decode cX8_beside 61 = .ok (.getfield 21, 3) := by decide +kernel
theorem dX8_beside_64 : decode cX8_beside 64 = .ok (.getfield 119, 3) := by decide +kernel
theorem dX8_beside_67 : decode cX8_beside 67 = .ok (.aload_n 3, 1) := by decide +kernel
theorem dX8_beside_68 : decode cX8_beside 68 = .ok (.getfield 119, 3) := by decide +kernel
theorem dX8_beside_71 : decode cX8_beside 71 = .ok (.iadd, 1) := by decide +kernel
theorem dX8_beside_72 : decode cX8_beside 72 = .ok (.bipush 40, 2) := by decide +kernel
theorem dX8_beside_74 : decode cX8_beside 74 = .ok (.if_icmp .le 6, 3) := by decide +kernel
theorem dX8_beside_77 : decode cX8_beside 77 = .ok (.bipush (-2), 2) := by decide +kernel
theorem dX8_beside_79 : decode cX8_beside 79 = .ok (.ireturn, 1) := by decide +kernel
theorem dX8_beside_80 : decode cX8_beside 80 = .ok (.aload_n 0, 1) := by decide +kernel
theorem dX8_beside_81 : decode cX8_beside 81 = .ok (.getfield 50, 3) := by decide +kernel
theorem dX8_beside_84 : decode cX8_beside 84 = .ok (.aload_n 0, 1) := by decide +kernel
theorem dX8_beside_85 : decode cX8_beside 85 = .ok (.getfield 21, 3) := by decide +kernel
theorem dX8_beside_88 : decode cX8_beside 88 = .ok (.aload_n 3, 1) := by decide +kernel
theorem dX8_beside_89 : decode cX8_beside 89 = .ok (.aload_n 0, 1) := by decide +kernel
theorem dX8_beside_90 : decode cX8_beside 90 = .ok (.getfield 25, 3) := by decide +kernel
theorem dX8_beside_93 : decode cX8_beside 93 = .ok (.invokevirtual 232, 3) := by decide +kernel
theorem dX8_beside_96 : decode cX8_beside 96 = .ok (.aload_n 0, 1) := by decide +kernel
theorem dX8_beside_97 : decode cX8_beside 97 = .ok (.invokevirtual 179, 3) := by decide +kernel
theorem dX8_beside_100 : decode cX8_beside 100 = .ok (.aload_n 0, 1) := by decide +kernel
theorem dX8_beside_101 : decode cX8_beside 101 = .ok (.getfield 21, 3) := by decide +kernel
theorem dX8_beside_104 : decode cX8_beside 104 = .ok (.getfield 119, 3) := by decide +kernel
theorem dX8_beside_107 : decode cX8_beside 107 = .ok (.ireturn, 1) := by decide +kernel
theorem dX8_within_0 : decode cX8_within 0 = .ok (.aload_n 0, 1) := by decide +kernel
theorem dX8_within_1 : decode cX8_within 1 = .ok (.iload_n 1, 1) := by decide +kernel
theorem dX8_within_2 : decode cX8_within 2 = .ok (.invokevirtual 226, 3) := by decide +kernel
theorem dX8_within_5 : decode cX8_within 5 = .ok (.istore_n 2, 1) := by decide +kernel
theorem dX8_within_6 : decode cX8_within 6 = .ok (.iload_n 2, 1) := by decide +kernel
theorem dX8_within_7 : decode cX8_within 7 = .ok (.ifCond .eq 5, 3) := by decide +kernel
theorem dX8_within_10 : decode cX8_within 10 = .ok (.iload_n 2, 1) := by decide +kernel
theorem dX8_within_11 : decode cX8_within 11 = .ok (.ireturn, 1) := by decide +kernel
theorem dX8_within_12 : decode cX8_within 12 = .ok (.aload_n 0, 1) := by decide +kernel
theorem dX8_within_13 : decode cX8_within 13 = .ok (.getfield 28, 3) := by decide +kernel
theorem dX8_within_16 : decode cX8_within 16 = .ok (.iload_n 1, 1) := by decide +kernel
theorem dX8_within_17 : decode cX8_within 17 = .ok (.aaload, 1) := by decide +kernel
theorem dX8_within_18 : decode cX8_within 18 = .ok (.astore_n 3, 1) := by decide +kernel
theorem dX8_within_19 : decode cX8_within 19 = .ok (.iconst 0, 1) := by decide +kernel
theorem dX8_within_20 : decode cX8_within 20 = .ok (.istore 4, 2) := by decide +kernel
theorem dX8_within_22 : decode cX8_within 22 = .ok (.iload 4, 2) := by decide +kernel
theorem dX8_within_24 : decode cX8_within 24 = .ok (.iconst 3, 1) := by decide +kernel
theorem dX8_within_25 : decode cX8_within 25 = .ok (.if_icmp .ge 35, 3) := by decide +kernel
theorem dX8_within_28 : decode cX8_within 28 = .ok (.aload_n 0, 1) := by decide +kernel
theorem dX8_within_29 : decode cX8_within 29 = .ok (.getfield 21, 3) := by decide +kernel
theorem dX8_within_32 : decode cX8_within 32 = .ok (.getfield 116, 3) := by decide +kernel
theorem dX8_within_35 : decode cX8_within 35 = .ok (.iload 4, 2) := by decide +kernel
theorem dX8_within_37 : decode cX8_within 37 = .ok (.iaload, 1) := by decide +kernel
theorem dX8_within_38 : decode cX8_within 38 = .ok (.aload_n 3, 1) := by decide +kernel
theorem dX8_within_39 : decode cX8_within 39 = .ok (.getfield 116, 3) := by decide +kernel
theorem dX8_within_42 : decode cX8_within 42 = .ok (.iload 4, 2) := by decide +kernel
theorem dX8_within_44 : decode cX8_within 44 = .ok (.iaload, 1) := by decide +kernel
theorem dX8_within_45 : decode cX8_within 45 = .ok (.imul, 1) := by decide +kernel
theorem dX8_within_46 : decode cX8_within 46 = .ok (.bipush 9, 2) := by decide +kernel
theorem dX8_within_48 : decode cX8_within 48 = .ok (.if_icmp .le 6, 3) := by decide +kernel
theorem dX8_within_51 : decode cX8_within 51 = .ok (.bipush (-3), 2) := by decide +kernel
theorem dX8_within_53 : decode cX8_within 53 = .ok (.ireturn, 1) := by decide +kernel
theorem dX8_within_54 : decode cX8_within 54 = .ok (.iinc 4 1, 3) := by decide +kernel
theorem dX8_within_57 : decode cX8_within 57 = .ok (.goto (-35), 3) := by decide +kernel
theorem dX8_within_60 : decode cX8_within 60 = .ok (.aload_n 0, 1) := by decide +kernel
theorem dX8_within_61 : decode cX8_within 61 = .ok (.getfield 21, 3) := by decide +kernel
theorem dX8_within_64 : decode cX8_within 64 = .ok (.getfield 119, 3) := by decide +kernel
theorem dX8_within_67 : decode cX8_within 67 = .ok (.aload_n 3, 1) := by decide +kernel
theorem dX8_within_68 : decode cX8_within 68 = .ok (.getfield 119, 3) := by decide +kernel
theorem dX8_within_71 : decode cX8_within 71 = .ok (.imul, 1) := by decide +kernel
theorem dX8_within_72 : decode cX8_within 72 = .ok (.bipush 40, 2) := by decide +kernel
theorem dX8_within_74 : decode cX8_within 74 = .ok (.if_icmp .le 6, 3) := by decide +kernel
theorem dX8_within_77 : decode cX8_within 77 = .ok (.bipush (-2), 2) := by decide +kernel
theorem dX8_within_79 : decode cX8_within 79 = .ok (.ireturn, 1) := by decide +kernel
theorem dX8_within_80 : decode cX8_within 80 = .ok (.aload_n 0, 1) := by decide +kernel
theorem dX8_within_81 : decode cX8_within 81 = .ok (.getfield 50, 3) := by decide +kernel
theorem dX8_within_84 : decode cX8_within 84 = .ok (.aload_n 0, 1) := by decide +kernel
theorem dX8_within_85 : decode cX8_within 85 = .ok (.getfield 21, 3) := by decide +kernel
theorem dX8_within_88 : decode cX8_within 88 = .ok (.aload_n 3, 1) := by decide +kernel
theorem dX8_within_89 : decode cX8_within 89 = .ok (.aload_n 0, 1) := by decide +kernel
theorem dX8_within_90 : decode cX8_within 90 = .ok (.getfield 25, 3) := by decide +kernel
theorem dX8_within_93 : decode cX8_within 93 = .ok (.invokevirtual 236, 3) := by decide +kernel
theorem dX8_within_96 : decode cX8_within 96 = .ok (.aload_n 0, 1) := by decide +kernel
theorem dX8_within_97 : decode cX8_within 97 = .ok (.invokevirtual 179, 3) := by decide +kernel
theorem dX8_within_100 : decode cX8_within 100 = .ok (.aload_n 0, 1) := by decide +kernel
theorem dX8_within_101 : decode cX8_within 101 = .ok (.getfield 21, 3) := by decide +kernel
theorem dX8_within_104 : decode cX8_within 104 = .ok (.getfield 119, 3) := by decide +kernel
theorem dX8_within_107 : decode cX8_within 107 = .ok (.ireturn, 1) := by decide +kernel
theorem dX8_isSize_0 : decode cX8_isSize 0 = .ok (.iload_n 0, 1) := by decide +kernel
theorem dX8_isSize_1 : decode cX8_isSize 1 = .ok (.iconst 1, 1) := by decide +kernel
theorem dX8_isSize_2 : decode cX8_isSize 2 = .ok (.if_icmp .lt 13, 3) := by decide +kernel
theorem dX8_isSize_5 : decode cX8_isSize 5 = .ok (.iload_n 0, 1) := by decide +kernel
theorem dX8_isSize_6 : decode cX8_isSize 6 = .ok (.bipush 9, 2) := by decide +kernel
theorem dX8_isSize_8 : decode cX8_isSize 8 = .ok (.if_icmp .gt 7, 3) := by decide +kernel
theorem dX8_isSize_11 : decode cX8_isSize 11 = .ok (.iconst 1, 1) := by decide +kernel
theorem dX8_isSize_12 : decode cX8_isSize 12 = .ok (.goto 4, 3) := by decide +kernel
theorem dX8_isSize_15 : decode cX8_isSize 15 = .ok (.iconst 0, 1) := by decide +kernel
theorem dX8_isSize_16 : decode cX8_isSize 16 = .ok (.ireturn, 1) := by decide +kernel
theorem dX8_isWay_0 : decode cX8_isWay 0 = .ok (.iload_n 0, 1) := by decide +kernel
theorem dX8_isWay_1 : decode cX8_isWay 1 = .ok (.ifCond .lt 12, 3) := by decide +kernel
theorem dX8_isWay_4 : decode cX8_isWay 4 = .ok (.iload_n 0, 1) := by decide +kernel
theorem dX8_isWay_5 : decode cX8_isWay 5 = .ok (.iconst 3, 1) := by decide +kernel
theorem dX8_isWay_6 : decode cX8_isWay 6 = .ok (.if_icmp .ge 7, 3) := by decide +kernel
theorem dX8_isWay_9 : decode cX8_isWay 9 = .ok (.iconst 1, 1) := by decide +kernel
theorem dX8_isWay_10 : decode cX8_isWay 10 = .ok (.goto 4, 3) := by decide +kernel
theorem dX8_isWay_13 : decode cX8_isWay 13 = .ok (.iconst 0, 1) := by decide +kernel
theorem dX8_isWay_14 : decode cX8_isWay 14 = .ok (.ireturn, 1) := by decide +kernel
theorem dX8_isPlace_0 : decode cX8_isPlace 0 = .ok (.iload_n 0, 1) := by decide +kernel
theorem dX8_isPlace_1 : decode cX8_isPlace 1 = .ok (.ifCond .lt 12, 3) := by decide +kernel
theorem dX8_isPlace_4 : decode cX8_isPlace 4 = .ok (.iload_n 0, 1) := by decide +kernel
theorem dX8_isPlace_5 : decode cX8_isPlace 5 = .ok (.iconst 4, 1) := by decide +kernel
theorem dX8_isPlace_6 : decode cX8_isPlace 6 = .ok (.if_icmp .ge 7, 3) := by decide +kernel
theorem dX8_isPlace_9 : decode cX8_isPlace 9 = .ok (.iconst 1, 1) := by decide +kernel
theorem dX8_isPlace_10 : decode cX8_isPlace 10 = .ok (.goto 4, 3) := by decide +kernel
theorem dX8_isPlace_13 : decode cX8_isPlace 13 = .ok (.iconst 0, 1) := by decide +kernel
theorem dX8_isPlace_14 : decode cX8_isPlace 14 = .ok (.ireturn, 1) := by decide +kernel
theorem dX8_faultOfPlace_0 : decode cX8_faultOfPlace 0 = .ok (.iload_n 1, 1) := by decide +kernel
theorem dX8_faultOfPlace_1 : decode cX8_faultOfPlace 1 = .ok (.invokestatic 219, 3) := by decide +kernel
theorem dX8_faultOfPlace_4 : decode cX8_faultOfPlace 4 = .ok (.ifCond .ne 5, 3) := by decide +kernel
theorem dX8_faultOfPlace_7 : decode cX8_faultOfPlace 7 = .ok (.iconst (-1), 1) := by decide +kernel
theorem dX8_faultOfPlace_8 : decode cX8_faultOfPlace 8 = .ok (.ireturn, 1) := by decide +kernel
theorem dX8_faultOfPlace_9 : decode cX8_faultOfPlace 9 = .ok (.aload_n 0, 1) := by decide +kernel
theorem dX8_faultOfPlace_10 : decode cX8_faultOfPlace 10 = .ok (.getfield 32, 3) := by decide +kernel
theorem dX8_faultOfPlace_13 : decode cX8_faultOfPlace 13 = .ok (.iload_n 1, 1) := by decide +kernel
theorem dX8_faultOfPlace_14 : decode cX8_faultOfPlace 14 = .ok (.baload, 1) := by decide +kernel
theorem dX8_faultOfPlace_15 : decode cX8_faultOfPlace 15 = .ok (.ifCond .eq 7, 3) := by decide +kernel
theorem dX8_faultOfPlace_18 : decode cX8_faultOfPlace 18 = .ok (.iconst 0, 1) := by decide +kernel
theorem dX8_faultOfPlace_19 : decode cX8_faultOfPlace 19 = .ok (.goto 5, 3) := by decide +kernel
theorem dX8_faultOfPlace_22 : decode cX8_faultOfPlace 22 = .ok (.bipush (-4), 2) := by decide +kernel
theorem dX8_faultOfPlace_24 : decode cX8_faultOfPlace 24 = .ok (.ireturn, 1) := by decide +kernel
theorem dX8_startBox_0 : decode cX8_startBox 0 = .ok (.aload_n 0, 1) := by decide +kernel
theorem dX8_startBox_1 : decode cX8_startBox 1 = .ok (.getfield 21, 3) := by decide +kernel
theorem dX8_startBox_4 : decode cX8_startBox 4 = .ok (.iload_n 1, 1) := by decide +kernel
theorem dX8_startBox_5 : decode cX8_startBox 5 = .ok (.iload_n 2, 1) := by decide +kernel
theorem dX8_startBox_6 : decode cX8_startBox 6 = .ok (.iload_n 3, 1) := by decide +kernel
theorem dX8_startBox_7 : decode cX8_startBox 7 = .ok (.invokevirtual 239, 3) := by decide +kernel
theorem dX8_startBox_10 : decode cX8_startBox 10 = .ok (.aload_n 0, 1) := by decide +kernel
theorem dX8_startBox_11 : decode cX8_startBox 11 = .ok (.invokevirtual 229, 3) := by decide +kernel
theorem dX8_startBox_14 : decode cX8_startBox 14 = .ok (.return_, 1) := by decide +kernel
theorem dX8_emptyHands_0 : decode cX8_emptyHands 0 = .ok (.aload_n 0, 1) := by decide +kernel
theorem dX8_emptyHands_1 : decode cX8_emptyHands 1 = .ok (.getfield 36, 3) := by decide +kernel
theorem dX8_emptyHands_4 : decode cX8_emptyHands 4 = .ok (.iconst 0, 1) := by decide +kernel
theorem dX8_emptyHands_5 : decode cX8_emptyHands 5 = .ok (.iconst 0, 1) := by decide +kernel
theorem dX8_emptyHands_6 : decode cX8_emptyHands 6 = .ok (.iastore, 1) := by decide +kernel
theorem dX8_emptyHands_7 : decode cX8_emptyHands 7 = .ok (.aload_n 0, 1) := by decide +kernel
theorem dX8_emptyHands_8 : decode cX8_emptyHands 8 = .ok (.getfield 36, 3) := by decide +kernel
theorem dX8_emptyHands_11 : decode cX8_emptyHands 11 = .ok (.iconst 1, 1) := by decide +kernel
theorem dX8_emptyHands_12 : decode cX8_emptyHands 12 = .ok (.iconst 0, 1) := by decide +kernel
theorem dX8_emptyHands_13 : decode cX8_emptyHands 13 = .ok (.iastore, 1) := by decide +kernel
theorem dX8_emptyHands_14 : decode cX8_emptyHands 14 = .ok (.return_, 1) := by decide +kernel
theorem dX8_takeSpare_0 : decode cX8_takeSpare 0 = .ok (.aload_n 0, 1) := by decide +kernel
theorem dX8_takeSpare_1 : decode cX8_takeSpare 1 = .ok (.getfield 21, 3) := by decide +kernel
theorem dX8_takeSpare_4 : decode cX8_takeSpare 4 = .ok (.astore_n 1, 1) := by decide +kernel
theorem dX8_takeSpare_5 : decode cX8_takeSpare 5 = .ok (.aload_n 0, 1) := by decide +kernel
theorem dX8_takeSpare_6 : decode cX8_takeSpare 6 = .ok (.aload_n 0, 1) := by decide +kernel
theorem dX8_takeSpare_7 : decode cX8_takeSpare 7 = .ok (.getfield 25, 3) := by decide +kernel
theorem dX8_takeSpare_10 : decode cX8_takeSpare 10 = .ok (.putfield 21, 3) := by decide +kernel
theorem dX8_takeSpare_13 : decode cX8_takeSpare 13 = .ok (.aload_n 0, 1) := by decide +kernel
theorem dX8_takeSpare_14 : decode cX8_takeSpare 14 = .ok (.aload_n 1, 1) := by decide +kernel
theorem dX8_takeSpare_15 : decode cX8_takeSpare 15 = .ok (.putfield 25, 3) := by decide +kernel
theorem dX8_takeSpare_18 : decode cX8_takeSpare 18 = .ok (.aload_n 0, 1) := by decide +kernel
theorem dX8_takeSpare_19 : decode cX8_takeSpare 19 = .ok (.invokevirtual 229, 3) := by decide +kernel
theorem dX8_takeSpare_22 : decode cX8_takeSpare 22 = .ok (.return_, 1) := by decide +kernel
theorem dX8_rankBy_0 : decode cX8_rankBy 0 = .ok (.iload_n 1, 1) := by decide +kernel
theorem dX8_rankBy_1 : decode cX8_rankBy 1 = .ok (.ifCond .ne 7, 3) := by decide +kernel
theorem dX8_rankBy_4 : decode cX8_rankBy 4 = .ok (.iconst 1, 1) := by decide +kernel
theorem dX8_rankBy_5 : decode cX8_rankBy 5 = .ok (.goto 4, 3) := by decide +kernel
theorem dX8_rankBy_8 : decode cX8_rankBy 8 = .ok (.iconst 0, 1) := by decide +kernel
theorem dX8_rankBy_9 : decode cX8_rankBy 9 = .ok (.istore_n 2, 1) := by decide +kernel
theorem dX8_rankBy_10 : decode cX8_rankBy 10 = .ok (.iload_n 1, 1) := by decide +kernel
theorem dX8_rankBy_11 : decode cX8_rankBy 11 = .ok (.iconst 2, 1) := by decide +kernel
theorem dX8_rankBy_12 : decode cX8_rankBy 12 = .ok (.if_icmp .ne 7, 3) := by decide +kernel
theorem dX8_rankBy_15 : decode cX8_rankBy 15 = .ok (.iconst 1, 1) := by decide +kernel
theorem dX8_rankBy_16 : decode cX8_rankBy 16 = .ok (.goto 4, 3) := by decide +kernel
theorem dX8_rankBy_19 : decode cX8_rankBy 19 = .ok (.iconst 2, 1) := by decide +kernel
theorem dX8_rankBy_20 : decode cX8_rankBy 20 = .ok (.istore_n 3, 1) := by decide +kernel
theorem dX8_rankBy_21 : decode cX8_rankBy 21 = .ok (.aload_n 0, 1) := by decide +kernel
theorem dX8_rankBy_22 : decode cX8_rankBy 22 = .ok (.getfield 64, 3) := by decide +kernel
theorem dX8_rankBy_25 : decode cX8_rankBy 25 = .ok (.invokevirtual 242, 3) := by decide +kernel
theorem dX8_rankBy_28 : decode cX8_rankBy 28 = .ok (.iconst 0, 1) := by decide +kernel
theorem dX8_rankBy_29 : decode cX8_rankBy 29 = .ok (.istore 4, 2) := by decide +kernel
theorem dX8_rankBy_31 : decode cX8_rankBy 31 = .ok (.iload 4, 2) := by decide +kernel
theorem dX8_rankBy_33 : decode cX8_rankBy 33 = .ok (.aload_n 0, 1) := by decide +kernel
theorem dX8_rankBy_34 : decode cX8_rankBy 34 = .ok (.getfield 21, 3) := by decide +kernel
theorem dX8_rankBy_37 : decode cX8_rankBy 37 = .ok (.getfield 116, 3) := by decide +kernel
theorem dX8_rankBy_40 : decode cX8_rankBy 40 = .ok (.iload_n 2, 1) := by decide +kernel
theorem dX8_rankBy_41 : decode cX8_rankBy 41 = .ok (.iaload, 1) := by decide +kernel
theorem dX8_rankBy_42 : decode cX8_rankBy 42 = .ok (.if_icmp .ge 52, 3) := by decide +kernel
theorem dX8_rankBy_45 : decode cX8_rankBy 45 = .ok (.iconst 0, 1) := by decide +kernel
theorem dX8_rankBy_46 : decode cX8_rankBy 46 = .ok (.istore 5, 2) := by decide +kernel
theorem dX8_rankBy_48 : decode cX8_rankBy 48 = .ok (.iload 5, 2) := by decide +kernel
theorem dX8_rankBy_50 : decode cX8_rankBy 50 = .ok (.aload_n 0, 1) := by decide +kernel
theorem dX8_rankBy_51 : decode cX8_rankBy 51 = .ok (.getfield 21, 3) := by decide +kernel
theorem dX8_rankBy_54 : decode cX8_rankBy 54 = .ok (.getfield 116, 3) := by decide +kernel
theorem dX8_rankBy_57 : decode cX8_rankBy 57 = .ok (.iload_n 3, 1) := by decide +kernel
theorem dX8_rankBy_58 : decode cX8_rankBy 58 = .ok (.iaload, 1) := by decide +kernel
theorem dX8_rankBy_59 : decode cX8_rankBy 59 = .ok (.if_icmp .ge 29, 3) := by decide +kernel
theorem dX8_rankBy_62 : decode cX8_rankBy 62 = .ok (.aload_n 0, 1) := by decide +kernel
theorem dX8_rankBy_63 : decode cX8_rankBy 63 = .ok (.getfield 64, 3) := by decide +kernel
theorem dX8_rankBy_66 : decode cX8_rankBy 66 = .ok (.aload_n 0, 1) := by decide +kernel
theorem dX8_rankBy_67 : decode cX8_rankBy 67 = .ok (.getfield 21, 3) := by decide +kernel
theorem dX8_rankBy_70 : decode cX8_rankBy 70 = .ok (.iload_n 1, 1) := by decide +kernel
theorem dX8_rankBy_71 : decode cX8_rankBy 71 = .ok (.iload 4, 2) := by decide +kernel
theorem dX8_rankBy_73 : decode cX8_rankBy 73 = .ok (.iload 5, 2) := by decide +kernel
theorem dX8_rankBy_75 : decode cX8_rankBy 75 = .ok (.invokevirtual 245, 3) := by decide +kernel
theorem dX8_rankBy_78 : decode cX8_rankBy 78 = .ok (.invokevirtual 248, 3) := by decide +kernel
theorem dX8_rankBy_81 : decode cX8_rankBy 81 = .ok (.pop, 1) := by decide +kernel
theorem dX8_rankBy_82 : decode cX8_rankBy 82 = .ok (.iinc 5 1, 3) := by decide +kernel
theorem dX8_rankBy_85 : decode cX8_rankBy 85 = .ok (.goto (-37), 3) := by decide +kernel
theorem dX8_rankBy_88 : decode cX8_rankBy 88 = .ok (.iinc 4 1, 3) := by decide +kernel
theorem dX8_rankBy_91 : decode cX8_rankBy 91 = .ok (.goto (-60), 3) := by decide +kernel
theorem dX8_rankBy_94 : decode cX8_rankBy 94 = .ok (.aload_n 0, 1) := by decide +kernel
theorem dX8_rankBy_95 : decode cX8_rankBy 95 = .ok (.getfield 64, 3) := by decide +kernel
theorem dX8_rankBy_98 : decode cX8_rankBy 98 = .ok (.getfield 251, 3) := by decide +kernel
theorem dX8_rankBy_101 : decode cX8_rankBy 101 = .ok (.ireturn, 1) := by decide +kernel
