theorem dX0_init_0 : decode cX0_init 0 = .ok (.aload_n 0, 1) := by decide +kernel
theorem dX0_init_1 : decode cX0_init 1 = .ok (.invokespecial 3, 3) := by decide +kernel
theorem dX0_init_4 : decode cX0_init 4 = .ok (.aload_n 0, 1) := by decide +kernel
theorem dX0_init_5 : decode cX0_init 5 = .ok (.bipush 9, 2) := by decide +kernel
theorem dX0_init_7 : decode cX0_init 7 = .ok (.newarray .int, 2) := by decide +kernel
theorem dX0_init_9 : decode cX0_init 9 = .ok (.putfield 9, 3) := by decide +kernel
theorem dX0_init_12 : decode cX0_init 12 = .ok (.aload_n 0, 1) := by decide +kernel
theorem dX0_init_13 : decode cX0_init 13 = .ok (.bipush 9, 2) := by decide +kernel
theorem dX0_init_15 : decode cX0_init 15 = .ok (.newarray .int, 2) := by decide +kernel
theorem dX0_init_17 : decode cX0_init 17 = .ok (.putfield 15, 3) := by decide +kernel
theorem dX0_init_20 : decode cX0_init 20 = .ok (.aload_n 0, 1) := by decide +kernel
theorem dX0_init_21 : decode cX0_init 21 = .ok (.bipush 9, 2) := by decide +kernel
theorem dX0_init_23 : decode cX0_init 23 = .ok (.newarray .int, 2) := by decide +kernel
theorem dX0_init_25 : decode cX0_init 25 = .ok (.putfield 18, 3) := by decide +kernel
theorem dX0_init_28 : decode cX0_init 28 = .ok (.aload_n 0, 1) := by decide +kernel
theorem dX0_init_29 : decode cX0_init 29 = .ok (.aload_n 1, 1) := by decide +kernel
theorem dX0_init_30 : decode cX0_init 30 = .ok (.putfield 21, 3) := by decide +kernel
theorem dX0_init_33 : decode cX0_init 33 = .ok (.return_, 1) := by decide +kernel
theorem dX0_clear_0 : decode cX0_clear 0 = .ok (.aload_n 0, 1) := by decide +kernel
theorem dX0_clear_1 : decode cX0_clear 1 = .ok (.iconst 0, 1) := by decide +kernel
theorem dX0_clear_2 : decode cX0_clear 2 = .ok (.putfield 25, 3) := by decide +kernel
theorem dX0_clear_5 : decode cX0_clear 5 = .ok (.return_, 1) := by decide +kernel
theorem dX0_reduce_0 : decode cX0_reduce 0 = .ok (.iload_n 1, 1) := by decide +kernel
theorem dX0_reduce_1 : decode cX0_reduce 1 = .ok (.istore_n 2, 1) := by decide +kernel
theorem dX0_reduce_2 : decode cX0_reduce 2 = .ok (.iconst 0, 1) := by decide +kernel
theorem dX0_reduce_3 : decode cX0_reduce 3 = .ok (.istore_n 3, 1) := by decide +kernel
theorem dX0_reduce_4 : decode cX0_reduce 4 = .ok (.iload_n 3, 1) := by decide +kernel
theorem dX0_reduce_5 : decode cX0_reduce 5 = .ok (.aload_n 0, 1) := by decide +kernel
theorem dX0_reduce_6 : decode cX0_reduce 6 = .ok (.getfield 25, 3) := by decide +kernel
theorem dX0_reduce_9 : decode cX0_reduce 9 = .ok (.if_icmp .ge 38, 3) := by decide +kernel
theorem dX0_reduce_12 : decode cX0_reduce 12 = .ok (.aload_n 0, 1) := by decide +kernel
theorem dX0_reduce_13 : decode cX0_reduce 13 = .ok (.getfield 21, 3) := by decide +kernel
theorem dX0_reduce_16 : decode cX0_reduce 16 = .ok (.iload_n 2, 1) := by decide +kernel
theorem dX0_reduce_17 : decode cX0_reduce 17 = .ok (.aload_n 0, 1) := by decide +kernel
theorem dX0_reduce_18 : decode cX0_reduce 18 = .ok (.getfield 21, 3) := by decide +kernel
theorem dX0_reduce_21 : decode cX0_reduce 21 = .ok (.iload_n 2, 1) := by decide +kernel
theorem dX0_reduce_22 : decode cX0_reduce 22 = .ok (.aload_n 0, 1) := by decide +kernel
theorem dX0_reduce_23 : decode cX0_reduce 23 = .ok (.getfield 15, 3) := by decide +kernel
theorem dX0_reduce_26 : decode cX0_reduce 26 = .ok (.iload_n 3, 1) := by decide +kernel
theorem dX0_reduce_27 : decode cX0_reduce 27 = .ok (.iaload, 1) := by decide +kernel
theorem dX0_reduce_28 : decode cX0_reduce 28 = .ok (.invokevirtual 29, 3) := by decide +kernel
theorem dX0_reduce_31 : decode cX0_reduce 31 = .ok (.aload_n 0, 1) := by decide +kernel
theorem dX0_reduce_32 : decode cX0_reduce 32 = .ok (.getfield 9, 3) := by decide +kernel
theorem dX0_reduce_35 : decode cX0_reduce 35 = .ok (.iload_n 3, 1) := by decide +kernel
theorem dX0_reduce_36 : decode cX0_reduce 36 = .ok (.iaload, 1) := by decide +kernel
theorem dX0_reduce_37 : decode cX0_reduce 37 = .ok (.invokevirtual 35, 3) := by decide +kernel
theorem dX0_reduce_40 : decode cX0_reduce 40 = .ok (.istore_n 2, 1) := by decide +kernel
theorem dX0_reduce_41 : decode cX0_reduce 41 = .ok (.iinc 3 1, 3) := by decide +kernel
theorem dX0_reduce_44 : decode cX0_reduce 44 = .ok (.goto (-40), 3) := by decide +kernel
theorem dX0_reduce_47 : decode cX0_reduce 47 = .ok (.iload_n 2, 1) := by decide +kernel
theorem dX0_reduce_48 : decode cX0_reduce 48 = .ok (.ireturn, 1) := by decide +kernel
theorem dX0_blendOf_0 : decode cX0_blendOf 0 = .ok (.iload_n 1, 1) := by decide +kernel
theorem dX0_blendOf_1 : decode cX0_blendOf 1 = .ok (.istore_n 2, 1) := by decide +kernel
theorem dX0_blendOf_2 : decode cX0_blendOf 2 = .ok (.iconst 0, 1) := by decide +kernel
theorem dX0_blendOf_3 : decode cX0_blendOf 3 = .ok (.istore_n 3, 1) := by decide +kernel
theorem dX0_blendOf_4 : decode cX0_blendOf 4 = .ok (.iconst 0, 1) := by decide +kernel
theorem dX0_blendOf_5 : decode cX0_blendOf 5 = .ok (.istore 4, 2) := by decide +kernel
theorem dX0_blendOf_7 : decode cX0_blendOf 7 = .ok (.iload 4, 2) := by decide +kernel
theorem dX0_blendOf_9 : decode cX0_blendOf 9 = .ok (.aload_n 0, 1) := by decide +kernel
theorem dX0_blendOf_10 : decode cX0_blendOf 10 = .ok (.getfield 25, 3) := by decide +kernel
theorem dX0_blendOf_13 : decode cX0_blendOf 13 = .ok (.if_icmp .ge 62, 3) := by decide +kernel
theorem dX0_blendOf_16 : decode cX0_blendOf 16 = .ok (.aload_n 0, 1) := by decide +kernel
theorem dX0_blendOf_17 : decode cX0_blendOf 17 = .ok (.getfield 21, 3) := by decide +kernel
theorem dX0_blendOf_20 : decode cX0_blendOf 20 = .ok (.iload_n 2, 1) := by decide +kernel
theorem dX0_blendOf_21 : decode cX0_blendOf 21 = .ok (.aload_n 0, 1) := by decide +kernel
theorem dX0_blendOf_22 : decode cX0_blendOf 22 = .ok (.getfield 15, 3) := by decide +kernel
theorem dX0_blendOf_25 : decode cX0_blendOf 25 = .ok (.iload 4, 2) := by decide +kernel
theorem dX0_blendOf_27 : decode cX0_blendOf 27 = .ok (.iaload, 1) := by decide +kernel
theorem dX0_blendOf_28 : decode cX0_blendOf 28 = .ok (.invokevirtual 29, 3) := by decide +kernel
theorem dX0_blendOf_31 : decode cX0_blendOf 31 = .ok (.istore 5, 2) := by decide +kernel
theorem dX0_blendOf_33 : decode cX0_blendOf 33 = .ok (.aload_n 0, 1) := by decide +kernel
theorem dX0_blendOf_34 : decode cX0_blendOf 34 = .ok (.getfield 21, 3) := by decide +kernel
theorem dX0_blendOf_37 : decode cX0_blendOf 37 = .ok (.iload_n 2, 1) := by decide +kernel
theorem dX0_blendOf_38 : decode cX0_blendOf 38 = .ok (.iload 5, 2) := by decide +kernel
theorem dX0_blendOf_40 : decode cX0_blendOf 40 = .ok (.aload_n 0, 1) := by decide +kernel
theorem dX0_blendOf_41 : decode cX0_blendOf 41 = .ok (.getfield 9, 3) := by decide +kernel
theorem dX0_blendOf_44 : decode cX0_blendOf 44 = .ok (.iload 4, 2) := by decide +kernel
theorem dX0_blendOf_46 : decode cX0_blendOf 46 = .ok (.iaload, 1) := by decide +kernel
theorem dX0_blendOf_47 : decode cX0_blendOf 47 = .ok (.invokevirtual 35, 3) := by decide +kernel
theorem dX0_blendOf_50 : decode cX0_blendOf 50 = .ok (.istore_n 2, 1) := by decide +kernel
theorem dX0_blendOf_51 : decode cX0_blendOf 51 = .ok (.aload_n 0, 1) := by decide +kernel
theorem dX0_blendOf_52 : decode cX0_blendOf 52 = .ok (.getfield 21, 3) := by decide +kernel
theorem dX0_blendOf_55 : decode cX0_blendOf 55 = .ok (.iload_n 3, 1) := by decide +kernel
theorem dX0_blendOf_56 : decode cX0_blendOf 56 = .ok (.iload 5, 2) := by decide +kernel
theorem dX0_blendOf_58 : decode cX0_blendOf 58 = .ok (.aload_n 0, 1) := by decide +kernel
theorem dX0_blendOf_59 : decode cX0_blendOf 59 = .ok (.getfield 18, 3) := by decide +kernel
theorem dX0_blendOf_62 : decode cX0_blendOf 62 = .ok (.iload 4, 2) := by decide +kernel
theorem dX0_blendOf_64 : decode cX0_blendOf 64 = .ok (.iaload, 1) := by decide +kernel
theorem dX0_blendOf_65 : decode cX0_blendOf 65 = .ok (.invokevirtual 39, 3) := by decide +kernel
theorem dX0_blendOf_68 : decode cX0_blendOf 68 = .ok (.istore_n 3, 1) := by decide +kernel
theorem dX0_blendOf_69 : decode cX0_blendOf 69 = .ok (.iinc 4 1, 3) := by decide +kernel
theorem dX0_blendOf_72 : decode cX0_blendOf 72 = .ok (.goto (-65), 3) := by decide +kernel
theorem dX0_blendOf_75 : decode cX0_blendOf 75 = .ok (.iload_n 3, 1) := by decide +kernel
theorem dX0_blendOf_76 : decode cX0_blendOf 76 = .ok (.ireturn, 1) := by decide +kernel
theorem dX0_add_0 : decode cX0_add 0 = .ok (.aload_n 0, 1) := by decide +kernel
theorem dX0_add_1 : decode cX0_add 1 = .ok (.iload_n 1, 1) := by decide +kernel
theorem dX0_add_2 : decode cX0_add 2 = .ok (.invokevirtual 42, 3) := by decide +kernel
theorem dX0_add_5 : decode cX0_add 5 = .ok (.istore_n 2, 1) := by decide +kernel
theorem dX0_add_6 : decode cX0_add 6 = .ok (.iload_n 2, 1) := by decide +kernel
theorem dX0_add_7 : decode cX0_add 7 = .ok (.ifCond .eq 12, 3) := by decide +kernel
theorem dX0_add_10 : decode cX0_add 10 = .ok (.aload_n 0, 1) := by decide +kernel
theorem dX0_add_11 : decode cX0_add 11 = .ok (.getfield 25, 3) := by decide +kernel
theorem dX0_add_14 : decode cX0_add 14 = .ok (.bipush 9, 2) := by decide +kernel
theorem dX0_add_16 : decode cX0_add 16 = .ok (.if_icmp .lt 5, 3) := by decide +kernel
theorem dX0_add_19 : decode cX0_add 19 = .ok (.iconst 0, 1) := by decide +kernel
theorem dX0_add_20 : decode cX0_add 20 = .ok (.ireturn, 1) := by decide +kernel
theorem dX0_add_21 : decode cX0_add 21 = .ok (.aload_n 0, 1) := by decide +kernel
theorem dX0_add_22 : decode cX0_add 22 = .ok (.getfield 21, 3) := by decide +kernel
theorem dX0_add_25 : decode cX0_add 25 = .ok (.getfield 46, 3) := by decide +kernel
theorem dX0_add_28 : decode cX0_add 28 = .ok (.aload_n 0, 1) := by decide +kernel
theorem dX0_add_29 : decode cX0_add 29 = .ok (.getfield 21, 3) := by decide +kernel
theorem dX0_add_32 : decode cX0_add 32 = .ok (.iload_n 2, 1) := by decide +kernel
theorem dX0_add_33 : decode cX0_add 33 = .ok (.invokevirtual 49, 3) := by decide +kernel
theorem dX0_add_36 : decode cX0_add 36 = .ok (.iaload, 1) := by decide +kernel
theorem dX0_add_37 : decode cX0_add 37 = .ok (.istore_n 3, 1) := by decide +kernel
theorem dX0_add_38 : decode cX0_add 38 = .ok (.aload_n 0, 1) := by decide +kernel
theorem dX0_add_39 : decode cX0_add 39 = .ok (.getfield 21, 3) := by decide +kernel
theorem dX0_add_42 : decode cX0_add 42 = .ok (.aload_n 0, 1) := by decide +kernel
theorem dX0_add_43 : decode cX0_add 43 = .ok (.getfield 21, 3) := by decide +kernel
theorem dX0_add_46 : decode cX0_add 46 = .ok (.getfield 52, 3) := by decide +kernel
theorem dX0_add_49 : decode cX0_add 49 = .ok (.aload_n 0, 1) := by decide +kernel
theorem dX0_add_50 : decode cX0_add 50 = .ok (.getfield 25, 3) := by decide +kernel
theorem dX0_add_53 : decode cX0_add 53 = .ok (.iaload, 1) := by decide +kernel
theorem dX0_add_54 : decode cX0_add 54 = .ok (.iconst 1, 1) := by decide +kernel
theorem dX0_add_55 : decode cX0_add 55 = .ok (.aload_n 0, 1) := by decide +kernel
theorem dX0_add_56 : decode cX0_add 56 = .ok (.iload_n 1, 1) := by decide +kernel
theorem dX0_add_57 : decode cX0_add 57 = .ok (.invokevirtual 55, 3) := by decide +kernel
theorem dX0_add_60 : decode cX0_add 60 = .ok (.invokevirtual 35, 3) := by decide +kernel
theorem dX0_add_63 : decode cX0_add 63 = .ok (.istore 4, 2) := by decide +kernel
theorem dX0_add_65 : decode cX0_add 65 = .ok (.aload_n 0, 1) := by decide +kernel
theorem dX0_add_66 : decode cX0_add 66 = .ok (.getfield 9, 3) := by decide +kernel
theorem dX0_add_69 : decode cX0_add 69 = .ok (.aload_n 0, 1) := by decide +kernel
theorem dX0_add_70 : decode cX0_add 70 = .ok (.getfield 25, 3) := by decide +kernel
theorem dX0_add_73 : decode cX0_add 73 = .ok (.aload_n 0, 1) := by decide +kernel
theorem dX0_add_74 : decode cX0_add 74 = .ok (.getfield 21, 3) := by decide +kernel
theorem dX0_add_77 : decode cX0_add 77 = .ok (.iconst 0, 1) := by decide +kernel
theorem dX0_add_78 : decode cX0_add 78 = .ok (.iload_n 3, 1) := by decide +kernel
theorem dX0_add_79 : decode cX0_add 79 = .ok (.iload_n 2, 1) := by decide +kernel
theorem dX0_add_80 : decode cX0_add 80 = .ok (.invokevirtual 39, 3) := by decide +kernel
theorem dX0_add_83 : decode cX0_add 83 = .ok (.iastore, 1) := by decide +kernel
theorem dX0_add_84 : decode cX0_add 84 = .ok (.aload_n 0, 1) := by decide +kernel
theorem dX0_add_85 : decode cX0_add 85 = .ok (.getfield 15, 3) := by decide +kernel
theorem dX0_add_88 : decode cX0_add 88 = .ok (.aload_n 0, 1) := by decide +kernel
theorem dX0_add_89 : decode cX0_add 89 = .ok (.getfield 25, 3) := by decide +kernel
theorem dX0_add_92 : decode cX0_add 92 = .ok (.aload_n 0, 1) := by decide +kernel
theorem dX0_add_93 : decode cX0_add 93 = .ok (.getfield 21, 3) := by decide +kernel
theorem dX0_add_96 : decode cX0_add 96 = .ok (.iload_n 2, 1) := by decide +kernel
theorem dX0_add_97 : decode cX0_add 97 = .ok (.invokevirtual 58, 3) := by decide +kernel
theorem dX0_add_100 : decode cX0_add 100 = .ok (.iastore, 1) := by decide +kernel
theorem dX0_add_101 : decode cX0_add 101 = .ok (.aload_n 0, 1) := by decide +kernel
theorem dX0_add_102 : decode cX0_add 102 = .ok (.getfield 18, 3) := by decide +kernel
theorem dX0_add_105 : decode cX0_add 105 = .ok (.aload_n 0, 1) := by decide +kernel
theorem dX0_add_106 : decode cX0_add 106 = .ok (.getfield 25, 3) := by decide +kernel
theorem dX0_add_109 : decode cX0_add 109 = .ok (.aload_n 0, 1) := by decide +kernel
theorem dX0_add_110 : decode cX0_add 110 = .ok (.getfield 21, 3) := by decide +kernel
theorem dX0_add_113 : decode cX0_add 113 = .ok (.iconst 0, 1) := by decide +kernel
theorem dX0_add_114 : decode cX0_add 114 = .ok (.iload_n 3, 1) := by decide +kernel
theorem dX0_add_115 : decode cX0_add 115 = .ok (.iload 4, 2) := by decide +kernel
theorem dX0_add_117 : decode cX0_add 117 = .ok (.invokevirtual 39, 3) := by decide +kernel
theorem dX0_add_120 : decode cX0_add 120 = .ok (.iastore, 1) := by decide +kernel
theorem dX0_add_121 : decode cX0_add 121 = .ok (.aload_n 0, 1) := by decide +kernel
theorem dX0_add_122 : decode cX0_add 122 = .ok (.dup, 1) := by decide +kernel
theorem dX0_add_123 : decode cX0_add 123 = .ok (.getfield 25, 3) := by decide +kernel
theorem dX0_add_126 : decode cX0_add 126 = .ok (.iconst 1, 1) := by decide +kernel
theorem dX0_add_127 : decode cX0_add 127 = .ok (.iadd, 1) := by decide +kernel
theorem dX0_add_128 : decode cX0_add 128 = .ok (.putfield 25, 3) := by decide +kernel
theorem dX0_add_131 : decode cX0_add 131 = .ok (.iconst 1, 1) := by decide +kernel
theorem dX0_add_132 : decode cX0_add 132 = .ok (.ireturn, 1) := by decide +kernel
theorem dX0_removeLast_0 : decode cX0_removeLast 0 = .ok (.aload_n 0, 1) := by decide +kernel
theorem dX0_removeLast_1 : decode cX0_removeLast 1 = .ok (.getfield 25, 3) := by decide +kernel
theorem dX0_removeLast_4 : decode cX0_removeLast 4 = .ok (.ifCond .le 13, 3) := by decide +kernel
theorem dX0_removeLast_7 : decode cX0_removeLast 7 = .ok (.aload_n 0, 1) := by decide +kernel
theorem dX0_removeLast_8 : decode cX0_removeLast 8 = .ok (.dup, 1) := by decide +kernel
theorem dX0_removeLast_9 : decode cX0_removeLast 9 = .ok (.getfield 25, 3) := by decide +kernel
theorem dX0_removeLast_12 : decode cX0_removeLast 12 = .ok (.iconst 1, 1) := by decide +kernel
theorem dX0_removeLast_13 : decode cX0_removeLast 13 = .ok (.isub, 1) := by decide +kernel
theorem dX0_removeLast_14 : decode cX0_removeLast 14 = .ok (.putfield 25, 3) := by decide +kernel
theorem dX0_removeLast_17 : decode cX0_removeLast 17 = .ok (.return_, 1) := by decide +kernel
