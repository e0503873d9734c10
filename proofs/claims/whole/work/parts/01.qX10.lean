theorem dX1_init_0 : decode cX1_init 0 = .ok (.aload_n 0, 1) := by decide +kernel
theorem dX1_init_1 : decode cX1_init 1 = .ok (.invokespecial 3, 3) := by decide +kernel
theorem dX1_init_4 : decode cX1_init 4 = .ok (.aload_n 0, 1) := by decide +kernel
theorem dX1_init_5 : decode cX1_init 5 = .ok (.bipush 10, 2) := by decide +kernel
theorem dX1_init_7 : decode cX1_init 7 = .ok (.newarray .int, 2) := by decide +kernel
theorem dX1_init_9 : decode cX1_init 9 = .ok (.putfield 9, 3) := by decide +kernel
theorem dX1_init_12 : decode cX1_init 12 = .ok (.aload_n 0, 1) := by decide +kernel
theorem dX1_init_13 : decode cX1_init 13 = .ok (.bipush 7, 2) := by decide +kernel
theorem dX1_init_15 : decode cX1_init 15 = .ok (.newarray .int, 2) := by decide +kernel
theorem dX1_init_17 : decode cX1_init 17 = .ok (.putfield 15, 3) := by decide +kernel
theorem dX1_init_20 : decode cX1_init 20 = .ok (.aload_n 0, 1) := by decide +kernel
theorem dX1_init_21 : decode cX1_init 21 = .ok (.iconst 2, 1) := by decide +kernel
theorem dX1_init_22 : decode cX1_init 22 = .ok (.invokevirtual 18, 3) := by decide +kernel
theorem dX1_init_25 : decode cX1_init 25 = .ok (.return_, 1) := by decide +kernel
theorem dX1_canBe_0 : decode cX1_canBe 0 = .ok (.iload_n 0, 1) := by decide +kernel
theorem dX1_canBe_1 : decode cX1_canBe 1 = .ok (.iconst 2, 1) := by decide +kernel
theorem dX1_canBe_2 : decode cX1_canBe 2 = .ok (.if_icmp .eq 19, 3) := by decide +kernel
theorem dX1_canBe_5 : decode cX1_canBe 5 = .ok (.iload_n 0, 1) := by decide +kernel
theorem dX1_canBe_6 : decode cX1_canBe 6 = .ok (.iconst 3, 1) := by decide +kernel
theorem dX1_canBe_7 : decode cX1_canBe 7 = .ok (.if_icmp .eq 14, 3) := by decide +kernel
theorem dX1_canBe_10 : decode cX1_canBe 10 = .ok (.iload_n 0, 1) := by decide +kernel
theorem dX1_canBe_11 : decode cX1_canBe 11 = .ok (.iconst 5, 1) := by decide +kernel
theorem dX1_canBe_12 : decode cX1_canBe 12 = .ok (.if_icmp .eq 9, 3) := by decide +kernel
theorem dX1_canBe_15 : decode cX1_canBe 15 = .ok (.iload_n 0, 1) := by decide +kernel
theorem dX1_canBe_16 : decode cX1_canBe 16 = .ok (.bipush 7, 2) := by decide +kernel
theorem dX1_canBe_18 : decode cX1_canBe 18 = .ok (.if_icmp .ne 7, 3) := by decide +kernel
theorem dX1_canBe_21 : decode cX1_canBe 21 = .ok (.iconst 1, 1) := by decide +kernel
theorem dX1_canBe_22 : decode cX1_canBe 22 = .ok (.goto 4, 3) := by decide +kernel
theorem dX1_canBe_25 : decode cX1_canBe 25 = .ok (.iconst 0, 1) := by decide +kernel
theorem dX1_canBe_26 : decode cX1_canBe 26 = .ok (.ireturn, 1) := by decide +kernel
theorem dX1_become_0 : decode cX1_become 0 = .ok (.aload_n 0, 1) := by decide +kernel
theorem dX1_become_1 : decode cX1_become 1 = .ok (.iload_n 1, 1) := by decide +kernel
theorem dX1_become_2 : decode cX1_become 2 = .ok (.putfield 22, 3) := by decide +kernel
theorem dX1_become_5 : decode cX1_become 5 = .ok (.aload_n 0, 1) := by decide +kernel
theorem dX1_become_6 : decode cX1_become 6 = .ok (.getfield 9, 3) := by decide +kernel
theorem dX1_become_9 : decode cX1_become 9 = .ok (.iconst 0, 1) := by decide +kernel
theorem dX1_become_10 : decode cX1_become 10 = .ok (.iconst 1, 1) := by decide +kernel
theorem dX1_become_11 : decode cX1_become 11 = .ok (.iastore, 1) := by decide +kernel
theorem dX1_become_12 : decode cX1_become 12 = .ok (.iconst 1, 1) := by decide +kernel
theorem dX1_become_13 : decode cX1_become 13 = .ok (.istore_n 2, 1) := by decide +kernel
theorem dX1_become_14 : decode cX1_become 14 = .ok (.iload_n 2, 1) := by decide +kernel
theorem dX1_become_15 : decode cX1_become 15 = .ok (.bipush 9, 2) := by decide +kernel
theorem dX1_become_17 : decode cX1_become 17 = .ok (.if_icmp .gt 28, 3) := by decide +kernel
theorem dX1_become_20 : decode cX1_become 20 = .ok (.aload_n 0, 1) := by decide +kernel
theorem dX1_become_21 : decode cX1_become 21 = .ok (.getfield 9, 3) := by decide +kernel
theorem dX1_become_24 : decode cX1_become 24 = .ok (.iload_n 2, 1) := by decide +kernel
theorem dX1_become_25 : decode cX1_become 25 = .ok (.aload_n 0, 1) := by decide +kernel
theorem dX1_become_26 : decode cX1_become 26 = .ok (.getfield 9, 3) := by decide +kernel
theorem dX1_become_29 : decode cX1_become 29 = .ok (.iload_n 2, 1) := by decide +kernel
theorem dX1_become_30 : decode cX1_become 30 = .ok (.iconst 1, 1) := by decide +kernel
theorem dX1_become_31 : decode cX1_become 31 = .ok (.isub, 1) := by decide +kernel
theorem dX1_become_32 : decode cX1_become 32 = .ok (.iaload, 1) := by decide +kernel
theorem dX1_become_33 : decode cX1_become 33 = .ok (.aload_n 0, 1) := by decide +kernel
theorem dX1_become_34 : decode cX1_become 34 = .ok (.getfield 22, 3) := by decide +kernel
theorem dX1_become_37 : decode cX1_become 37 = .ok (.imul, 1) := by decide +kernel
theorem dX1_become_38 : decode cX1_become 38 = .ok (.iastore, 1) := by decide +kernel
theorem dX1_become_39 : decode cX1_become 39 = .ok (.iinc 2 1, 3) := by decide +kernel
theorem dX1_become_42 : decode cX1_become 42 = .ok (.goto (-28), 3) := by decide +kernel
theorem dX1_become_45 : decode cX1_become 45 = .ok (.iconst 1, 1) := by decide +kernel
theorem dX1_become_46 : decode cX1_become 46 = .ok (.istore_n 2, 1) := by decide +kernel
theorem dX1_become_47 : decode cX1_become 47 = .ok (.iload_n 2, 1) := by decide +kernel
theorem dX1_become_48 : decode cX1_become 48 = .ok (.aload_n 0, 1) := by decide +kernel
theorem dX1_become_49 : decode cX1_become 49 = .ok (.getfield 22, 3) := by decide +kernel
theorem dX1_become_52 : decode cX1_become 52 = .ok (.if_icmp .ge 44, 3) := by decide +kernel
theorem dX1_become_55 : decode cX1_become 55 = .ok (.iconst 1, 1) := by decide +kernel
theorem dX1_become_56 : decode cX1_become 56 = .ok (.istore_n 3, 1) := by decide +kernel
theorem dX1_become_57 : decode cX1_become 57 = .ok (.iload_n 3, 1) := by decide +kernel
theorem dX1_become_58 : decode cX1_become 58 = .ok (.aload_n 0, 1) := by decide +kernel
theorem dX1_become_59 : decode cX1_become 59 = .ok (.getfield 22, 3) := by decide +kernel
theorem dX1_become_62 : decode cX1_become 62 = .ok (.if_icmp .ge 28, 3) := by decide +kernel
theorem dX1_become_65 : decode cX1_become 65 = .ok (.iload_n 2, 1) := by decide +kernel
theorem dX1_become_66 : decode cX1_become 66 = .ok (.iload_n 3, 1) := by decide +kernel
theorem dX1_become_67 : decode cX1_become 67 = .ok (.imul, 1) := by decide +kernel
theorem dX1_become_68 : decode cX1_become 68 = .ok (.aload_n 0, 1) := by decide +kernel
theorem dX1_become_69 : decode cX1_become 69 = .ok (.getfield 22, 3) := by decide +kernel
theorem dX1_become_72 : decode cX1_become 72 = .ok (.irem, 1) := by decide +kernel
theorem dX1_become_73 : decode cX1_become 73 = .ok (.iconst 1, 1) := by decide +kernel
theorem dX1_become_74 : decode cX1_become 74 = .ok (.if_icmp .ne 10, 3) := by decide +kernel
theorem dX1_become_77 : decode cX1_become 77 = .ok (.aload_n 0, 1) := by decide +kernel
theorem dX1_become_78 : decode cX1_become 78 = .ok (.getfield 15, 3) := by decide +kernel
theorem dX1_become_81 : decode cX1_become 81 = .ok (.iload_n 2, 1) := by decide +kernel
theorem dX1_become_82 : decode cX1_become 82 = .ok (.iload_n 3, 1) := by decide +kernel
theorem dX1_become_83 : decode cX1_become 83 = .ok (.iastore, 1) := by decide +kernel
theorem dX1_become_84 : decode cX1_become 84 = .ok (.iinc 3 1, 3) := by decide +kernel
theorem dX1_become_87 : decode cX1_become 87 = .ok (.goto (-30), 3) := by decide +kernel
theorem dX1_become_90 : decode cX1_become 90 = .ok (.iinc 2 1, 3) := by decide +kernel
theorem dX1_become_93 : decode cX1_become 93 = .ok (.goto (-46), 3) := by decide +kernel
theorem dX1_become_96 : decode cX1_become 96 = .ok (.return_, 1) := by decide +kernel
theorem dX1_isNumber_0 : decode cX1_isNumber 0 = .ok (.iload_n 1, 1) := by decide +kernel
theorem dX1_isNumber_1 : decode cX1_isNumber 1 = .ok (.ifCond .lt 15, 3) := by decide +kernel
theorem dX1_isNumber_4 : decode cX1_isNumber 4 = .ok (.iload_n 1, 1) := by decide +kernel
theorem dX1_isNumber_5 : decode cX1_isNumber 5 = .ok (.aload_n 0, 1) := by decide +kernel
theorem dX1_isNumber_6 : decode cX1_isNumber 6 = .ok (.getfield 22, 3) := by decide +kernel
theorem dX1_isNumber_9 : decode cX1_isNumber 9 = .ok (.if_icmp .ge 7, 3) := by decide +kernel
theorem dX1_isNumber_12 : decode cX1_isNumber 12 = .ok (.iconst 1, 1) := by decide +kernel
theorem dX1_isNumber_13 : decode cX1_isNumber 13 = .ok (.goto 4, 3) := by decide +kernel
theorem dX1_isNumber_16 : decode cX1_isNumber 16 = .ok (.iconst 0, 1) := by decide +kernel
theorem dX1_isNumber_17 : decode cX1_isNumber 17 = .ok (.ireturn, 1) := by decide +kernel
theorem dX1_number_0 : decode cX1_number 0 = .ok (.iload_n 1, 1) := by decide +kernel
theorem dX1_number_1 : decode cX1_number 1 = .ok (.aload_n 0, 1) := by decide +kernel
theorem dX1_number_2 : decode cX1_number 2 = .ok (.getfield 9, 3) := by decide +kernel
theorem dX1_number_5 : decode cX1_number 5 = .ok (.iload_n 2, 1) := by decide +kernel
theorem dX1_number_6 : decode cX1_number 6 = .ok (.iaload, 1) := by decide +kernel
theorem dX1_number_7 : decode cX1_number 7 = .ok (.idiv, 1) := by decide +kernel
theorem dX1_number_8 : decode cX1_number 8 = .ok (.aload_n 0, 1) := by decide +kernel
theorem dX1_number_9 : decode cX1_number 9 = .ok (.getfield 22, 3) := by decide +kernel
theorem dX1_number_12 : decode cX1_number 12 = .ok (.irem, 1) := by decide +kernel
theorem dX1_number_13 : decode cX1_number 13 = .ok (.ireturn, 1) := by decide +kernel
theorem dX1_withNumber_0 : decode cX1_withNumber 0 = .ok (.iload_n 1, 1) := by decide +kernel
theorem dX1_withNumber_1 : decode cX1_withNumber 1 = .ok (.iload_n 3, 1) := by decide +kernel
theorem dX1_withNumber_2 : decode cX1_withNumber 2 = .ok (.aload_n 0, 1) := by decide +kernel
theorem dX1_withNumber_3 : decode cX1_withNumber 3 = .ok (.iload_n 1, 1) := by decide +kernel
theorem dX1_withNumber_4 : decode cX1_withNumber 4 = .ok (.iload_n 2, 1) := by decide +kernel
theorem dX1_withNumber_5 : decode cX1_withNumber 5 = .ok (.invokevirtual 26, 3) := by decide +kernel
theorem dX1_withNumber_8 : decode cX1_withNumber 8 = .ok (.isub, 1) := by decide +kernel
theorem dX1_withNumber_9 : decode cX1_withNumber 9 = .ok (.aload_n 0, 1) := by decide +kernel
theorem dX1_withNumber_10 : decode cX1_withNumber 10 = .ok (.getfield 9, 3) := by decide +kernel
theorem dX1_withNumber_13 : decode cX1_withNumber 13 = .ok (.iload_n 2, 1) := by decide +kernel
theorem dX1_withNumber_14 : decode cX1_withNumber 14 = .ok (.iaload, 1) := by decide +kernel
theorem dX1_withNumber_15 : decode cX1_withNumber 15 = .ok (.imul, 1) := by decide +kernel
theorem dX1_withNumber_16 : decode cX1_withNumber 16 = .ok (.iadd, 1) := by decide +kernel
theorem dX1_withNumber_17 : decode cX1_withNumber 17 = .ok (.ireturn, 1) := by decide +kernel
theorem dX1_plus_0 : decode cX1_plus 0 = .ok (.iload_n 2, 1) := by decide +kernel
theorem dX1_plus_1 : decode cX1_plus 1 = .ok (.ifCond .ne 5, 3) := by decide +kernel
theorem dX1_plus_4 : decode cX1_plus 4 = .ok (.iload_n 1, 1) := by decide +kernel
theorem dX1_plus_5 : decode cX1_plus 5 = .ok (.ireturn, 1) := by decide +kernel
theorem dX1_plus_6 : decode cX1_plus 6 = .ok (.aload_n 0, 1) := by decide +kernel
theorem dX1_plus_7 : decode cX1_plus 7 = .ok (.getfield 22, 3) := by decide +kernel
theorem dX1_plus_10 : decode cX1_plus 10 = .ok (.iconst 2, 1) := by decide +kernel
theorem dX1_plus_11 : decode cX1_plus 11 = .ok (.if_icmp .ne 7, 3) := by decide +kernel
theorem dX1_plus_14 : decode cX1_plus 14 = .ok (.iload_n 1, 1) := by decide +kernel
theorem dX1_plus_15 : decode cX1_plus 15 = .ok (.iload_n 3, 1) := by decide +kernel
theorem dX1_plus_16 : decode cX1_plus 16 = .ok (.ixor, 1) := by decide +kernel
theorem dX1_plus_17 : decode cX1_plus 17 = .ok (.ireturn, 1) := by decide +kernel
theorem dX1_plus_18 : decode cX1_plus 18 = .ok (.iconst 0, 1) := by decide +kernel
theorem dX1_plus_19 : decode cX1_plus 19 = .ok (.istore 4, 2) := by decide +kernel
theorem dX1_plus_21 : decode cX1_plus 21 = .ok (.iload_n 1, 1) := by decide +kernel
theorem dX1_plus_22 : decode cX1_plus 22 = .ok (.istore 5, 2) := by decide +kernel
theorem dX1_plus_24 : decode cX1_plus 24 = .ok (.iload_n 3, 1) := by decide +kernel
theorem dX1_plus_25 : decode cX1_plus 25 = .ok (.istore 6, 2) := by decide +kernel
theorem dX1_plus_27 : decode cX1_plus 27 = .ok (.iconst 0, 1) := by decide +kernel
theorem dX1_plus_28 : decode cX1_plus 28 = .ok (.istore 7, 2) := by decide +kernel
theorem dX1_plus_30 : decode cX1_plus 30 = .ok (.iload 7, 2) := by decide +kernel
theorem dX1_plus_32 : decode cX1_plus 32 = .ok (.bipush 9, 2) := by decide +kernel
theorem dX1_plus_34 : decode cX1_plus 34 = .ok (.if_icmp .ge 70, 3) := by decide +kernel
theorem dX1_plus_37 : decode cX1_plus 37 = .ok (.iload 5, 2) := by decide +kernel
theorem dX1_plus_39 : decode cX1_plus 39 = .ok (.iload 6, 2) := by decide +kernel
theorem dX1_plus_41 : decode cX1_plus 41 = .ok (.ior, 1) := by decide +kernel
theorem dX1_plus_42 : decode cX1_plus 42 = .ok (.ifCond .eq 62, 3) := by decide +kernel
theorem dX1_plus_45 : decode cX1_plus 45 = .ok (.iload 4, 2) := by decide +kernel
theorem dX1_plus_47 : decode cX1_plus 47 = .ok (.iload 5, 2) := by decide +kernel
theorem dX1_plus_49 : decode cX1_plus 49 = .ok (.aload_n 0, 1) := by decide +kernel
theorem dX1_plus_50 : decode cX1_plus 50 = .ok (.getfield 22, 3) := by decide +kernel
theorem dX1_plus_53 : decode cX1_plus 53 = .ok (.irem, 1) := by decide +kernel
theorem dX1_plus_54 : decode cX1_plus 54 = .ok (.iload_n 2, 1) := by decide +kernel
theorem dX1_plus_55 : decode cX1_plus 55 = .ok (.iload 6, 2) := by decide +kernel
theorem dX1_plus_57 : decode cX1_plus 57 = .ok (.aload_n 0, 1) := by decide +kernel
theorem dX1_plus_58 : decode cX1_plus 58 = .ok (.getfield 22, 3) := by decide +kernel
theorem dX1_plus_61 : decode cX1_plus 61 = .ok (.irem, 1) := by decide +kernel
theorem dX1_plus_62 : decode cX1_plus 62 = .ok (.imul, 1) := by decide +kernel
theorem dX1_plus_63 : decode cX1_plus 63 = .ok (.iadd, 1) := by decide +kernel
theorem dX1_plus_64 : decode cX1_plus 64 = .ok (.aload_n 0, 1) := by decide +kernel
theorem dX1_plus_65 : decode cX1_plus 65 = .ok (.getfield 22, 3) := by decide +kernel
theorem dX1_plus_68 : decode cX1_plus 68 = .ok (.irem, 1) := by decide +kernel
theorem dX1_plus_69 : decode cX1_plus 69 = .ok (.aload_n 0, 1) := by decide +kernel
theorem dX1_plus_70 : decode cX1_plus 70 = .ok (.getfield 9, 3) := by decide +kernel
theorem dX1_plus_73 : decode cX1_plus 73 = .ok (.iload 7, 2) := by decide +kernel
theorem dX1_plus_75 : decode cX1_plus 75 = .ok (.iaload, 1) := by decide +kernel
theorem dX1_plus_76 : decode cX1_plus 76 = .ok (.imul, 1) := by decide +kernel
theorem dX1_plus_77 : decode cX1_plus 77 = .ok (.iadd, 1) := by decide +kernel
theorem dX1_plus_78 : decode cX1_plus 78 = .ok (.istore 4, 2) := by decide +kernel
theorem dX1_plus_80 : decode cX1_plus 80 = .ok (.iload 5, 2) := by decide +kernel
theorem dX1_plus_82 : decode cX1_plus 82 = .ok (.aload_n 0, 1) := by decide +kernel
theorem dX1_plus_83 : decode cX1_plus 83 = .ok (.getfield 22, 3) := by decide +kernel
theorem dX1_plus_86 : decode cX1_plus 86 = .ok (.idiv, 1) := by decide +kernel
theorem dX1_plus_87 : decode cX1_plus 87 = .ok (.istore 5, 2) := by decide +kernel
theorem dX1_plus_89 : decode cX1_plus 89 = .ok (.iload 6, 2) := by decide +kernel
theorem dX1_plus_91 : decode cX1_plus 91 = .ok (.aload_n 0, 1) := by decide +kernel
theorem dX1_plus_92 : decode cX1_plus 92 = .ok (.getfield 22, 3) := by decide +kernel
theorem dX1_plus_95 : decode cX1_plus 95 = .ok (.idiv, 1) := by decide +kernel
theorem dX1_plus_96 : decode cX1_plus 96 = .ok (.istore 6, 2) := by decide +kernel
theorem dX1_plus_98 : decode cX1_plus 98 = .ok (.iinc 7 1, 3) := by decide +kernel
theorem dX1_plus_101 : decode cX1_plus 101 = .ok (.goto (-71), 3) := by decide +kernel
theorem dX1_plus_104 : decode cX1_plus 104 = .ok (.iload 4, 2) := by decide +kernel
theorem dX1_plus_106 : decode cX1_plus 106 = .ok (.ireturn, 1) := by decide +kernel
theorem dX1_minus_0 : decode cX1_minus 0 = .ok (.aload_n 0, 1) := by decide +kernel
theorem dX1_minus_1 : decode cX1_minus 1 = .ok (.iload_n 1, 1) := by decide +kernel
theorem dX1_minus_2 : decode cX1_minus 2 = .ok (.aload_n 0, 1) := by decide +kernel
theorem dX1_minus_3 : decode cX1_minus 3 = .ok (.getfield 22, 3) := by decide +kernel
theorem dX1_minus_6 : decode cX1_minus 6 = .ok (.iload_n 2, 1) := by decide +kernel
theorem dX1_minus_7 : decode cX1_minus 7 = .ok (.isub, 1) := by decide +kernel
theorem dX1_minus_8 : decode cX1_minus 8 = .ok (.aload_n 0, 1) := by decide +kernel
theorem dX1_minus_9 : decode cX1_minus 9 = .ok (.getfield 22, 3) := by decide +kernel
theorem dX1_minus_12 : decode cX1_minus 12 = .ok (.irem, 1) := by decide +kernel
theorem dX1_minus_13 : decode cX1_minus 13 = .ok (.iload_n 3, 1) := by decide +kernel
theorem dX1_minus_14 : decode cX1_minus 14 = .ok (.invokevirtual 30, 3) := by decide +kernel
theorem dX1_minus_17 : decode cX1_minus 17 = .ok (.ireturn, 1) := by decide +kernel
theorem dX1_firstIndex_0 : decode cX1_firstIndex 0 = .ok (.iload_n 1, 1) := by decide +kernel
theorem dX1_firstIndex_1 : decode cX1_firstIndex 1 = .ok (.istore_n 2, 1) := by decide +kernel
theorem dX1_firstIndex_2 : decode cX1_firstIndex 2 = .ok (.iconst 0, 1) := by decide +kernel
theorem dX1_firstIndex_3 : decode cX1_firstIndex 3 = .ok (.istore_n 3, 1) := by decide +kernel
theorem dX1_firstIndex_4 : decode cX1_firstIndex 4 = .ok (.iload_n 3, 1) := by decide +kernel
theorem dX1_firstIndex_5 : decode cX1_firstIndex 5 = .ok (.bipush 9, 2) := by decide +kernel
theorem dX1_firstIndex_7 : decode cX1_firstIndex 7 = .ok (.if_icmp .ge 27, 3) := by decide +kernel
theorem dX1_firstIndex_10 : decode cX1_firstIndex 10 = .ok (.iload_n 2, 1) := by decide +kernel
theorem dX1_firstIndex_11 : decode cX1_firstIndex 11 = .ok (.aload_n 0, 1) := by decide +kernel
theorem dX1_firstIndex_12 : decode cX1_firstIndex 12 = .ok (.getfield 22, 3) := by decide +kernel
theorem dX1_firstIndex_15 : decode cX1_firstIndex 15 = .ok (.irem, 1) := by decide +kernel
theorem dX1_firstIndex_16 : decode cX1_firstIndex 16 = .ok (.ifCond .eq 5, 3) := by decide +kernel
theorem dX1_firstIndex_19 : decode cX1_firstIndex 19 = .ok (.iload_n 3, 1) := by decide +kernel
theorem dX1_firstIndex_20 : decode cX1_firstIndex 20 = .ok (.ireturn, 1) := by decide +kernel
theorem dX1_firstIndex_21 : decode cX1_firstIndex 21 = .ok (.iload_n 2, 1) := by decide +kernel
theorem dX1_firstIndex_22 : decode cX1_firstIndex 22 = .ok (.aload_n 0, 1) := by decide +kernel
theorem dX1_firstIndex_23 : decode cX1_firstIndex 23 = .ok (.getfield 22, 3) := by decide +kernel
theorem dX1_firstIndex_26 : decode cX1_firstIndex 26 = .ok (.idiv, 1) := by decide +kernel
theorem dX1_firstIndex_27 : decode cX1_firstIndex 27 = .ok (.istore_n 2, 1) := by decide +kernel
theorem dX1_firstIndex_28 : decode cX1_firstIndex 28 = .ok (.iinc 3 1, 3) := by decide +kernel
theorem dX1_firstIndex_31 : decode cX1_firstIndex 31 = .ok (.goto (-27), 3) := by decide +kernel
theorem dX1_firstIndex_34 : decode cX1_firstIndex 34 = .ok (.iconst 0, 1) := by decide +kernel
theorem dX1_firstIndex_35 : decode cX1_firstIndex 35 = .ok (.ireturn, 1) := by decide +kernel
theorem dX1_first_0 : decode cX1_first 0 = .ok (.iload_n 1, 1) := by decide +kernel
theorem dX1_first_1 : decode cX1_first 1 = .ok (.ifCond .ne 7, 3) := by decide +kernel
theorem dX1_first_4 : decode cX1_first 4 = .ok (.iconst 0, 1) := by decide +kernel
theorem dX1_first_5 : decode cX1_first 5 = .ok (.goto 13, 3) := by decide +kernel
theorem dX1_first_8 : decode cX1_first 8 = .ok (.aload_n 0, 1) := by decide +kernel
theorem dX1_first_9 : decode cX1_first 9 = .ok (.iload_n 1, 1) := by decide +kernel
theorem dX1_first_10 : decode cX1_first 10 = .ok (.aload_n 0, 1) := by decide +kernel
theorem dX1_first_11 : decode cX1_first 11 = .ok (.iload_n 1, 1) := by decide +kernel
theorem dX1_first_12 : decode cX1_first 12 = .ok (.invokevirtual 34, 3) := by decide +kernel
theorem dX1_first_15 : decode cX1_first 15 = .ok (.invokevirtual 26, 3) := by decide +kernel
theorem dX1_first_18 : decode cX1_first 18 = .ok (.ireturn, 1) := by decide +kernel
theorem dX1_shape_0 : decode cX1_shape 0 = .ok (.aload_n 0, 1) := by decide +kernel
theorem dX1_shape_1 : decode cX1_shape 1 = .ok (.getfield 22, 3) := by decide +kernel
theorem dX1_shape_4 : decode cX1_shape 4 = .ok (.iconst 2, 1) := by decide +kernel
theorem dX1_shape_5 : decode cX1_shape 5 = .ok (.if_icmp .eq 7, 3) := by decide +kernel
theorem dX1_shape_8 : decode cX1_shape 8 = .ok (.iload_n 1, 1) := by decide +kernel
theorem dX1_shape_9 : decode cX1_shape 9 = .ok (.ifCond .ne 5, 3) := by decide +kernel
theorem dX1_shape_12 : decode cX1_shape 12 = .ok (.iload_n 1, 1) := by decide +kernel
theorem dX1_shape_13 : decode cX1_shape 13 = .ok (.ireturn, 1) := by decide +kernel
theorem dX1_shape_14 : decode cX1_shape 14 = .ok (.aload_n 0, 1) := by decide +kernel
theorem dX1_shape_15 : decode cX1_shape 15 = .ok (.iconst 0, 1) := by decide +kernel
theorem dX1_shape_16 : decode cX1_shape 16 = .ok (.aload_n 0, 1) := by decide +kernel
theorem dX1_shape_17 : decode cX1_shape 17 = .ok (.getfield 15, 3) := by decide +kernel
theorem dX1_shape_20 : decode cX1_shape 20 = .ok (.aload_n 0, 1) := by decide +kernel
theorem dX1_shape_21 : decode cX1_shape 21 = .ok (.iload_n 1, 1) := by decide +kernel
theorem dX1_shape_22 : decode cX1_shape 22 = .ok (.aload_n 0, 1) := by decide +kernel
theorem dX1_shape_23 : decode cX1_shape 23 = .ok (.iload_n 1, 1) := by decide +kernel
theorem dX1_shape_24 : decode cX1_shape 24 = .ok (.invokevirtual 34, 3) := by decide +kernel
theorem dX1_shape_27 : decode cX1_shape 27 = .ok (.invokevirtual 26, 3) := by decide +kernel
theorem dX1_shape_30 : decode cX1_shape 30 = .ok (.iaload, 1) := by decide +kernel
theorem dX1_shape_31 : decode cX1_shape 31 = .ok (.iload_n 1, 1) := by decide +kernel
theorem dX1_shape_32 : decode cX1_shape 32 = .ok (.invokevirtual 30, 3) := by decide +kernel
theorem dX1_shape_35 : decode cX1_shape 35 = .ok (.ireturn, 1) := by decide +kernel
theorem dX1_filled_0 : decode cX1_filled 0 = .ok (.iconst 0, 1) := by decide +kernel
theorem dX1_filled_1 : decode cX1_filled 1 = .ok (.istore_n 2, 1) := by decide +kernel
theorem dX1_filled_2 : decode cX1_filled 2 = .ok (.iload_n 1, 1) := by decide +kernel
theorem dX1_filled_3 : decode cX1_filled 3 = .ok (.istore_n 3, 1) := by decide +kernel
theorem dX1_filled_4 : decode cX1_filled 4 = .ok (.iconst 0, 1) := by decide +kernel
theorem dX1_filled_5 : decode cX1_filled 5 = .ok (.istore 4, 2) := by decide +kernel
theorem dX1_filled_7 : decode cX1_filled 7 = .ok (.iload 4, 2) := by decide +kernel
theorem dX1_filled_9 : decode cX1_filled 9 = .ok (.bipush 9, 2) := by decide +kernel
theorem dX1_filled_11 : decode cX1_filled 11 = .ok (.if_icmp .ge 32, 3) := by decide +kernel
theorem dX1_filled_14 : decode cX1_filled 14 = .ok (.iload_n 3, 1) := by decide +kernel
theorem dX1_filled_15 : decode cX1_filled 15 = .ok (.ifCond .eq 28, 3) := by decide +kernel
theorem dX1_filled_18 : decode cX1_filled 18 = .ok (.iload_n 3, 1) := by decide +kernel
theorem dX1_filled_19 : decode cX1_filled 19 = .ok (.aload_n 0, 1) := by decide +kernel
theorem dX1_filled_20 : decode cX1_filled 20 = .ok (.getfield 22, 3) := by decide +kernel
theorem dX1_filled_23 : decode cX1_filled 23 = .ok (.irem, 1) := by decide +kernel
theorem dX1_filled_24 : decode cX1_filled 24 = .ok (.ifCond .eq 6, 3) := by decide +kernel
theorem dX1_filled_27 : decode cX1_filled 27 = .ok (.iinc 2 1, 3) := by decide +kernel
theorem dX1_filled_30 : decode cX1_filled 30 = .ok (.iload_n 3, 1) := by decide +kernel
theorem dX1_filled_31 : decode cX1_filled 31 = .ok (.aload_n 0, 1) := by decide +kernel
theorem dX1_filled_32 : decode cX1_filled 32 = .ok (.getfield 22, 3) := by decide +kernel
theorem dX1_filled_35 : decode cX1_filled 35 = .ok (.idiv, 1) := by decide +kernel
theorem dX1_filled_36 : decode cX1_filled 36 = .ok (.istore_n 3, 1) := by decide +kernel
theorem dX1_filled_37 : decode cX1_filled 37 = .ok (.iinc 4 1, 3) := by decide +kernel
theorem dX1_filled_40 : decode cX1_filled 40 = .ok (.goto (-33), 3) := by decide +kernel
theorem dX1_filled_43 : decode cX1_filled 43 = .ok (.iload_n 2, 1) := by decide +kernel
theorem dX1_filled_44 : decode cX1_filled 44 = .ok (.ireturn, 1) := by decide +kernel
theorem dX1_sumOfProducts_0 : decode cX1_sumOfProducts 0 = .ok (.iconst 0, 1) := by decide +kernel
theorem dX1_sumOfProducts_1 : decode cX1_sumOfProducts 1 = .ok (.istore_n 3, 1) := by decide +kernel
theorem dX1_sumOfProducts_2 : decode cX1_sumOfProducts 2 = .ok (.iload_n 1, 1) := by decide +kernel
theorem dX1_sumOfProducts_3 : decode cX1_sumOfProducts 3 = .ok (.istore 4, 2) := by decide +kernel
theorem dX1_sumOfProducts_5 : decode cX1_sumOfProducts 5 = .ok (.iload_n 2, 1) := by decide +kernel
theorem dX1_sumOfProducts_6 : decode cX1_sumOfProducts 6 = .ok (.istore 5, 2) := by decide +kernel
theorem dX1_sumOfProducts_8 : decode cX1_sumOfProducts 8 = .ok (.iconst 0, 1) := by decide +kernel
theorem dX1_sumOfProducts_9 : decode cX1_sumOfProducts 9 = .ok (.istore 6, 2) := by decide +kernel
theorem dX1_sumOfProducts_11 : decode cX1_sumOfProducts 11 = .ok (.iload 6, 2) := by decide +kernel
theorem dX1_sumOfProducts_13 : decode cX1_sumOfProducts 13 = .ok (.bipush 9, 2) := by decide +kernel
theorem dX1_sumOfProducts_15 : decode cX1_sumOfProducts 15 = .ok (.if_icmp .ge 55, 3) := by decide +kernel
theorem dX1_sumOfProducts_18 : decode cX1_sumOfProducts 18 = .ok (.iload 4, 2) := by decide +kernel
theorem dX1_sumOfProducts_20 : decode cX1_sumOfProducts 20 = .ok (.ifCond .eq 50, 3) := by decide +kernel
theorem dX1_sumOfProducts_23 : decode cX1_sumOfProducts 23 = .ok (.iload 5, 2) := by decide +kernel
theorem dX1_sumOfProducts_25 : decode cX1_sumOfProducts 25 = .ok (.ifCond .eq 45, 3) := by decide +kernel
theorem dX1_sumOfProducts_28 : decode cX1_sumOfProducts 28 = .ok (.iload_n 3, 1) := by decide +kernel
theorem dX1_sumOfProducts_29 : decode cX1_sumOfProducts 29 = .ok (.iload 4, 2) := by decide +kernel
theorem dX1_sumOfProducts_31 : decode cX1_sumOfProducts 31 = .ok (.aload_n 0, 1) := by decide +kernel
theorem dX1_sumOfProducts_32 : decode cX1_sumOfProducts 32 = .ok (.getfield 22, 3) := by decide +kernel
theorem dX1_sumOfProducts_35 : decode cX1_sumOfProducts 35 = .ok (.irem, 1) := by decide +kernel
theorem dX1_sumOfProducts_36 : decode cX1_sumOfProducts 36 = .ok (.iload 5, 2) := by decide +kernel
theorem dX1_sumOfProducts_38 : decode cX1_sumOfProducts 38 = .ok (.aload_n 0, 1) := by decide +kernel
theorem dX1_sumOfProducts_39 : decode cX1_sumOfProducts 39 = .ok (.getfield 22, 3) := by decide +kernel
theorem dX1_sumOfProducts_42 : decode cX1_sumOfProducts 42 = .ok (.irem, 1) := by decide +kernel
theorem dX1_sumOfProducts_43 : decode cX1_sumOfProducts 43 = .ok (.imul, 1) := by decide +kernel
theorem dX1_sumOfProducts_44 : decode cX1_sumOfProducts 44 = .ok (.iadd, 1) := by decide +kernel
theorem dX1_sumOfProducts_45 : decode cX1_sumOfProducts 45 = .ok (.istore_n 3, 1) := by decide +kernel
theorem dX1_sumOfProducts_46 : decode cX1_sumOfProducts 46 = .ok (.iload 4, 2) := by decide +kernel
theorem dX1_sumOfProducts_48 : decode cX1_sumOfProducts 48 = .ok (.aload_n 0, 1) := by decide +kernel
theorem dX1_sumOfProducts_49 : decode cX1_sumOfProducts 49 = .ok (.getfield 22, 3) := by decide +kernel
theorem dX1_sumOfProducts_52 : decode cX1_sumOfProducts 52 = .ok (.idiv, 1) := by decide +kernel
theorem dX1_sumOfProducts_53 : decode cX1_sumOfProducts 53 = .ok (.istore 4, 2) := by decide +kernel
theorem dX1_sumOfProducts_55 : decode cX1_sumOfProducts 55 = .ok (.iload 5, 2) := by decide +kernel
theorem dX1_sumOfProducts_57 : decode cX1_sumOfProducts 57 = .ok (.aload_n 0, 1) := by decide +kernel
theorem dX1_sumOfProducts_58 : decode cX1_sumOfProducts 58 = .ok (.getfield 22, 3) := by decide +kernel
theorem dX1_sumOfProducts_61 : decode cX1_sumOfProducts 61 = .ok (.idiv, 1) := by decide +kernel
theorem dX1_sumOfProducts_62 : decode cX1_sumOfProducts 62 = .ok (.istore 5, 2) := by decide +kernel
theorem dX1_sumOfProducts_64 : decode cX1_sumOfProducts 64 = .ok (.iinc 6 1, 3) := by decide +kernel
theorem dX1_sumOfProducts_67 : decode cX1_sumOfProducts 67 = .ok (.goto (-56), 3) := by decide +kernel
theorem dX1_sumOfProducts_70 : decode cX1_sumOfProducts 70 = .ok (.iload_n 3, 1) := by decide +kernel
theorem dX1_sumOfProducts_71 : decode cX1_sumOfProducts 71 = .ok (.aload_n 0, 1) := by decide +kernel
theorem dX1_sumOfProducts_72 : decode cX1_sumOfProducts 72 = .ok (.getfield 22, 3) := by decide +kernel
theorem dX1_sumOfProducts_75 : decode cX1_sumOfProducts 75 = .ok (.irem, 1) := by decide +kernel
theorem dX1_sumOfProducts_76 : decode cX1_sumOfProducts 76 = .ok (.ireturn, 1) := by decide +kernel
theorem dX1_product_0 : decode cX1_product 0 = .ok (.iconst 0, 1) := by decide +kernel
theorem dX1_product_1 : decode cX1_product 1 = .ok (.istore 4, 2) := by decide +kernel
theorem dX1_product_3 : decode cX1_product 3 = .ok (.iload_n 1, 1) := by decide +kernel
theorem dX1_product_4 : decode cX1_product 4 = .ok (.istore 5, 2) := by decide +kernel
theorem dX1_product_6 : decode cX1_product 6 = .ok (.iconst 0, 1) := by decide +kernel
theorem dX1_product_7 : decode cX1_product 7 = .ok (.istore 6, 2) := by decide +kernel
theorem dX1_product_9 : decode cX1_product 9 = .ok (.iload 6, 2) := by decide +kernel
theorem dX1_product_11 : decode cX1_product 11 = .ok (.bipush 9, 2) := by decide +kernel
theorem dX1_product_13 : decode cX1_product 13 = .ok (.if_icmp .ge 55, 3) := by decide +kernel
theorem dX1_product_16 : decode cX1_product 16 = .ok (.iload 6, 2) := by decide +kernel
theorem dX1_product_18 : decode cX1_product 18 = .ok (.iload_n 3, 1) := by decide +kernel
theorem dX1_product_19 : decode cX1_product 19 = .ok (.imul, 1) := by decide +kernel
theorem dX1_product_20 : decode cX1_product 20 = .ok (.bipush 9, 2) := by decide +kernel
theorem dX1_product_22 : decode cX1_product 22 = .ok (.if_icmp .ge 46, 3) := by decide +kernel
theorem dX1_product_25 : decode cX1_product 25 = .ok (.iload 4, 2) := by decide +kernel
theorem dX1_product_27 : decode cX1_product 27 = .ok (.aload_n 0, 1) := by decide +kernel
theorem dX1_product_28 : decode cX1_product 28 = .ok (.iconst 0, 1) := by decide +kernel
theorem dX1_product_29 : decode cX1_product 29 = .ok (.iload 5, 2) := by decide +kernel
theorem dX1_product_31 : decode cX1_product 31 = .ok (.aload_n 0, 1) := by decide +kernel
theorem dX1_product_32 : decode cX1_product 32 = .ok (.getfield 22, 3) := by decide +kernel
theorem dX1_product_35 : decode cX1_product 35 = .ok (.irem, 1) := by decide +kernel
theorem dX1_product_36 : decode cX1_product 36 = .ok (.iload_n 2, 1) := by decide +kernel
theorem dX1_product_37 : decode cX1_product 37 = .ok (.invokevirtual 30, 3) := by decide +kernel
theorem dX1_product_40 : decode cX1_product 40 = .ok (.aload_n 0, 1) := by decide +kernel
theorem dX1_product_41 : decode cX1_product 41 = .ok (.getfield 9, 3) := by decide +kernel
theorem dX1_product_44 : decode cX1_product 44 = .ok (.iload 6, 2) := by decide +kernel
theorem dX1_product_46 : decode cX1_product 46 = .ok (.iload_n 3, 1) := by decide +kernel
theorem dX1_product_47 : decode cX1_product 47 = .ok (.imul, 1) := by decide +kernel
theorem dX1_product_48 : decode cX1_product 48 = .ok (.iaload, 1) := by decide +kernel
theorem dX1_product_49 : decode cX1_product 49 = .ok (.imul, 1) := by decide +kernel
theorem dX1_product_50 : decode cX1_product 50 = .ok (.iadd, 1) := by decide +kernel
theorem dX1_product_51 : decode cX1_product 51 = .ok (.istore 4, 2) := by decide +kernel
theorem dX1_product_53 : decode cX1_product 53 = .ok (.iload 5, 2) := by decide +kernel
theorem dX1_product_55 : decode cX1_product 55 = .ok (.aload_n 0, 1) := by decide +kernel
theorem dX1_product_56 : decode cX1_product 56 = .ok (.getfield 22, 3) := by decide +kernel
theorem dX1_product_59 : decode cX1_product 59 = .ok (.idiv, 1) := by decide +kernel
theorem dX1_product_60 : decode cX1_product 60 = .ok (.istore 5, 2) := by decide +kernel
theorem dX1_product_62 : decode cX1_product 62 = .ok (.iinc 6 1, 3) := by decide +kernel
theorem dX1_product_65 : decode cX1_product 65 = .ok (.goto (-56), 3) := by decide +kernel
theorem dX1_product_68 : decode cX1_product 68 = .ok (.iload 4, 2) := by decide +kernel
theorem dX1_product_70 : decode cX1_product 70 = .ok (.ireturn, 1) := by decide +kernel
theorem dX1_shapes_0 : decode cX1_shapes 0 = .ok (.aload_n 0, 1) := by decide +kernel
theorem dX1_shapes_1 : decode cX1_shapes 1 = .ok (.getfield 9, 3) := by decide +kernel
theorem dX1_shapes_4 : decode cX1_shapes 4 = .ok (.iload_n 1, 1) := by decide +kernel
theorem dX1_shapes_5 : decode cX1_shapes 5 = .ok (.iaload, 1) := by decide +kernel
theorem dX1_shapes_6 : decode cX1_shapes 6 = .ok (.iconst 1, 1) := by decide +kernel
theorem dX1_shapes_7 : decode cX1_shapes 7 = .ok (.isub, 1) := by decide +kernel
theorem dX1_shapes_8 : decode cX1_shapes 8 = .ok (.aload_n 0, 1) := by decide +kernel
theorem dX1_shapes_9 : decode cX1_shapes 9 = .ok (.getfield 22, 3) := by decide +kernel
theorem dX1_shapes_12 : decode cX1_shapes 12 = .ok (.iconst 1, 1) := by decide +kernel
theorem dX1_shapes_13 : decode cX1_shapes 13 = .ok (.isub, 1) := by decide +kernel
theorem dX1_shapes_14 : decode cX1_shapes 14 = .ok (.idiv, 1) := by decide +kernel
theorem dX1_shapes_15 : decode cX1_shapes 15 = .ok (.ireturn, 1) := by decide +kernel
