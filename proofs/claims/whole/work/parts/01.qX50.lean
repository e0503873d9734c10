theorem dX5_init_0 : decode cX5_init 0 = .ok (.aload_n 0, 1) := by decide +kernel
theorem dX5_init_1 : decode cX5_init 1 = .ok (.invokespecial 3, 3) := by decide +kernel
theorem dX5_init_4 : decode cX5_init 4 = .ok (.aload_n 0, 1) := by decide +kernel
theorem dX5_init_5 : decode cX5_init 5 = .ok (.bipush 81, 2) := by decide +kernel
theorem dX5_init_7 : decode cX5_init 7 = .ok (.newarray .int, 2) := by decide +kernel
theorem dX5_init_9 : decode cX5_init 9 = .ok (.putfield 9, 3) := by decide +kernel
theorem dX5_init_12 : decode cX5_init 12 = .ok (.aload_n 0, 1) := by decide +kernel
theorem dX5_init_13 : decode cX5_init 13 = .ok (.aload_n 1, 1) := by decide +kernel
theorem dX5_init_14 : decode cX5_init 14 = .ok (.putfield 15, 3) := by decide +kernel
theorem dX5_init_17 : decode cX5_init 17 = .ok (.return_, 1) := by decide +kernel
theorem dX5_byBox_0 : decode cX5_byBox 0 = .ok (.iconst 0, 1) := by decide +kernel
theorem dX5_byBox_1 : decode cX5_byBox 1 = .ok (.istore 4, 2) := by decide +kernel
theorem dX5_byBox_3 : decode cX5_byBox 3 = .ok (.iconst 0, 1) := by decide +kernel
theorem dX5_byBox_4 : decode cX5_byBox 4 = .ok (.istore 5, 2) := by decide +kernel
theorem dX5_byBox_6 : decode cX5_byBox 6 = .ok (.iload 5, 2) := by decide +kernel
theorem dX5_byBox_8 : decode cX5_byBox 8 = .ok (.aload_n 1, 1) := by decide +kernel
theorem dX5_byBox_9 : decode cX5_byBox 9 = .ok (.getfield 19, 3) := by decide +kernel
theorem dX5_byBox_12 : decode cX5_byBox 12 = .ok (.iconst 0, 1) := by decide +kernel
theorem dX5_byBox_13 : decode cX5_byBox 13 = .ok (.iaload, 1) := by decide +kernel
theorem dX5_byBox_14 : decode cX5_byBox 14 = .ok (.if_icmp .ge 81, 3) := by decide +kernel
theorem dX5_byBox_17 : decode cX5_byBox 17 = .ok (.iconst 0, 1) := by decide +kernel
theorem dX5_byBox_18 : decode cX5_byBox 18 = .ok (.istore 6, 2) := by decide +kernel
theorem dX5_byBox_20 : decode cX5_byBox 20 = .ok (.iload 6, 2) := by decide +kernel
theorem dX5_byBox_22 : decode cX5_byBox 22 = .ok (.aload_n 1, 1) := by decide +kernel
theorem dX5_byBox_23 : decode cX5_byBox 23 = .ok (.getfield 19, 3) := by decide +kernel
theorem dX5_byBox_26 : decode cX5_byBox 26 = .ok (.iconst 1, 1) := by decide +kernel
theorem dX5_byBox_27 : decode cX5_byBox 27 = .ok (.iaload, 1) := by decide +kernel
theorem dX5_byBox_28 : decode cX5_byBox 28 = .ok (.if_icmp .ge 61, 3) := by decide +kernel
theorem dX5_byBox_31 : decode cX5_byBox 31 = .ok (.aload_n 0, 1) := by decide +kernel
theorem dX5_byBox_32 : decode cX5_byBox 32 = .ok (.getfield 15, 3) := by decide +kernel
theorem dX5_byBox_35 : decode cX5_byBox 35 = .ok (.iload_n 2, 1) := by decide +kernel
theorem dX5_byBox_36 : decode cX5_byBox 36 = .ok (.iload 5, 2) := by decide +kernel
theorem dX5_byBox_38 : decode cX5_byBox 38 = .ok (.invokevirtual 24, 3) := by decide +kernel
theorem dX5_byBox_41 : decode cX5_byBox 41 = .ok (.aload_n 0, 1) := by decide +kernel
theorem dX5_byBox_42 : decode cX5_byBox 42 = .ok (.getfield 15, 3) := by decide +kernel
theorem dX5_byBox_45 : decode cX5_byBox 45 = .ok (.iload_n 3, 1) := by decide +kernel
theorem dX5_byBox_46 : decode cX5_byBox 46 = .ok (.iload 6, 2) := by decide +kernel
theorem dX5_byBox_48 : decode cX5_byBox 48 = .ok (.invokevirtual 24, 3) := by decide +kernel
theorem dX5_byBox_51 : decode cX5_byBox 51 = .ok (.imul, 1) := by decide +kernel
theorem dX5_byBox_52 : decode cX5_byBox 52 = .ok (.aload_n 0, 1) := by decide +kernel
theorem dX5_byBox_53 : decode cX5_byBox 53 = .ok (.getfield 15, 3) := by decide +kernel
theorem dX5_byBox_56 : decode cX5_byBox 56 = .ok (.getfield 30, 3) := by decide +kernel
theorem dX5_byBox_59 : decode cX5_byBox 59 = .ok (.irem, 1) := by decide +kernel
theorem dX5_byBox_60 : decode cX5_byBox 60 = .ok (.istore 7, 2) := by decide +kernel
theorem dX5_byBox_62 : decode cX5_byBox 62 = .ok (.aload_n 0, 1) := by decide +kernel
theorem dX5_byBox_63 : decode cX5_byBox 63 = .ok (.getfield 15, 3) := by decide +kernel
theorem dX5_byBox_66 : decode cX5_byBox 66 = .ok (.iload 4, 2) := by decide +kernel
theorem dX5_byBox_68 : decode cX5_byBox 68 = .ok (.iload 7, 2) := by decide +kernel
theorem dX5_byBox_70 : decode cX5_byBox 70 = .ok (.aload_n 1, 1) := by decide +kernel
theorem dX5_byBox_71 : decode cX5_byBox 71 = .ok (.iload 5, 2) := by decide +kernel
theorem dX5_byBox_73 : decode cX5_byBox 73 = .ok (.iload 6, 2) := by decide +kernel
theorem dX5_byBox_75 : decode cX5_byBox 75 = .ok (.invokevirtual 34, 3) := by decide +kernel
theorem dX5_byBox_78 : decode cX5_byBox 78 = .ok (.invokevirtual 37, 3) := by decide +kernel
theorem dX5_byBox_81 : decode cX5_byBox 81 = .ok (.istore 4, 2) := by decide +kernel
theorem dX5_byBox_83 : decode cX5_byBox 83 = .ok (.iinc 6 1, 3) := by decide +kernel
theorem dX5_byBox_86 : decode cX5_byBox 86 = .ok (.goto (-66), 3) := by decide +kernel
theorem dX5_byBox_89 : decode cX5_byBox 89 = .ok (.iinc 5 1, 3) := by decide +kernel
theorem dX5_byBox_92 : decode cX5_byBox 92 = .ok (.goto (-86), 3) := by decide +kernel
theorem dX5_byBox_95 : decode cX5_byBox 95 = .ok (.iload 4, 2) := by decide +kernel
theorem dX5_byBox_97 : decode cX5_byBox 97 = .ok (.ireturn, 1) := by decide +kernel
theorem dX5_byScheme_0 : decode cX5_byScheme 0 = .ok (.iconst 0, 1) := by decide +kernel
theorem dX5_byScheme_1 : decode cX5_byScheme 1 = .ok (.istore 4, 2) := by decide +kernel
theorem dX5_byScheme_3 : decode cX5_byScheme 3 = .ok (.iconst 0, 1) := by decide +kernel
theorem dX5_byScheme_4 : decode cX5_byScheme 4 = .ok (.istore 5, 2) := by decide +kernel
theorem dX5_byScheme_6 : decode cX5_byScheme 6 = .ok (.iload 5, 2) := by decide +kernel
theorem dX5_byScheme_8 : decode cX5_byScheme 8 = .ok (.aload_n 1, 1) := by decide +kernel
theorem dX5_byScheme_9 : decode cX5_byScheme 9 = .ok (.getfield 41, 3) := by decide +kernel
theorem dX5_byScheme_12 : decode cX5_byScheme 12 = .ok (.if_icmp .ge 74, 3) := by decide +kernel
theorem dX5_byScheme_15 : decode cX5_byScheme 15 = .ok (.aload_n 0, 1) := by decide +kernel
theorem dX5_byScheme_16 : decode cX5_byScheme 16 = .ok (.getfield 15, 3) := by decide +kernel
theorem dX5_byScheme_19 : decode cX5_byScheme 19 = .ok (.aload_n 1, 1) := by decide +kernel
theorem dX5_byScheme_20 : decode cX5_byScheme 20 = .ok (.iconst 0, 1) := by decide +kernel
theorem dX5_byScheme_21 : decode cX5_byScheme 21 = .ok (.iload 5, 2) := by decide +kernel
theorem dX5_byScheme_23 : decode cX5_byScheme 23 = .ok (.invokevirtual 44, 3) := by decide +kernel
theorem dX5_byScheme_26 : decode cX5_byScheme 26 = .ok (.iload_n 2, 1) := by decide +kernel
theorem dX5_byScheme_27 : decode cX5_byScheme 27 = .ok (.invokevirtual 47, 3) := by decide +kernel
theorem dX5_byScheme_30 : decode cX5_byScheme 30 = .ok (.istore 6, 2) := by decide +kernel
theorem dX5_byScheme_32 : decode cX5_byScheme 32 = .ok (.aload_n 0, 1) := by decide +kernel
theorem dX5_byScheme_33 : decode cX5_byScheme 33 = .ok (.getfield 15, 3) := by decide +kernel
theorem dX5_byScheme_36 : decode cX5_byScheme 36 = .ok (.aload_n 1, 1) := by decide +kernel
theorem dX5_byScheme_37 : decode cX5_byScheme 37 = .ok (.iconst 1, 1) := by decide +kernel
theorem dX5_byScheme_38 : decode cX5_byScheme 38 = .ok (.iload 5, 2) := by decide +kernel
theorem dX5_byScheme_40 : decode cX5_byScheme 40 = .ok (.invokevirtual 44, 3) := by decide +kernel
theorem dX5_byScheme_43 : decode cX5_byScheme 43 = .ok (.iload_n 3, 1) := by decide +kernel
theorem dX5_byScheme_44 : decode cX5_byScheme 44 = .ok (.invokevirtual 47, 3) := by decide +kernel
theorem dX5_byScheme_47 : decode cX5_byScheme 47 = .ok (.istore 7, 2) := by decide +kernel
theorem dX5_byScheme_49 : decode cX5_byScheme 49 = .ok (.aload_n 0, 1) := by decide +kernel
theorem dX5_byScheme_50 : decode cX5_byScheme 50 = .ok (.getfield 15, 3) := by decide +kernel
theorem dX5_byScheme_53 : decode cX5_byScheme 53 = .ok (.iload 4, 2) := by decide +kernel
theorem dX5_byScheme_55 : decode cX5_byScheme 55 = .ok (.iload 6, 2) := by decide +kernel
theorem dX5_byScheme_57 : decode cX5_byScheme 57 = .ok (.iload 7, 2) := by decide +kernel
theorem dX5_byScheme_59 : decode cX5_byScheme 59 = .ok (.imul, 1) := by decide +kernel
theorem dX5_byScheme_60 : decode cX5_byScheme 60 = .ok (.aload_n 0, 1) := by decide +kernel
theorem dX5_byScheme_61 : decode cX5_byScheme 61 = .ok (.getfield 15, 3) := by decide +kernel
theorem dX5_byScheme_64 : decode cX5_byScheme 64 = .ok (.getfield 30, 3) := by decide +kernel
theorem dX5_byScheme_67 : decode cX5_byScheme 67 = .ok (.irem, 1) := by decide +kernel
theorem dX5_byScheme_68 : decode cX5_byScheme 68 = .ok (.aload_n 1, 1) := by decide +kernel
theorem dX5_byScheme_69 : decode cX5_byScheme 69 = .ok (.iconst 2, 1) := by decide +kernel
theorem dX5_byScheme_70 : decode cX5_byScheme 70 = .ok (.iload 5, 2) := by decide +kernel
theorem dX5_byScheme_72 : decode cX5_byScheme 72 = .ok (.invokevirtual 44, 3) := by decide +kernel
theorem dX5_byScheme_75 : decode cX5_byScheme 75 = .ok (.invokevirtual 37, 3) := by decide +kernel
theorem dX5_byScheme_78 : decode cX5_byScheme 78 = .ok (.istore 4, 2) := by decide +kernel
theorem dX5_byScheme_80 : decode cX5_byScheme 80 = .ok (.iinc 5 1, 3) := by decide +kernel
theorem dX5_byScheme_83 : decode cX5_byScheme 83 = .ok (.goto (-77), 3) := by decide +kernel
theorem dX5_byScheme_86 : decode cX5_byScheme 86 = .ok (.iload 4, 2) := by decide +kernel
theorem dX5_byScheme_88 : decode cX5_byScheme 88 = .ok (.ireturn, 1) := by decide +kernel
theorem dX5_wrongPlace_0 : decode cX5_wrongPlace 0 = .ok (.aload_n 0, 1) := by decide +kernel
theorem dX5_wrongPlace_1 : decode cX5_wrongPlace 1 = .ok (.aload_n 1, 1) := by decide +kernel
theorem dX5_wrongPlace_2 : decode cX5_wrongPlace 2 = .ok (.invokevirtual 50, 3) := by decide +kernel
theorem dX5_wrongPlace_5 : decode cX5_wrongPlace 5 = .ok (.iload_n 2, 1) := by decide +kernel
theorem dX5_wrongPlace_6 : decode cX5_wrongPlace 6 = .ok (.istore_n 3, 1) := by decide +kernel
theorem dX5_wrongPlace_7 : decode cX5_wrongPlace 7 = .ok (.iconst 0, 1) := by decide +kernel
theorem dX5_wrongPlace_8 : decode cX5_wrongPlace 8 = .ok (.istore 4, 2) := by decide +kernel
theorem dX5_wrongPlace_10 : decode cX5_wrongPlace 10 = .ok (.iload 4, 2) := by decide +kernel
theorem dX5_wrongPlace_12 : decode cX5_wrongPlace 12 = .ok (.aload_n 1, 1) := by decide +kernel
theorem dX5_wrongPlace_13 : decode cX5_wrongPlace 13 = .ok (.getfield 19, 3) := by decide +kernel
theorem dX5_wrongPlace_16 : decode cX5_wrongPlace 16 = .ok (.iconst 0, 1) := by decide +kernel
theorem dX5_wrongPlace_17 : decode cX5_wrongPlace 17 = .ok (.iaload, 1) := by decide +kernel
theorem dX5_wrongPlace_18 : decode cX5_wrongPlace 18 = .ok (.if_icmp .ge 102, 3) := by decide +kernel
theorem dX5_wrongPlace_21 : decode cX5_wrongPlace 21 = .ok (.iconst 0, 1) := by decide +kernel
theorem dX5_wrongPlace_22 : decode cX5_wrongPlace 22 = .ok (.istore 5, 2) := by decide +kernel
theorem dX5_wrongPlace_24 : decode cX5_wrongPlace 24 = .ok (.iload 5, 2) := by decide +kernel
theorem dX5_wrongPlace_26 : decode cX5_wrongPlace 26 = .ok (.aload_n 1, 1) := by decide +kernel
theorem dX5_wrongPlace_27 : decode cX5_wrongPlace 27 = .ok (.getfield 19, 3) := by decide +kernel
theorem dX5_wrongPlace_30 : decode cX5_wrongPlace 30 = .ok (.iconst 1, 1) := by decide +kernel
theorem dX5_wrongPlace_31 : decode cX5_wrongPlace 31 = .ok (.iaload, 1) := by decide +kernel
theorem dX5_wrongPlace_32 : decode cX5_wrongPlace 32 = .ok (.if_icmp .ge 82, 3) := by decide +kernel
theorem dX5_wrongPlace_35 : decode cX5_wrongPlace 35 = .ok (.aload_n 0, 1) := by decide +kernel
theorem dX5_wrongPlace_36 : decode cX5_wrongPlace 36 = .ok (.getfield 15, 3) := by decide +kernel
theorem dX5_wrongPlace_39 : decode cX5_wrongPlace 39 = .ok (.aload_n 0, 1) := by decide +kernel
theorem dX5_wrongPlace_40 : decode cX5_wrongPlace 40 = .ok (.getfield 9, 3) := by decide +kernel
theorem dX5_wrongPlace_43 : decode cX5_wrongPlace 43 = .ok (.bipush 9, 2) := by decide +kernel
theorem dX5_wrongPlace_45 : decode cX5_wrongPlace 45 = .ok (.iload 4, 2) := by decide +kernel
theorem dX5_wrongPlace_47 : decode cX5_wrongPlace 47 = .ok (.imul, 1) := by decide +kernel
theorem dX5_wrongPlace_48 : decode cX5_wrongPlace 48 = .ok (.iload 5, 2) := by decide +kernel
theorem dX5_wrongPlace_50 : decode cX5_wrongPlace 50 = .ok (.iadd, 1) := by decide +kernel
theorem dX5_wrongPlace_51 : decode cX5_wrongPlace 51 = .ok (.iaload, 1) := by decide +kernel
theorem dX5_wrongPlace_52 : decode cX5_wrongPlace 52 = .ok (.iconst 1, 1) := by decide +kernel
theorem dX5_wrongPlace_53 : decode cX5_wrongPlace 53 = .ok (.aload_n 1, 1) := by decide +kernel
theorem dX5_wrongPlace_54 : decode cX5_wrongPlace 54 = .ok (.iload 4, 2) := by decide +kernel
theorem dX5_wrongPlace_56 : decode cX5_wrongPlace 56 = .ok (.iload 5, 2) := by decide +kernel
theorem dX5_wrongPlace_58 : decode cX5_wrongPlace 58 = .ok (.invokevirtual 34, 3) := by decide +kernel
theorem dX5_wrongPlace_61 : decode cX5_wrongPlace 61 = .ok (.invokevirtual 54, 3) := by decide +kernel
theorem dX5_wrongPlace_64 : decode cX5_wrongPlace 64 = .ok (.istore 6, 2) := by decide +kernel
theorem dX5_wrongPlace_66 : decode cX5_wrongPlace 66 = .ok (.aload_n 0, 1) := by decide +kernel
theorem dX5_wrongPlace_67 : decode cX5_wrongPlace 67 = .ok (.getfield 15, 3) := by decide +kernel
theorem dX5_wrongPlace_70 : decode cX5_wrongPlace 70 = .ok (.iload 6, 2) := by decide +kernel
theorem dX5_wrongPlace_72 : decode cX5_wrongPlace 72 = .ok (.invokevirtual 57, 3) := by decide +kernel
theorem dX5_wrongPlace_75 : decode cX5_wrongPlace 75 = .ok (.istore 7, 2) := by decide +kernel
theorem dX5_wrongPlace_77 : decode cX5_wrongPlace 77 = .ok (.iload 7, 2) := by decide +kernel
theorem dX5_wrongPlace_79 : decode cX5_wrongPlace 79 = .ok (.iload_n 3, 1) := by decide +kernel
theorem dX5_wrongPlace_80 : decode cX5_wrongPlace 80 = .ok (.if_icmp .le 23, 3) := by decide +kernel
theorem dX5_wrongPlace_83 : decode cX5_wrongPlace 83 = .ok (.bipush 100, 2) := by decide +kernel
theorem dX5_wrongPlace_85 : decode cX5_wrongPlace 85 = .ok (.iload 4, 2) := by decide +kernel
theorem dX5_wrongPlace_87 : decode cX5_wrongPlace 87 = .ok (.imul, 1) := by decide +kernel
theorem dX5_wrongPlace_88 : decode cX5_wrongPlace 88 = .ok (.bipush 10, 2) := by decide +kernel
theorem dX5_wrongPlace_90 : decode cX5_wrongPlace 90 = .ok (.iload 5, 2) := by decide +kernel
theorem dX5_wrongPlace_92 : decode cX5_wrongPlace 92 = .ok (.imul, 1) := by decide +kernel
theorem dX5_wrongPlace_93 : decode cX5_wrongPlace 93 = .ok (.iadd, 1) := by decide +kernel
theorem dX5_wrongPlace_94 : decode cX5_wrongPlace 94 = .ok (.aload_n 0, 1) := by decide +kernel
theorem dX5_wrongPlace_95 : decode cX5_wrongPlace 95 = .ok (.iload 6, 2) := by decide +kernel
theorem dX5_wrongPlace_97 : decode cX5_wrongPlace 97 = .ok (.iload_n 3, 1) := by decide +kernel
theorem dX5_wrongPlace_98 : decode cX5_wrongPlace 98 = .ok (.invokevirtual 61, 3) := by decide +kernel
theorem dX5_wrongPlace_101 : decode cX5_wrongPlace 101 = .ok (.iadd, 1) := by decide +kernel
theorem dX5_wrongPlace_102 : decode cX5_wrongPlace 102 = .ok (.ireturn, 1) := by decide +kernel
theorem dX5_wrongPlace_103 : decode cX5_wrongPlace 103 = .ok (.iload_n 3, 1) := by decide +kernel
theorem dX5_wrongPlace_104 : decode cX5_wrongPlace 104 = .ok (.iload 7, 2) := by decide +kernel
theorem dX5_wrongPlace_106 : decode cX5_wrongPlace 106 = .ok (.isub, 1) := by decide +kernel
theorem dX5_wrongPlace_107 : decode cX5_wrongPlace 107 = .ok (.istore_n 3, 1) := by decide +kernel
theorem dX5_wrongPlace_108 : decode cX5_wrongPlace 108 = .ok (.iinc 5 1, 3) := by decide +kernel
theorem dX5_wrongPlace_111 : decode cX5_wrongPlace 111 = .ok (.goto (-87), 3) := by decide +kernel
theorem dX5_wrongPlace_114 : decode cX5_wrongPlace 114 = .ok (.iinc 4 1, 3) := by decide +kernel
theorem dX5_wrongPlace_117 : decode cX5_wrongPlace 117 = .ok (.goto (-107), 3) := by decide +kernel
theorem dX5_wrongPlace_120 : decode cX5_wrongPlace 120 = .ok (.iconst (-1), 1) := by decide +kernel
theorem dX5_wrongPlace_121 : decode cX5_wrongPlace 121 = .ok (.ireturn, 1) := by decide +kernel
theorem dX5_filledIndex_0 : decode cX5_filledIndex 0 = .ok (.iload_n 2, 1) := by decide +kernel
theorem dX5_filledIndex_1 : decode cX5_filledIndex 1 = .ok (.istore_n 3, 1) := by decide +kernel
theorem dX5_filledIndex_2 : decode cX5_filledIndex 2 = .ok (.iconst 0, 1) := by decide +kernel
theorem dX5_filledIndex_3 : decode cX5_filledIndex 3 = .ok (.istore 4, 2) := by decide +kernel
theorem dX5_filledIndex_5 : decode cX5_filledIndex 5 = .ok (.iload 4, 2) := by decide +kernel
theorem dX5_filledIndex_7 : decode cX5_filledIndex 7 = .ok (.bipush 9, 2) := by decide +kernel
theorem dX5_filledIndex_9 : decode cX5_filledIndex 9 = .ok (.if_icmp .ge 32, 3) := by decide +kernel
theorem dX5_filledIndex_12 : decode cX5_filledIndex 12 = .ok (.aload_n 0, 1) := by decide +kernel
theorem dX5_filledIndex_13 : decode cX5_filledIndex 13 = .ok (.getfield 15, 3) := by decide +kernel
theorem dX5_filledIndex_16 : decode cX5_filledIndex 16 = .ok (.iload_n 1, 1) := by decide +kernel
theorem dX5_filledIndex_17 : decode cX5_filledIndex 17 = .ok (.iload 4, 2) := by decide +kernel
theorem dX5_filledIndex_19 : decode cX5_filledIndex 19 = .ok (.invokevirtual 24, 3) := by decide +kernel
theorem dX5_filledIndex_22 : decode cX5_filledIndex 22 = .ok (.ifCond .eq 13, 3) := by decide +kernel
theorem dX5_filledIndex_25 : decode cX5_filledIndex 25 = .ok (.iload_n 3, 1) := by decide +kernel
theorem dX5_filledIndex_26 : decode cX5_filledIndex 26 = .ok (.ifCond .ne 6, 3) := by decide +kernel
theorem dX5_filledIndex_29 : decode cX5_filledIndex 29 = .ok (.iload 4, 2) := by decide +kernel
theorem dX5_filledIndex_31 : decode cX5_filledIndex 31 = .ok (.ireturn, 1) := by decide +kernel
theorem dX5_filledIndex_32 : decode cX5_filledIndex 32 = .ok (.iinc 3 (-1), 3) := by decide +kernel
theorem dX5_filledIndex_35 : decode cX5_filledIndex 35 = .ok (.iinc 4 1, 3) := by decide +kernel
theorem dX5_filledIndex_38 : decode cX5_filledIndex 38 = .ok (.goto (-33), 3) := by decide +kernel
theorem dX5_filledIndex_41 : decode cX5_filledIndex 41 = .ok (.iconst 0, 1) := by decide +kernel
theorem dX5_filledIndex_42 : decode cX5_filledIndex 42 = .ok (.ireturn, 1) := by decide +kernel
theorem dX5_addAll_0 : decode cX5_addAll 0 = .ok (.aload_n 0, 1) := by decide +kernel
theorem dX5_addAll_1 : decode cX5_addAll 1 = .ok (.getfield 9, 3) := by decide +kernel
theorem dX5_addAll_4 : decode cX5_addAll 4 = .ok (.iconst 0, 1) := by decide +kernel
theorem dX5_addAll_5 : decode cX5_addAll 5 = .ok (.invokestatic 64, 3) := by decide +kernel
theorem dX5_addAll_8 : decode cX5_addAll 8 = .ok (.iconst 0, 1) := by decide +kernel
theorem dX5_addAll_9 : decode cX5_addAll 9 = .ok (.istore_n 2, 1) := by decide +kernel
theorem dX5_addAll_10 : decode cX5_addAll 10 = .ok (.iload_n 2, 1) := by decide +kernel
theorem dX5_addAll_11 : decode cX5_addAll 11 = .ok (.aload_n 1, 1) := by decide +kernel
theorem dX5_addAll_12 : decode cX5_addAll 12 = .ok (.getfield 41, 3) := by decide +kernel
theorem dX5_addAll_15 : decode cX5_addAll 15 = .ok (.if_icmp .ge 63, 3) := by decide +kernel
theorem dX5_addAll_18 : decode cX5_addAll 18 = .ok (.aload_n 1, 1) := by decide +kernel
theorem dX5_addAll_19 : decode cX5_addAll 19 = .ok (.iconst 0, 1) := by decide +kernel
theorem dX5_addAll_20 : decode cX5_addAll 20 = .ok (.iload_n 2, 1) := by decide +kernel
theorem dX5_addAll_21 : decode cX5_addAll 21 = .ok (.invokevirtual 44, 3) := by decide +kernel
theorem dX5_addAll_24 : decode cX5_addAll 24 = .ok (.istore_n 3, 1) := by decide +kernel
theorem dX5_addAll_25 : decode cX5_addAll 25 = .ok (.iconst 0, 1) := by decide +kernel
theorem dX5_addAll_26 : decode cX5_addAll 26 = .ok (.istore 4, 2) := by decide +kernel
theorem dX5_addAll_28 : decode cX5_addAll 28 = .ok (.iload 4, 2) := by decide +kernel
theorem dX5_addAll_30 : decode cX5_addAll 30 = .ok (.aload_n 1, 1) := by decide +kernel
theorem dX5_addAll_31 : decode cX5_addAll 31 = .ok (.getfield 19, 3) := by decide +kernel
theorem dX5_addAll_34 : decode cX5_addAll 34 = .ok (.iconst 0, 1) := by decide +kernel
theorem dX5_addAll_35 : decode cX5_addAll 35 = .ok (.iaload, 1) := by decide +kernel
theorem dX5_addAll_36 : decode cX5_addAll 36 = .ok (.if_icmp .ge 36, 3) := by decide +kernel
theorem dX5_addAll_39 : decode cX5_addAll 39 = .ok (.aload_n 0, 1) := by decide +kernel
theorem dX5_addAll_40 : decode cX5_addAll 40 = .ok (.getfield 15, 3) := by decide +kernel
theorem dX5_addAll_43 : decode cX5_addAll 43 = .ok (.iload_n 3, 1) := by decide +kernel
theorem dX5_addAll_44 : decode cX5_addAll 44 = .ok (.iload 4, 2) := by decide +kernel
theorem dX5_addAll_46 : decode cX5_addAll 46 = .ok (.invokevirtual 24, 3) := by decide +kernel
theorem dX5_addAll_49 : decode cX5_addAll 49 = .ok (.istore 5, 2) := by decide +kernel
theorem dX5_addAll_51 : decode cX5_addAll 51 = .ok (.iload 5, 2) := by decide +kernel
theorem dX5_addAll_53 : decode cX5_addAll 53 = .ok (.ifCond .eq 13, 3) := by decide +kernel
theorem dX5_addAll_56 : decode cX5_addAll 56 = .ok (.aload_n 0, 1) := by decide +kernel
theorem dX5_addAll_57 : decode cX5_addAll 57 = .ok (.aload_n 1, 1) := by decide +kernel
theorem dX5_addAll_58 : decode cX5_addAll 58 = .ok (.iload_n 2, 1) := by decide +kernel
theorem dX5_addAll_59 : decode cX5_addAll 59 = .ok (.iload 4, 2) := by decide +kernel
theorem dX5_addAll_61 : decode cX5_addAll 61 = .ok (.iload 5, 2) := by decide +kernel
theorem dX5_addAll_63 : decode cX5_addAll 63 = .ok (.invokevirtual 70, 3) := by decide +kernel
theorem dX5_addAll_66 : decode cX5_addAll 66 = .ok (.iinc 4 1, 3) := by decide +kernel
theorem dX5_addAll_69 : decode cX5_addAll 69 = .ok (.goto (-41), 3) := by decide +kernel
theorem dX5_addAll_72 : decode cX5_addAll 72 = .ok (.iinc 2 1, 3) := by decide +kernel
theorem dX5_addAll_75 : decode cX5_addAll 75 = .ok (.goto (-65), 3) := by decide +kernel
theorem dX5_addAll_78 : decode cX5_addAll 78 = .ok (.return_, 1) := by decide +kernel
theorem dX5_addLine_0 : decode cX5_addLine 0 = .ok (.aload_n 1, 1) := by decide +kernel
theorem dX5_addLine_1 : decode cX5_addLine 1 = .ok (.iconst 1, 1) := by decide +kernel
theorem dX5_addLine_2 : decode cX5_addLine 2 = .ok (.iload_n 2, 1) := by decide +kernel
theorem dX5_addLine_3 : decode cX5_addLine 3 = .ok (.invokevirtual 44, 3) := by decide +kernel
theorem dX5_addLine_6 : decode cX5_addLine 6 = .ok (.istore 5, 2) := by decide +kernel
theorem dX5_addLine_8 : decode cX5_addLine 8 = .ok (.aload_n 1, 1) := by decide +kernel
theorem dX5_addLine_9 : decode cX5_addLine 9 = .ok (.iconst 2, 1) := by decide +kernel
theorem dX5_addLine_10 : decode cX5_addLine 10 = .ok (.iload_n 2, 1) := by decide +kernel
theorem dX5_addLine_11 : decode cX5_addLine 11 = .ok (.invokevirtual 44, 3) := by decide +kernel
theorem dX5_addLine_14 : decode cX5_addLine 14 = .ok (.istore 6, 2) := by decide +kernel
theorem dX5_addLine_16 : decode cX5_addLine 16 = .ok (.iconst 0, 1) := by decide +kernel
theorem dX5_addLine_17 : decode cX5_addLine 17 = .ok (.istore 7, 2) := by decide +kernel
theorem dX5_addLine_19 : decode cX5_addLine 19 = .ok (.iload 7, 2) := by decide +kernel
theorem dX5_addLine_21 : decode cX5_addLine 21 = .ok (.aload_n 1, 1) := by decide +kernel
theorem dX5_addLine_22 : decode cX5_addLine 22 = .ok (.getfield 19, 3) := by decide +kernel
theorem dX5_addLine_25 : decode cX5_addLine 25 = .ok (.iconst 1, 1) := by decide +kernel
theorem dX5_addLine_26 : decode cX5_addLine 26 = .ok (.iaload, 1) := by decide +kernel
theorem dX5_addLine_27 : decode cX5_addLine 27 = .ok (.if_icmp .ge 67, 3) := by decide +kernel
theorem dX5_addLine_30 : decode cX5_addLine 30 = .ok (.iload 4, 2) := by decide +kernel
theorem dX5_addLine_32 : decode cX5_addLine 32 = .ok (.aload_n 0, 1) := by decide +kernel
theorem dX5_addLine_33 : decode cX5_addLine 33 = .ok (.getfield 15, 3) := by decide +kernel
theorem dX5_addLine_36 : decode cX5_addLine 36 = .ok (.iload 5, 2) := by decide +kernel
theorem dX5_addLine_38 : decode cX5_addLine 38 = .ok (.iload 7, 2) := by decide +kernel
theorem dX5_addLine_40 : decode cX5_addLine 40 = .ok (.invokevirtual 24, 3) := by decide +kernel
theorem dX5_addLine_43 : decode cX5_addLine 43 = .ok (.imul, 1) := by decide +kernel
theorem dX5_addLine_44 : decode cX5_addLine 44 = .ok (.aload_n 0, 1) := by decide +kernel
theorem dX5_addLine_45 : decode cX5_addLine 45 = .ok (.getfield 15, 3) := by decide +kernel
theorem dX5_addLine_48 : decode cX5_addLine 48 = .ok (.getfield 30, 3) := by decide +kernel
theorem dX5_addLine_51 : decode cX5_addLine 51 = .ok (.irem, 1) := by decide +kernel
theorem dX5_addLine_52 : decode cX5_addLine 52 = .ok (.istore 8, 2) := by decide +kernel
theorem dX5_addLine_54 : decode cX5_addLine 54 = .ok (.bipush 9, 2) := by decide +kernel
theorem dX5_addLine_56 : decode cX5_addLine 56 = .ok (.iload_n 3, 1) := by decide +kernel
theorem dX5_addLine_57 : decode cX5_addLine 57 = .ok (.imul, 1) := by decide +kernel
theorem dX5_addLine_58 : decode cX5_addLine 58 = .ok (.iload 7, 2) := by decide +kernel
theorem dX5_addLine_60 : decode cX5_addLine 60 = .ok (.iadd, 1) := by decide +kernel
theorem dX5_addLine_61 : decode cX5_addLine 61 = .ok (.istore 9, 2) := by decide +kernel
theorem dX5_addLine_63 : decode cX5_addLine 63 = .ok (.aload_n 0, 1) := by decide +kernel
theorem dX5_addLine_64 : decode cX5_addLine 64 = .ok (.getfield 9, 3) := by decide +kernel
theorem dX5_addLine_67 : decode cX5_addLine 67 = .ok (.iload 9, 2) := by decide +kernel
theorem dX5_addLine_69 : decode cX5_addLine 69 = .ok (.aload_n 0, 1) := by decide +kernel
theorem dX5_addLine_70 : decode cX5_addLine 70 = .ok (.getfield 15, 3) := by decide +kernel
theorem dX5_addLine_73 : decode cX5_addLine 73 = .ok (.aload_n 0, 1) := by decide +kernel
theorem dX5_addLine_74 : decode cX5_addLine 74 = .ok (.getfield 9, 3) := by decide +kernel
theorem dX5_addLine_77 : decode cX5_addLine 77 = .ok (.iload 9, 2) := by decide +kernel
theorem dX5_addLine_79 : decode cX5_addLine 79 = .ok (.iaload, 1) := by decide +kernel
theorem dX5_addLine_80 : decode cX5_addLine 80 = .ok (.iload 8, 2) := by decide +kernel
theorem dX5_addLine_82 : decode cX5_addLine 82 = .ok (.iload 6, 2) := by decide +kernel
theorem dX5_addLine_84 : decode cX5_addLine 84 = .ok (.invokevirtual 37, 3) := by decide +kernel
theorem dX5_addLine_87 : decode cX5_addLine 87 = .ok (.iastore, 1) := by decide +kernel
theorem dX5_addLine_88 : decode cX5_addLine 88 = .ok (.iinc 7 1, 3) := by decide +kernel
theorem dX5_addLine_91 : decode cX5_addLine 91 = .ok (.goto (-72), 3) := by decide +kernel
theorem dX5_addLine_94 : decode cX5_addLine 94 = .ok (.return_, 1) := by decide +kernel
