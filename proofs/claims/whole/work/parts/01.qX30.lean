theorem dX3_init_0 : decode cX3_init 0 = .ok (.aload_n 0, 1) := by decide +kernel
theorem dX3_init_1 : decode cX3_init 1 = .ok (.invokespecial 3, 3) := by decide +kernel
theorem dX3_init_4 : decode cX3_init 4 = .ok (.aload_n 0, 1) := by decide +kernel
theorem dX3_init_5 : decode cX3_init 5 = .ok (.aload_n 1, 1) := by decide +kernel
theorem dX3_init_6 : decode cX3_init 6 = .ok (.putfield 9, 3) := by decide +kernel
theorem dX3_init_9 : decode cX3_init 9 = .ok (.return_, 1) := by decide +kernel
theorem dX3_countMoves_0 : decode cX3_countMoves 0 = .ok (.iconst 0, 1) := by decide +kernel
theorem dX3_countMoves_1 : decode cX3_countMoves 1 = .ok (.istore_n 2, 1) := by decide +kernel
theorem dX3_countMoves_2 : decode cX3_countMoves 2 = .ok (.iconst 0, 1) := by decide +kernel
theorem dX3_countMoves_3 : decode cX3_countMoves 3 = .ok (.istore_n 3, 1) := by decide +kernel
theorem dX3_countMoves_4 : decode cX3_countMoves 4 = .ok (.iload_n 3, 1) := by decide +kernel
theorem dX3_countMoves_5 : decode cX3_countMoves 5 = .ok (.iconst 3, 1) := by decide +kernel
theorem dX3_countMoves_6 : decode cX3_countMoves 6 = .ok (.if_icmp .ge 37, 3) := by decide +kernel
theorem dX3_countMoves_9 : decode cX3_countMoves 9 = .ok (.iconst 0, 1) := by decide +kernel
theorem dX3_countMoves_10 : decode cX3_countMoves 10 = .ok (.istore 4, 2) := by decide +kernel
theorem dX3_countMoves_12 : decode cX3_countMoves 12 = .ok (.iload 4, 2) := by decide +kernel
theorem dX3_countMoves_14 : decode cX3_countMoves 14 = .ok (.aload_n 1, 1) := by decide +kernel
theorem dX3_countMoves_15 : decode cX3_countMoves 15 = .ok (.getfield 15, 3) := by decide +kernel
theorem dX3_countMoves_18 : decode cX3_countMoves 18 = .ok (.if_icmp .ge 19, 3) := by decide +kernel
theorem dX3_countMoves_21 : decode cX3_countMoves 21 = .ok (.iload_n 2, 1) := by decide +kernel
theorem dX3_countMoves_22 : decode cX3_countMoves 22 = .ok (.aload_n 1, 1) := by decide +kernel
theorem dX3_countMoves_23 : decode cX3_countMoves 23 = .ok (.iload_n 3, 1) := by decide +kernel
theorem dX3_countMoves_24 : decode cX3_countMoves 24 = .ok (.iload 4, 2) := by decide +kernel
theorem dX3_countMoves_26 : decode cX3_countMoves 26 = .ok (.invokevirtual 21, 3) := by decide +kernel
theorem dX3_countMoves_29 : decode cX3_countMoves 29 = .ok (.iadd, 1) := by decide +kernel
theorem dX3_countMoves_30 : decode cX3_countMoves 30 = .ok (.istore_n 2, 1) := by decide +kernel
theorem dX3_countMoves_31 : decode cX3_countMoves 31 = .ok (.iinc 4 1, 3) := by decide +kernel
theorem dX3_countMoves_34 : decode cX3_countMoves 34 = .ok (.goto (-22), 3) := by decide +kernel
theorem dX3_countMoves_37 : decode cX3_countMoves 37 = .ok (.iinc 3 1, 3) := by decide +kernel
theorem dX3_countMoves_40 : decode cX3_countMoves 40 = .ok (.goto (-36), 3) := by decide +kernel
theorem dX3_countMoves_43 : decode cX3_countMoves 43 = .ok (.iload_n 2, 1) := by decide +kernel
theorem dX3_countMoves_44 : decode cX3_countMoves 44 = .ok (.ireturn, 1) := by decide +kernel
theorem dX3_doNumbered_0 : decode cX3_doNumbered 0 = .ok (.iload_n 2, 1) := by decide +kernel
theorem dX3_doNumbered_1 : decode cX3_doNumbered 1 = .ok (.istore_n 3, 1) := by decide +kernel
theorem dX3_doNumbered_2 : decode cX3_doNumbered 2 = .ok (.iconst 0, 1) := by decide +kernel
theorem dX3_doNumbered_3 : decode cX3_doNumbered 3 = .ok (.istore 4, 2) := by decide +kernel
theorem dX3_doNumbered_5 : decode cX3_doNumbered 5 = .ok (.iload 4, 2) := by decide +kernel
theorem dX3_doNumbered_7 : decode cX3_doNumbered 7 = .ok (.iconst 3, 1) := by decide +kernel
theorem dX3_doNumbered_8 : decode cX3_doNumbered 8 = .ok (.if_icmp .ge 68, 3) := by decide +kernel
theorem dX3_doNumbered_11 : decode cX3_doNumbered 11 = .ok (.iconst 0, 1) := by decide +kernel
theorem dX3_doNumbered_12 : decode cX3_doNumbered 12 = .ok (.istore 5, 2) := by decide +kernel
theorem dX3_doNumbered_14 : decode cX3_doNumbered 14 = .ok (.iload 5, 2) := by decide +kernel
theorem dX3_doNumbered_16 : decode cX3_doNumbered 16 = .ok (.aload_n 1, 1) := by decide +kernel
theorem dX3_doNumbered_17 : decode cX3_doNumbered 17 = .ok (.getfield 15, 3) := by decide +kernel
theorem dX3_doNumbered_20 : decode cX3_doNumbered 20 = .ok (.if_icmp .ge 50, 3) := by decide +kernel
theorem dX3_doNumbered_23 : decode cX3_doNumbered 23 = .ok (.aload_n 1, 1) := by decide +kernel
theorem dX3_doNumbered_24 : decode cX3_doNumbered 24 = .ok (.iload 4, 2) := by decide +kernel
theorem dX3_doNumbered_26 : decode cX3_doNumbered 26 = .ok (.iload 5, 2) := by decide +kernel
theorem dX3_doNumbered_28 : decode cX3_doNumbered 28 = .ok (.invokevirtual 21, 3) := by decide +kernel
theorem dX3_doNumbered_31 : decode cX3_doNumbered 31 = .ok (.istore 6, 2) := by decide +kernel
theorem dX3_doNumbered_33 : decode cX3_doNumbered 33 = .ok (.iload_n 3, 1) := by decide +kernel
theorem dX3_doNumbered_34 : decode cX3_doNumbered 34 = .ok (.iload 6, 2) := by decide +kernel
theorem dX3_doNumbered_36 : decode cX3_doNumbered 36 = .ok (.if_icmp .ge 23, 3) := by decide +kernel
theorem dX3_doNumbered_39 : decode cX3_doNumbered 39 = .ok (.aload_n 0, 1) := by decide +kernel
theorem dX3_doNumbered_40 : decode cX3_doNumbered 40 = .ok (.aload_n 1, 1) := by decide +kernel
theorem dX3_doNumbered_41 : decode cX3_doNumbered 41 = .ok (.iload 4, 2) := by decide +kernel
theorem dX3_doNumbered_43 : decode cX3_doNumbered 43 = .ok (.iload 5, 2) := by decide +kernel
theorem dX3_doNumbered_45 : decode cX3_doNumbered 45 = .ok (.aload_n 0, 1) := by decide +kernel
theorem dX3_doNumbered_46 : decode cX3_doNumbered 46 = .ok (.aload_n 1, 1) := by decide +kernel
theorem dX3_doNumbered_47 : decode cX3_doNumbered 47 = .ok (.iload 4, 2) := by decide +kernel
theorem dX3_doNumbered_49 : decode cX3_doNumbered 49 = .ok (.iload 5, 2) := by decide +kernel
theorem dX3_doNumbered_51 : decode cX3_doNumbered 51 = .ok (.iload_n 3, 1) := by decide +kernel
theorem dX3_doNumbered_52 : decode cX3_doNumbered 52 = .ok (.invokevirtual 25, 3) := by decide +kernel
theorem dX3_doNumbered_55 : decode cX3_doNumbered 55 = .ok (.invokevirtual 29, 3) := by decide +kernel
theorem dX3_doNumbered_58 : decode cX3_doNumbered 58 = .ok (.return_, 1) := by decide +kernel
theorem dX3_doNumbered_59 : decode cX3_doNumbered 59 = .ok (.iload_n 3, 1) := by decide +kernel
theorem dX3_doNumbered_60 : decode cX3_doNumbered 60 = .ok (.iload 6, 2) := by decide +kernel
theorem dX3_doNumbered_62 : decode cX3_doNumbered 62 = .ok (.isub, 1) := by decide +kernel
theorem dX3_doNumbered_63 : decode cX3_doNumbered 63 = .ok (.istore_n 3, 1) := by decide +kernel
theorem dX3_doNumbered_64 : decode cX3_doNumbered 64 = .ok (.iinc 5 1, 3) := by decide +kernel
theorem dX3_doNumbered_67 : decode cX3_doNumbered 67 = .ok (.goto (-53), 3) := by decide +kernel
theorem dX3_doNumbered_70 : decode cX3_doNumbered 70 = .ok (.iinc 4 1, 3) := by decide +kernel
theorem dX3_doNumbered_73 : decode cX3_doNumbered 73 = .ok (.goto (-68), 3) := by decide +kernel
theorem dX3_doNumbered_76 : decode cX3_doNumbered 76 = .ok (.return_, 1) := by decide +kernel
theorem dX3_mateOf_0 : decode cX3_mateOf 0 = .ok (.iload 4, 2) := by decide +kernel
theorem dX3_mateOf_2 : decode cX3_mateOf 2 = .ok (.istore 5, 2) := by decide +kernel
theorem dX3_mateOf_4 : decode cX3_mateOf 4 = .ok (.iconst 0, 1) := by decide +kernel
theorem dX3_mateOf_5 : decode cX3_mateOf 5 = .ok (.istore 6, 2) := by decide +kernel
theorem dX3_mateOf_7 : decode cX3_mateOf 7 = .ok (.iload 6, 2) := by decide +kernel
theorem dX3_mateOf_9 : decode cX3_mateOf 9 = .ok (.aload_n 1, 1) := by decide +kernel
theorem dX3_mateOf_10 : decode cX3_mateOf 10 = .ok (.getfield 15, 3) := by decide +kernel
theorem dX3_mateOf_13 : decode cX3_mateOf 13 = .ok (.if_icmp .ge 37, 3) := by decide +kernel
theorem dX3_mateOf_16 : decode cX3_mateOf 16 = .ok (.iload 6, 2) := by decide +kernel
theorem dX3_mateOf_18 : decode cX3_mateOf 18 = .ok (.iload_n 3, 1) := by decide +kernel
theorem dX3_mateOf_19 : decode cX3_mateOf 19 = .ok (.if_icmp .eq 25, 3) := by decide +kernel
theorem dX3_mateOf_22 : decode cX3_mateOf 22 = .ok (.aload_n 1, 1) := by decide +kernel
theorem dX3_mateOf_23 : decode cX3_mateOf 23 = .ok (.iload_n 2, 1) := by decide +kernel
theorem dX3_mateOf_24 : decode cX3_mateOf 24 = .ok (.iload_n 3, 1) := by decide +kernel
theorem dX3_mateOf_25 : decode cX3_mateOf 25 = .ok (.iload 6, 2) := by decide +kernel
theorem dX3_mateOf_27 : decode cX3_mateOf 27 = .ok (.invokevirtual 33, 3) := by decide +kernel
theorem dX3_mateOf_30 : decode cX3_mateOf 30 = .ok (.ifCond .eq 14, 3) := by decide +kernel
theorem dX3_mateOf_33 : decode cX3_mateOf 33 = .ok (.iload 5, 2) := by decide +kernel
theorem dX3_mateOf_35 : decode cX3_mateOf 35 = .ok (.ifCond .ne 6, 3) := by decide +kernel
theorem dX3_mateOf_38 : decode cX3_mateOf 38 = .ok (.iload 6, 2) := by decide +kernel
theorem dX3_mateOf_40 : decode cX3_mateOf 40 = .ok (.ireturn, 1) := by decide +kernel
theorem dX3_mateOf_41 : decode cX3_mateOf 41 = .ok (.iinc 5 (-1), 3) := by decide +kernel
theorem dX3_mateOf_44 : decode cX3_mateOf 44 = .ok (.iinc 6 1, 3) := by decide +kernel
theorem dX3_mateOf_47 : decode cX3_mateOf 47 = .ok (.goto (-40), 3) := by decide +kernel
theorem dX3_mateOf_50 : decode cX3_mateOf 50 = .ok (.iload_n 3, 1) := by decide +kernel
theorem dX3_mateOf_51 : decode cX3_mateOf 51 = .ok (.ireturn, 1) := by decide +kernel
theorem dX3_doMove_0 : decode cX3_doMove 0 = .ok (.iload_n 2, 1) := by decide +kernel
theorem dX3_doMove_1 : decode cX3_doMove 1 = .ok (.iconst 1, 1) := by decide +kernel
theorem dX3_doMove_2 : decode cX3_doMove 2 = .ok (.iadd, 1) := by decide +kernel
theorem dX3_doMove_3 : decode cX3_doMove 3 = .ok (.iconst 3, 1) := by decide +kernel
theorem dX3_doMove_4 : decode cX3_doMove 4 = .ok (.irem, 1) := by decide +kernel
theorem dX3_doMove_5 : decode cX3_doMove 5 = .ok (.istore 5, 2) := by decide +kernel
theorem dX3_doMove_7 : decode cX3_doMove 7 = .ok (.iload_n 2, 1) := by decide +kernel
theorem dX3_doMove_8 : decode cX3_doMove 8 = .ok (.iconst 2, 1) := by decide +kernel
theorem dX3_doMove_9 : decode cX3_doMove 9 = .ok (.iadd, 1) := by decide +kernel
theorem dX3_doMove_10 : decode cX3_doMove 10 = .ok (.iconst 3, 1) := by decide +kernel
theorem dX3_doMove_11 : decode cX3_doMove 11 = .ok (.irem, 1) := by decide +kernel
theorem dX3_doMove_12 : decode cX3_doMove 12 = .ok (.istore 6, 2) := by decide +kernel
theorem dX3_doMove_14 : decode cX3_doMove 14 = .ok (.aload_n 1, 1) := by decide +kernel
theorem dX3_doMove_15 : decode cX3_doMove 15 = .ok (.iload_n 2, 1) := by decide +kernel
theorem dX3_doMove_16 : decode cX3_doMove 16 = .ok (.iload_n 3, 1) := by decide +kernel
theorem dX3_doMove_17 : decode cX3_doMove 17 = .ok (.iload 4, 2) := by decide +kernel
theorem dX3_doMove_19 : decode cX3_doMove 19 = .ok (.invokevirtual 37, 3) := by decide +kernel
theorem dX3_doMove_22 : decode cX3_doMove 22 = .ok (.istore 7, 2) := by decide +kernel
theorem dX3_doMove_24 : decode cX3_doMove 24 = .ok (.aload_n 0, 1) := by decide +kernel
theorem dX3_doMove_25 : decode cX3_doMove 25 = .ok (.getfield 9, 3) := by decide +kernel
theorem dX3_doMove_28 : decode cX3_doMove 28 = .ok (.iconst 0, 1) := by decide +kernel
theorem dX3_doMove_29 : decode cX3_doMove 29 = .ok (.iload 7, 2) := by decide +kernel
theorem dX3_doMove_31 : decode cX3_doMove 31 = .ok (.aload_n 1, 1) := by decide +kernel
theorem dX3_doMove_32 : decode cX3_doMove 32 = .ok (.iload 5, 2) := by decide +kernel
theorem dX3_doMove_34 : decode cX3_doMove 34 = .ok (.iload 4, 2) := by decide +kernel
theorem dX3_doMove_36 : decode cX3_doMove 36 = .ok (.invokevirtual 41, 3) := by decide +kernel
theorem dX3_doMove_39 : decode cX3_doMove 39 = .ok (.invokevirtual 44, 3) := by decide +kernel
theorem dX3_doMove_42 : decode cX3_doMove 42 = .ok (.istore 8, 2) := by decide +kernel
theorem dX3_doMove_44 : decode cX3_doMove 44 = .ok (.aload_n 1, 1) := by decide +kernel
theorem dX3_doMove_45 : decode cX3_doMove 45 = .ok (.iload_n 2, 1) := by decide +kernel
theorem dX3_doMove_46 : decode cX3_doMove 46 = .ok (.iload 4, 2) := by decide +kernel
theorem dX3_doMove_48 : decode cX3_doMove 48 = .ok (.aload_n 1, 1) := by decide +kernel
theorem dX3_doMove_49 : decode cX3_doMove 49 = .ok (.iload_n 2, 1) := by decide +kernel
theorem dX3_doMove_50 : decode cX3_doMove 50 = .ok (.iload_n 3, 1) := by decide +kernel
theorem dX3_doMove_51 : decode cX3_doMove 51 = .ok (.invokevirtual 41, 3) := by decide +kernel
theorem dX3_doMove_54 : decode cX3_doMove 54 = .ok (.invokevirtual 49, 3) := by decide +kernel
theorem dX3_doMove_57 : decode cX3_doMove 57 = .ok (.aload_n 1, 1) := by decide +kernel
theorem dX3_doMove_58 : decode cX3_doMove 58 = .ok (.iload 5, 2) := by decide +kernel
theorem dX3_doMove_60 : decode cX3_doMove 60 = .ok (.iload 4, 2) := by decide +kernel
theorem dX3_doMove_62 : decode cX3_doMove 62 = .ok (.iload 8, 2) := by decide +kernel
theorem dX3_doMove_64 : decode cX3_doMove 64 = .ok (.invokevirtual 49, 3) := by decide +kernel
theorem dX3_doMove_67 : decode cX3_doMove 67 = .ok (.aload_n 1, 1) := by decide +kernel
theorem dX3_doMove_68 : decode cX3_doMove 68 = .ok (.iload 5, 2) := by decide +kernel
theorem dX3_doMove_70 : decode cX3_doMove 70 = .ok (.iload_n 3, 1) := by decide +kernel
theorem dX3_doMove_71 : decode cX3_doMove 71 = .ok (.aload_n 0, 1) := by decide +kernel
theorem dX3_doMove_72 : decode cX3_doMove 72 = .ok (.getfield 9, 3) := by decide +kernel
theorem dX3_doMove_75 : decode cX3_doMove 75 = .ok (.aload_n 1, 1) := by decide +kernel
theorem dX3_doMove_76 : decode cX3_doMove 76 = .ok (.iload 5, 2) := by decide +kernel
theorem dX3_doMove_78 : decode cX3_doMove 78 = .ok (.iload_n 3, 1) := by decide +kernel
theorem dX3_doMove_79 : decode cX3_doMove 79 = .ok (.invokevirtual 41, 3) := by decide +kernel
theorem dX3_doMove_82 : decode cX3_doMove 82 = .ok (.iconst 1, 1) := by decide +kernel
theorem dX3_doMove_83 : decode cX3_doMove 83 = .ok (.iload 8, 2) := by decide +kernel
theorem dX3_doMove_85 : decode cX3_doMove 85 = .ok (.invokevirtual 44, 3) := by decide +kernel
theorem dX3_doMove_88 : decode cX3_doMove 88 = .ok (.invokevirtual 49, 3) := by decide +kernel
theorem dX3_doMove_91 : decode cX3_doMove 91 = .ok (.aload_n 1, 1) := by decide +kernel
theorem dX3_doMove_92 : decode cX3_doMove 92 = .ok (.iload 6, 2) := by decide +kernel
theorem dX3_doMove_94 : decode cX3_doMove 94 = .ok (.iload 4, 2) := by decide +kernel
theorem dX3_doMove_96 : decode cX3_doMove 96 = .ok (.aload_n 0, 1) := by decide +kernel
theorem dX3_doMove_97 : decode cX3_doMove 97 = .ok (.getfield 9, 3) := by decide +kernel
theorem dX3_doMove_100 : decode cX3_doMove 100 = .ok (.aload_n 1, 1) := by decide +kernel
theorem dX3_doMove_101 : decode cX3_doMove 101 = .ok (.iload 6, 2) := by decide +kernel
theorem dX3_doMove_103 : decode cX3_doMove 103 = .ok (.iload 4, 2) := by decide +kernel
theorem dX3_doMove_105 : decode cX3_doMove 105 = .ok (.invokevirtual 41, 3) := by decide +kernel
theorem dX3_doMove_108 : decode cX3_doMove 108 = .ok (.iconst 1, 1) := by decide +kernel
theorem dX3_doMove_109 : decode cX3_doMove 109 = .ok (.aload_n 1, 1) := by decide +kernel
theorem dX3_doMove_110 : decode cX3_doMove 110 = .ok (.iload 6, 2) := by decide +kernel
theorem dX3_doMove_112 : decode cX3_doMove 112 = .ok (.iload_n 3, 1) := by decide +kernel
theorem dX3_doMove_113 : decode cX3_doMove 113 = .ok (.invokevirtual 41, 3) := by decide +kernel
theorem dX3_doMove_116 : decode cX3_doMove 116 = .ok (.invokevirtual 53, 3) := by decide +kernel
theorem dX3_doMove_119 : decode cX3_doMove 119 = .ok (.invokevirtual 49, 3) := by decide +kernel
theorem dX3_doMove_122 : decode cX3_doMove 122 = .ok (.return_, 1) := by decide +kernel
theorem dX3_lessen_0 : decode cX3_lessen 0 = .ok (.aload_n 1, 1) := by decide +kernel
theorem dX3_lessen_1 : decode cX3_lessen 1 = .ok (.getfield 15, 3) := by decide +kernel
theorem dX3_lessen_4 : decode cX3_lessen 4 = .ok (.istore_n 2, 1) := by decide +kernel
theorem dX3_lessen_5 : decode cX3_lessen 5 = .ok (.iconst 0, 1) := by decide +kernel
theorem dX3_lessen_6 : decode cX3_lessen 6 = .ok (.istore_n 3, 1) := by decide +kernel
theorem dX3_lessen_7 : decode cX3_lessen 7 = .ok (.iload_n 3, 1) := by decide +kernel
theorem dX3_lessen_8 : decode cX3_lessen 8 = .ok (.iload_n 2, 1) := by decide +kernel
theorem dX3_lessen_9 : decode cX3_lessen 9 = .ok (.if_icmp .ge 28, 3) := by decide +kernel
theorem dX3_lessen_12 : decode cX3_lessen 12 = .ok (.aload_n 0, 1) := by decide +kernel
theorem dX3_lessen_13 : decode cX3_lessen 13 = .ok (.aload_n 1, 1) := by decide +kernel
theorem dX3_lessen_14 : decode cX3_lessen 14 = .ok (.invokevirtual 56, 3) := by decide +kernel
theorem dX3_lessen_17 : decode cX3_lessen 17 = .ok (.ifCond .ne 14, 3) := by decide +kernel
theorem dX3_lessen_20 : decode cX3_lessen 20 = .ok (.aload_n 0, 1) := by decide +kernel
theorem dX3_lessen_21 : decode cX3_lessen 21 = .ok (.aload_n 1, 1) := by decide +kernel
theorem dX3_lessen_22 : decode cX3_lessen 22 = .ok (.invokevirtual 60, 3) := by decide +kernel
theorem dX3_lessen_25 : decode cX3_lessen 25 = .ok (.ifCond .ne 6, 3) := by decide +kernel
theorem dX3_lessen_28 : decode cX3_lessen 28 = .ok (.goto 9, 3) := by decide +kernel
theorem dX3_lessen_31 : decode cX3_lessen 31 = .ok (.iinc 3 1, 3) := by decide +kernel
theorem dX3_lessen_34 : decode cX3_lessen 34 = .ok (.goto (-27), 3) := by decide +kernel
theorem dX3_lessen_37 : decode cX3_lessen 37 = .ok (.iload_n 2, 1) := by decide +kernel
theorem dX3_lessen_38 : decode cX3_lessen 38 = .ok (.aload_n 1, 1) := by decide +kernel
theorem dX3_lessen_39 : decode cX3_lessen 39 = .ok (.getfield 15, 3) := by decide +kernel
theorem dX3_lessen_42 : decode cX3_lessen 42 = .ok (.isub, 1) := by decide +kernel
theorem dX3_lessen_43 : decode cX3_lessen 43 = .ok (.ireturn, 1) := by decide +kernel
theorem dX3_dropNoughts_0 : decode cX3_dropNoughts 0 = .ok (.iconst 0, 1) := by decide +kernel
theorem dX3_dropNoughts_1 : decode cX3_dropNoughts 1 = .ok (.istore_n 2, 1) := by decide +kernel
theorem dX3_dropNoughts_2 : decode cX3_dropNoughts 2 = .ok (.iload_n 2, 1) := by decide +kernel
theorem dX3_dropNoughts_3 : decode cX3_dropNoughts 3 = .ok (.aload_n 1, 1) := by decide +kernel
theorem dX3_dropNoughts_4 : decode cX3_dropNoughts 4 = .ok (.getfield 15, 3) := by decide +kernel
theorem dX3_dropNoughts_7 : decode cX3_dropNoughts 7 = .ok (.if_icmp .ge 43, 3) := by decide +kernel
theorem dX3_dropNoughts_10 : decode cX3_dropNoughts 10 = .ok (.aload_n 1, 1) := by decide +kernel
theorem dX3_dropNoughts_11 : decode cX3_dropNoughts 11 = .ok (.iconst 0, 1) := by decide +kernel
theorem dX3_dropNoughts_12 : decode cX3_dropNoughts 12 = .ok (.iload_n 2, 1) := by decide +kernel
theorem dX3_dropNoughts_13 : decode cX3_dropNoughts 13 = .ok (.invokevirtual 41, 3) := by decide +kernel
theorem dX3_dropNoughts_16 : decode cX3_dropNoughts 16 = .ok (.ifCond .eq 21, 3) := by decide +kernel
theorem dX3_dropNoughts_19 : decode cX3_dropNoughts 19 = .ok (.aload_n 1, 1) := by decide +kernel
theorem dX3_dropNoughts_20 : decode cX3_dropNoughts 20 = .ok (.iconst 1, 1) := by decide +kernel
theorem dX3_dropNoughts_21 : decode cX3_dropNoughts 21 = .ok (.iload_n 2, 1) := by decide +kernel
theorem dX3_dropNoughts_22 : decode cX3_dropNoughts 22 = .ok (.invokevirtual 41, 3) := by decide +kernel
theorem dX3_dropNoughts_25 : decode cX3_dropNoughts 25 = .ok (.ifCond .eq 12, 3) := by decide +kernel
theorem dX3_dropNoughts_28 : decode cX3_dropNoughts 28 = .ok (.aload_n 1, 1) := by decide +kernel
theorem dX3_dropNoughts_29 : decode cX3_dropNoughts 29 = .ok (.iconst 2, 1) := by decide +kernel
theorem dX3_dropNoughts_30 : decode cX3_dropNoughts 30 = .ok (.iload_n 2, 1) := by decide +kernel
theorem dX3_dropNoughts_31 : decode cX3_dropNoughts 31 = .ok (.invokevirtual 41, 3) := by decide +kernel
theorem dX3_dropNoughts_34 : decode cX3_dropNoughts 34 = .ok (.ifCond .ne 10, 3) := by decide +kernel
theorem dX3_dropNoughts_37 : decode cX3_dropNoughts 37 = .ok (.aload_n 1, 1) := by decide +kernel
theorem dX3_dropNoughts_38 : decode cX3_dropNoughts 38 = .ok (.iload_n 2, 1) := by decide +kernel
theorem dX3_dropNoughts_39 : decode cX3_dropNoughts 39 = .ok (.invokevirtual 63, 3) := by decide +kernel
theorem dX3_dropNoughts_42 : decode cX3_dropNoughts 42 = .ok (.iconst 1, 1) := by decide +kernel
theorem dX3_dropNoughts_43 : decode cX3_dropNoughts 43 = .ok (.ireturn, 1) := by decide +kernel
theorem dX3_dropNoughts_44 : decode cX3_dropNoughts 44 = .ok (.iinc 2 1, 3) := by decide +kernel
theorem dX3_dropNoughts_47 : decode cX3_dropNoughts 47 = .ok (.goto (-45), 3) := by decide +kernel
theorem dX3_dropNoughts_50 : decode cX3_dropNoughts 50 = .ok (.iconst 0, 1) := by decide +kernel
theorem dX3_dropNoughts_51 : decode cX3_dropNoughts 51 = .ok (.ireturn, 1) := by decide +kernel
theorem dX3_joinAlike_0 : decode cX3_joinAlike 0 = .ok (.iconst 0, 1) := by decide +kernel
theorem dX3_joinAlike_1 : decode cX3_joinAlike 1 = .ok (.istore_n 2, 1) := by decide +kernel
theorem dX3_joinAlike_2 : decode cX3_joinAlike 2 = .ok (.iload_n 2, 1) := by decide +kernel
theorem dX3_joinAlike_3 : decode cX3_joinAlike 3 = .ok (.aload_n 1, 1) := by decide +kernel
theorem dX3_joinAlike_4 : decode cX3_joinAlike 4 = .ok (.getfield 15, 3) := by decide +kernel
theorem dX3_joinAlike_7 : decode cX3_joinAlike 7 = .ok (.if_icmp .ge 66, 3) := by decide +kernel
theorem dX3_joinAlike_10 : decode cX3_joinAlike 10 = .ok (.aload_n 0, 1) := by decide +kernel
theorem dX3_joinAlike_11 : decode cX3_joinAlike 11 = .ok (.aload_n 1, 1) := by decide +kernel
theorem dX3_joinAlike_12 : decode cX3_joinAlike 12 = .ok (.iload_n 2, 1) := by decide +kernel
theorem dX3_joinAlike_13 : decode cX3_joinAlike 13 = .ok (.invokevirtual 67, 3) := by decide +kernel
theorem dX3_joinAlike_16 : decode cX3_joinAlike 16 = .ok (.iconst 2, 1) := by decide +kernel
theorem dX3_joinAlike_17 : decode cX3_joinAlike 17 = .ok (.if_icmp .ge 6, 3) := by decide +kernel
theorem dX3_joinAlike_20 : decode cX3_joinAlike 20 = .ok (.goto 47, 3) := by decide +kernel
theorem dX3_joinAlike_23 : decode cX3_joinAlike 23 = .ok (.iload_n 2, 1) := by decide +kernel
theorem dX3_joinAlike_24 : decode cX3_joinAlike 24 = .ok (.iconst 1, 1) := by decide +kernel
theorem dX3_joinAlike_25 : decode cX3_joinAlike 25 = .ok (.iadd, 1) := by decide +kernel
theorem dX3_joinAlike_26 : decode cX3_joinAlike 26 = .ok (.istore_n 3, 1) := by decide +kernel
theorem dX3_joinAlike_27 : decode cX3_joinAlike 27 = .ok (.iload_n 3, 1) := by decide +kernel
theorem dX3_joinAlike_28 : decode cX3_joinAlike 28 = .ok (.aload_n 1, 1) := by decide +kernel
theorem dX3_joinAlike_29 : decode cX3_joinAlike 29 = .ok (.getfield 15, 3) := by decide +kernel
theorem dX3_joinAlike_32 : decode cX3_joinAlike 32 = .ok (.if_icmp .ge 35, 3) := by decide +kernel
theorem dX3_joinAlike_35 : decode cX3_joinAlike 35 = .ok (.aload_n 0, 1) := by decide +kernel
theorem dX3_joinAlike_36 : decode cX3_joinAlike 36 = .ok (.aload_n 1, 1) := by decide +kernel
theorem dX3_joinAlike_37 : decode cX3_joinAlike 37 = .ok (.iload_n 2, 1) := by decide +kernel
theorem dX3_joinAlike_38 : decode cX3_joinAlike 38 = .ok (.iload_n 3, 1) := by decide +kernel
theorem dX3_joinAlike_39 : decode cX3_joinAlike 39 = .ok (.invokevirtual 71, 3) := by decide +kernel
theorem dX3_joinAlike_42 : decode cX3_joinAlike 42 = .ok (.istore 4, 2) := by decide +kernel
theorem dX3_joinAlike_44 : decode cX3_joinAlike 44 = .ok (.iload 4, 2) := by decide +kernel
theorem dX3_joinAlike_46 : decode cX3_joinAlike 46 = .ok (.iconst (-1), 1) := by decide +kernel
theorem dX3_joinAlike_47 : decode cX3_joinAlike 47 = .ok (.if_icmp .eq 14, 3) := by decide +kernel
theorem dX3_joinAlike_50 : decode cX3_joinAlike 50 = .ok (.aload_n 0, 1) := by decide +kernel
theorem dX3_joinAlike_51 : decode cX3_joinAlike 51 = .ok (.aload_n 1, 1) := by decide +kernel
theorem dX3_joinAlike_52 : decode cX3_joinAlike 52 = .ok (.iload_n 2, 1) := by decide +kernel
theorem dX3_joinAlike_53 : decode cX3_joinAlike 53 = .ok (.iload_n 3, 1) := by decide +kernel
theorem dX3_joinAlike_54 : decode cX3_joinAlike 54 = .ok (.iload 4, 2) := by decide +kernel
theorem dX3_joinAlike_56 : decode cX3_joinAlike 56 = .ok (.invokevirtual 75, 3) := by decide +kernel
theorem dX3_joinAlike_59 : decode cX3_joinAlike 59 = .ok (.iconst 1, 1) := by decide +kernel
theorem dX3_joinAlike_60 : decode cX3_joinAlike 60 = .ok (.ireturn, 1) := by decide +kernel
theorem dX3_joinAlike_61 : decode cX3_joinAlike 61 = .ok (.iinc 3 1, 3) := by decide +kernel
theorem dX3_joinAlike_64 : decode cX3_joinAlike 64 = .ok (.goto (-37), 3) := by decide +kernel
theorem dX3_joinAlike_67 : decode cX3_joinAlike 67 = .ok (.iinc 2 1, 3) := by decide +kernel
theorem dX3_joinAlike_70 : decode cX3_joinAlike 70 = .ok (.goto (-68), 3) := by decide +kernel
theorem dX3_joinAlike_73 : decode cX3_joinAlike 73 = .ok (.iconst 0, 1) := by decide +kernel
theorem dX3_joinAlike_74 : decode cX3_joinAlike 74 = .ok (.ireturn, 1) := by decide +kernel
theorem dX3_waysWithMates_0 : decode cX3_waysWithMates 0 = .ok (.iconst 0, 1) := by decide +kernel
theorem dX3_waysWithMates_1 : decode cX3_waysWithMates 1 = .ok (.istore_n 3, 1) := by decide +kernel
theorem dX3_waysWithMates_2 : decode cX3_waysWithMates 2 = .ok (.iconst 0, 1) := by decide +kernel
theorem dX3_waysWithMates_3 : decode cX3_waysWithMates 3 = .ok (.istore 4, 2) := by decide +kernel
theorem dX3_waysWithMates_5 : decode cX3_waysWithMates 5 = .ok (.iload 4, 2) := by decide +kernel
theorem dX3_waysWithMates_7 : decode cX3_waysWithMates 7 = .ok (.iconst 3, 1) := by decide +kernel
theorem dX3_waysWithMates_8 : decode cX3_waysWithMates 8 = .ok (.if_icmp .ge 22, 3) := by decide +kernel
theorem dX3_waysWithMates_11 : decode cX3_waysWithMates 11 = .ok (.aload_n 1, 1) := by decide +kernel
theorem dX3_waysWithMates_12 : decode cX3_waysWithMates 12 = .ok (.iload 4, 2) := by decide +kernel
theorem dX3_waysWithMates_14 : decode cX3_waysWithMates 14 = .ok (.iload_n 2, 1) := by decide +kernel
theorem dX3_waysWithMates_15 : decode cX3_waysWithMates 15 = .ok (.invokevirtual 21, 3) := by decide +kernel
theorem dX3_waysWithMates_18 : decode cX3_waysWithMates 18 = .ok (.ifCond .le 6, 3) := by decide +kernel
theorem dX3_waysWithMates_21 : decode cX3_waysWithMates 21 = .ok (.iinc 3 1, 3) := by decide +kernel
theorem dX3_waysWithMates_24 : decode cX3_waysWithMates 24 = .ok (.iinc 4 1, 3) := by decide +kernel
theorem dX3_waysWithMates_27 : decode cX3_waysWithMates 27 = .ok (.goto (-22), 3) := by decide +kernel
theorem dX3_waysWithMates_30 : decode cX3_waysWithMates 30 = .ok (.iload_n 3, 1) := by decide +kernel
theorem dX3_waysWithMates_31 : decode cX3_waysWithMates 31 = .ok (.ireturn, 1) := by decide +kernel
theorem dX3_thirdBesideAlike_0 : decode cX3_thirdBesideAlike 0 = .ok (.aload_n 1, 1) := by decide +kernel
theorem dX3_thirdBesideAlike_1 : decode cX3_thirdBesideAlike 1 = .ok (.iconst 0, 1) := by decide +kernel
theorem dX3_thirdBesideAlike_2 : decode cX3_thirdBesideAlike 2 = .ok (.iload_n 2, 1) := by decide +kernel
theorem dX3_thirdBesideAlike_3 : decode cX3_thirdBesideAlike 3 = .ok (.iload_n 3, 1) := by decide +kernel
theorem dX3_thirdBesideAlike_4 : decode cX3_thirdBesideAlike 4 = .ok (.invokevirtual 33, 3) := by decide +kernel
theorem dX3_thirdBesideAlike_7 : decode cX3_thirdBesideAlike 7 = .ok (.istore 4, 2) := by decide +kernel
theorem dX3_thirdBesideAlike_9 : decode cX3_thirdBesideAlike 9 = .ok (.aload_n 1, 1) := by decide +kernel
theorem dX3_thirdBesideAlike_10 : decode cX3_thirdBesideAlike 10 = .ok (.iconst 1, 1) := by decide +kernel
theorem dX3_thirdBesideAlike_11 : decode cX3_thirdBesideAlike 11 = .ok (.iload_n 2, 1) := by decide +kernel
theorem dX3_thirdBesideAlike_12 : decode cX3_thirdBesideAlike 12 = .ok (.iload_n 3, 1) := by decide +kernel
theorem dX3_thirdBesideAlike_13 : decode cX3_thirdBesideAlike 13 = .ok (.invokevirtual 33, 3) := by decide +kernel
theorem dX3_thirdBesideAlike_16 : decode cX3_thirdBesideAlike 16 = .ok (.istore 5, 2) := by decide +kernel
theorem dX3_thirdBesideAlike_18 : decode cX3_thirdBesideAlike 18 = .ok (.iload 4, 2) := by decide +kernel
theorem dX3_thirdBesideAlike_20 : decode cX3_thirdBesideAlike 20 = .ok (.ifCond .eq 10, 3) := by decide +kernel
theorem dX3_thirdBesideAlike_23 : decode cX3_thirdBesideAlike 23 = .ok (.iload 5, 2) := by decide +kernel
theorem dX3_thirdBesideAlike_25 : decode cX3_thirdBesideAlike 25 = .ok (.ifCond .eq 5, 3) := by decide +kernel
theorem dX3_thirdBesideAlike_28 : decode cX3_thirdBesideAlike 28 = .ok (.iconst 2, 1) := by decide +kernel
theorem dX3_thirdBesideAlike_29 : decode cX3_thirdBesideAlike 29 = .ok (.ireturn, 1) := by decide +kernel
theorem dX3_thirdBesideAlike_30 : decode cX3_thirdBesideAlike 30 = .ok (.iload 4, 2) := by decide +kernel
theorem dX3_thirdBesideAlike_32 : decode cX3_thirdBesideAlike 32 = .ok (.ifCond .ne 8, 3) := by decide +kernel
theorem dX3_thirdBesideAlike_35 : decode cX3_thirdBesideAlike 35 = .ok (.iload 5, 2) := by decide +kernel
theorem dX3_thirdBesideAlike_37 : decode cX3_thirdBesideAlike 37 = .ok (.ifCond .eq 13, 3) := by decide +kernel
theorem dX3_thirdBesideAlike_40 : decode cX3_thirdBesideAlike 40 = .ok (.aload_n 1, 1) := by decide +kernel
theorem dX3_thirdBesideAlike_41 : decode cX3_thirdBesideAlike 41 = .ok (.iconst 2, 1) := by decide +kernel
theorem dX3_thirdBesideAlike_42 : decode cX3_thirdBesideAlike 42 = .ok (.iload_n 2, 1) := by decide +kernel
theorem dX3_thirdBesideAlike_43 : decode cX3_thirdBesideAlike 43 = .ok (.iload_n 3, 1) := by decide +kernel
theorem dX3_thirdBesideAlike_44 : decode cX3_thirdBesideAlike 44 = .ok (.invokevirtual 33, 3) := by decide +kernel
theorem dX3_thirdBesideAlike_47 : decode cX3_thirdBesideAlike 47 = .ok (.ifCond .ne 5, 3) := by decide +kernel
theorem dX3_thirdBesideAlike_50 : decode cX3_thirdBesideAlike 50 = .ok (.iconst (-1), 1) := by decide +kernel
theorem dX3_thirdBesideAlike_51 : decode cX3_thirdBesideAlike 51 = .ok (.ireturn, 1) := by decide +kernel
theorem dX3_thirdBesideAlike_52 : decode cX3_thirdBesideAlike 52 = .ok (.iload 4, 2) := by decide +kernel
theorem dX3_thirdBesideAlike_54 : decode cX3_thirdBesideAlike 54 = .ok (.ifCond .eq 7, 3) := by decide +kernel
theorem dX3_thirdBesideAlike_57 : decode cX3_thirdBesideAlike 57 = .ok (.iconst 1, 1) := by decide +kernel
theorem dX3_thirdBesideAlike_58 : decode cX3_thirdBesideAlike 58 = .ok (.goto 4, 3) := by decide +kernel
theorem dX3_thirdBesideAlike_61 : decode cX3_thirdBesideAlike 61 = .ok (.iconst 0, 1) := by decide +kernel
theorem dX3_thirdBesideAlike_62 : decode cX3_thirdBesideAlike 62 = .ok (.ireturn, 1) := by decide +kernel
theorem dX3_join_0 : decode cX3_join 0 = .ok (.aload_n 1, 1) := by decide +kernel
theorem dX3_join_1 : decode cX3_join 1 = .ok (.iload 4, 2) := by decide +kernel
theorem dX3_join_3 : decode cX3_join 3 = .ok (.iconst 1, 1) := by decide +kernel
theorem dX3_join_4 : decode cX3_join 4 = .ok (.iadd, 1) := by decide +kernel
theorem dX3_join_5 : decode cX3_join 5 = .ok (.iconst 3, 1) := by decide +kernel
theorem dX3_join_6 : decode cX3_join 6 = .ok (.irem, 1) := by decide +kernel
theorem dX3_join_7 : decode cX3_join 7 = .ok (.iload_n 2, 1) := by decide +kernel
theorem dX3_join_8 : decode cX3_join 8 = .ok (.iload_n 3, 1) := by decide +kernel
theorem dX3_join_9 : decode cX3_join 9 = .ok (.invokevirtual 37, 3) := by decide +kernel
theorem dX3_join_12 : decode cX3_join 12 = .ok (.istore 5, 2) := by decide +kernel
theorem dX3_join_14 : decode cX3_join 14 = .ok (.aload_n 1, 1) := by decide +kernel
theorem dX3_join_15 : decode cX3_join 15 = .ok (.iload 4, 2) := by decide +kernel
theorem dX3_join_17 : decode cX3_join 17 = .ok (.iconst 2, 1) := by decide +kernel
theorem dX3_join_18 : decode cX3_join 18 = .ok (.iadd, 1) := by decide +kernel
theorem dX3_join_19 : decode cX3_join 19 = .ok (.iconst 3, 1) := by decide +kernel
theorem dX3_join_20 : decode cX3_join 20 = .ok (.irem, 1) := by decide +kernel
theorem dX3_join_21 : decode cX3_join 21 = .ok (.iload_n 2, 1) := by decide +kernel
theorem dX3_join_22 : decode cX3_join 22 = .ok (.iload_n 3, 1) := by decide +kernel
theorem dX3_join_23 : decode cX3_join 23 = .ok (.invokevirtual 37, 3) := by decide +kernel
theorem dX3_join_26 : decode cX3_join 26 = .ok (.istore 6, 2) := by decide +kernel
theorem dX3_join_28 : decode cX3_join 28 = .ok (.iload 5, 2) := by decide +kernel
theorem dX3_join_30 : decode cX3_join 30 = .ok (.iload 6, 2) := by decide +kernel
theorem dX3_join_32 : decode cX3_join 32 = .ok (.imul, 1) := by decide +kernel
theorem dX3_join_33 : decode cX3_join 33 = .ok (.aload_n 0, 1) := by decide +kernel
theorem dX3_join_34 : decode cX3_join 34 = .ok (.getfield 9, 3) := by decide +kernel
theorem dX3_join_37 : decode cX3_join 37 = .ok (.getfield 78, 3) := by decide +kernel
theorem dX3_join_40 : decode cX3_join 40 = .ok (.irem, 1) := by decide +kernel
theorem dX3_join_41 : decode cX3_join 41 = .ok (.istore 7, 2) := by decide +kernel
theorem dX3_join_43 : decode cX3_join 43 = .ok (.aload_n 1, 1) := by decide +kernel
theorem dX3_join_44 : decode cX3_join 44 = .ok (.iload 4, 2) := by decide +kernel
theorem dX3_join_46 : decode cX3_join 46 = .ok (.iload_n 2, 1) := by decide +kernel
theorem dX3_join_47 : decode cX3_join 47 = .ok (.aload_n 0, 1) := by decide +kernel
theorem dX3_join_48 : decode cX3_join 48 = .ok (.getfield 9, 3) := by decide +kernel
theorem dX3_join_51 : decode cX3_join 51 = .ok (.aload_n 1, 1) := by decide +kernel
theorem dX3_join_52 : decode cX3_join 52 = .ok (.iload 4, 2) := by decide +kernel
theorem dX3_join_54 : decode cX3_join 54 = .ok (.iload_n 2, 1) := by decide +kernel
theorem dX3_join_55 : decode cX3_join 55 = .ok (.invokevirtual 41, 3) := by decide +kernel
theorem dX3_join_58 : decode cX3_join 58 = .ok (.iload 7, 2) := by decide +kernel
theorem dX3_join_60 : decode cX3_join 60 = .ok (.aload_n 1, 1) := by decide +kernel
theorem dX3_join_61 : decode cX3_join 61 = .ok (.iload 4, 2) := by decide +kernel
theorem dX3_join_63 : decode cX3_join 63 = .ok (.iload_n 3, 1) := by decide +kernel
theorem dX3_join_64 : decode cX3_join 64 = .ok (.invokevirtual 41, 3) := by decide +kernel
theorem dX3_join_67 : decode cX3_join 67 = .ok (.invokevirtual 44, 3) := by decide +kernel
theorem dX3_join_70 : decode cX3_join 70 = .ok (.invokevirtual 49, 3) := by decide +kernel
theorem dX3_join_73 : decode cX3_join 73 = .ok (.aload_n 1, 1) := by decide +kernel
theorem dX3_join_74 : decode cX3_join 74 = .ok (.iload_n 3, 1) := by decide +kernel
theorem dX3_join_75 : decode cX3_join 75 = .ok (.invokevirtual 63, 3) := by decide +kernel
theorem dX3_join_78 : decode cX3_join 78 = .ok (.return_, 1) := by decide +kernel
