theorem dX6_init_0 : decode cX6_init 0 = .ok (.aload_n 0, 1) := by decide +kernel
theorem dX6_init_1 : decode cX6_init 1 = .ok (.invokespecial 3, 3) := by decide +kernel
theorem dX6_init_4 : decode cX6_init 4 = .ok (.aload_n 0, 1) := by decide +kernel
theorem dX6_init_5 : decode cX6_init 5 = .ok (.bipush 60, 2) := by decide +kernel
theorem dX6_init_7 : decode cX6_init 7 = .ok (.newarray .int, 2) := by decide +kernel
theorem dX6_init_9 : decode cX6_init 9 = .ok (.putfield 9, 3) := by decide +kernel
theorem dX6_init_12 : decode cX6_init 12 = .ok (.aload_n 0, 1) := by decide +kernel
theorem dX6_init_13 : decode cX6_init 13 = .ok (.bipush 60, 2) := by decide +kernel
theorem dX6_init_15 : decode cX6_init 15 = .ok (.newarray .int, 2) := by decide +kernel
theorem dX6_init_17 : decode cX6_init 17 = .ok (.putfield 15, 3) := by decide +kernel
theorem dX6_init_20 : decode cX6_init 20 = .ok (.aload_n 0, 1) := by decide +kernel
theorem dX6_init_21 : decode cX6_init 21 = .ok (.bipush 60, 2) := by decide +kernel
theorem dX6_init_23 : decode cX6_init 23 = .ok (.newarray .int, 2) := by decide +kernel
theorem dX6_init_25 : decode cX6_init 25 = .ok (.putfield 18, 3) := by decide +kernel
theorem dX6_init_28 : decode cX6_init 28 = .ok (.aload_n 0, 1) := by decide +kernel
theorem dX6_init_29 : decode cX6_init 29 = .ok (.iconst 5, 1) := by decide +kernel
theorem dX6_init_30 : decode cX6_init 30 = .ok (.bipush 60, 2) := by decide +kernel
theorem dX6_init_32 : decode cX6_init 32 = .ok (.multianewarray 21 2, 4) := by decide +kernel
theorem dX6_init_36 : decode cX6_init 36 = .ok (.putfield 23, 3) := by decide +kernel
theorem dX6_init_39 : decode cX6_init 39 = .ok (.aload_n 0, 1) := by decide +kernel
theorem dX6_init_40 : decode cX6_init 40 = .ok (.iconst 4, 1) := by decide +kernel
theorem dX6_init_41 : decode cX6_init 41 = .ok (.newarray .int, 2) := by decide +kernel
theorem dX6_init_43 : decode cX6_init 43 = .ok (.putfield 26, 3) := by decide +kernel
theorem dX6_init_46 : decode cX6_init 46 = .ok (.aload_n 0, 1) := by decide +kernel
theorem dX6_init_47 : decode cX6_init 47 = .ok (.aload_n 1, 1) := by decide +kernel
theorem dX6_init_48 : decode cX6_init 48 = .ok (.putfield 29, 3) := by decide +kernel
theorem dX6_init_51 : decode cX6_init 51 = .ok (.aload_n 0, 1) := by decide +kernel
theorem dX6_init_52 : decode cX6_init 52 = .ok (.new 33, 3) := by decide +kernel
theorem dX6_init_55 : decode cX6_init 55 = .ok (.dup, 1) := by decide +kernel
theorem dX6_init_56 : decode cX6_init 56 = .ok (.aload_n 1, 1) := by decide +kernel
theorem dX6_init_57 : decode cX6_init 57 = .ok (.invokespecial 35, 3) := by decide +kernel
theorem dX6_init_60 : decode cX6_init 60 = .ok (.putfield 38, 3) := by decide +kernel
theorem dX6_init_63 : decode cX6_init 63 = .ok (.aload_n 0, 1) := by decide +kernel
theorem dX6_init_64 : decode cX6_init 64 = .ok (.new 33, 3) := by decide +kernel
theorem dX6_init_67 : decode cX6_init 67 = .ok (.dup, 1) := by decide +kernel
theorem dX6_init_68 : decode cX6_init 68 = .ok (.aload_n 1, 1) := by decide +kernel
theorem dX6_init_69 : decode cX6_init 69 = .ok (.invokespecial 35, 3) := by decide +kernel
theorem dX6_init_72 : decode cX6_init 72 = .ok (.putfield 42, 3) := by decide +kernel
theorem dX6_init_75 : decode cX6_init 75 = .ok (.return_, 1) := by decide +kernel
theorem dX6_seek_0 : decode cX6_seek 0 = .ok (.aload_n 1, 1) := by decide +kernel
theorem dX6_seek_1 : decode cX6_seek 1 = .ok (.getfield 45, 3) := by decide +kernel
theorem dX6_seek_4 : decode cX6_seek 4 = .ok (.iconst 0, 1) := by decide +kernel
theorem dX6_seek_5 : decode cX6_seek 5 = .ok (.iaload, 1) := by decide +kernel
theorem dX6_seek_6 : decode cX6_seek 6 = .ok (.istore_n 2, 1) := by decide +kernel
theorem dX6_seek_7 : decode cX6_seek 7 = .ok (.aload_n 1, 1) := by decide +kernel
theorem dX6_seek_8 : decode cX6_seek 8 = .ok (.getfield 45, 3) := by decide +kernel
theorem dX6_seek_11 : decode cX6_seek 11 = .ok (.iconst 1, 1) := by decide +kernel
theorem dX6_seek_12 : decode cX6_seek 12 = .ok (.iaload, 1) := by decide +kernel
theorem dX6_seek_13 : decode cX6_seek 13 = .ok (.istore_n 3, 1) := by decide +kernel
theorem dX6_seek_14 : decode cX6_seek 14 = .ok (.aload_n 0, 1) := by decide +kernel
theorem dX6_seek_15 : decode cX6_seek 15 = .ok (.getfield 29, 3) := by decide +kernel
theorem dX6_seek_18 : decode cX6_seek 18 = .ok (.iload_n 2, 1) := by decide +kernel
theorem dX6_seek_19 : decode cX6_seek 19 = .ok (.invokevirtual 50, 3) := by decide +kernel
theorem dX6_seek_22 : decode cX6_seek 22 = .ok (.i2l, 1) := by decide +kernel
theorem dX6_seek_23 : decode cX6_seek 23 = .ok (.aload_n 0, 1) := by decide +kernel
theorem dX6_seek_24 : decode cX6_seek 24 = .ok (.getfield 29, 3) := by decide +kernel
theorem dX6_seek_27 : decode cX6_seek 27 = .ok (.iload_n 3, 1) := by decide +kernel
theorem dX6_seek_28 : decode cX6_seek 28 = .ok (.invokevirtual 50, 3) := by decide +kernel
theorem dX6_seek_31 : decode cX6_seek 31 = .ok (.i2l, 1) := by decide +kernel
theorem dX6_seek_32 : decode cX6_seek 32 = .ok (.lmul, 1) := by decide +kernel
theorem dX6_seek_33 : decode cX6_seek 33 = .ok (.ldc2_w 56, 3) := by decide +kernel
theorem dX6_seek_36 : decode cX6_seek 36 = .ok (.lcmp, 1) := by decide +kernel
theorem dX6_seek_37 : decode cX6_seek 37 = .ok (.ifCond .le 6, 3) := by decide +kernel
theorem dX6_seek_40 : decode cX6_seek 40 = .ok (.bipush (-3), 2) := by decide +kernel
theorem dX6_seek_42 : decode cX6_seek 42 = .ok (.ireturn, 1) := by decide +kernel
theorem dX6_seek_43 : decode cX6_seek 43 = .ok (.aload_n 0, 1) := by decide +kernel
theorem dX6_seek_44 : decode cX6_seek 44 = .ok (.aload_n 1, 1) := by decide +kernel
theorem dX6_seek_45 : decode cX6_seek 45 = .ok (.invokevirtual 58, 3) := by decide +kernel
theorem dX6_seek_48 : decode cX6_seek 48 = .ok (.aload_n 0, 1) := by decide +kernel
theorem dX6_seek_49 : decode cX6_seek 49 = .ok (.iload_n 2, 1) := by decide +kernel
theorem dX6_seek_50 : decode cX6_seek 50 = .ok (.iload_n 3, 1) := by decide +kernel
theorem dX6_seek_51 : decode cX6_seek 51 = .ok (.invokevirtual 62, 3) := by decide +kernel
theorem dX6_seek_54 : decode cX6_seek 54 = .ok (.aload_n 0, 1) := by decide +kernel
theorem dX6_seek_55 : decode cX6_seek 55 = .ok (.getfield 38, 3) := by decide +kernel
theorem dX6_seek_58 : decode cX6_seek 58 = .ok (.getfield 66, 3) := by decide +kernel
theorem dX6_seek_61 : decode cX6_seek 61 = .ok (.istore 4, 2) := by decide +kernel
theorem dX6_seek_63 : decode cX6_seek 63 = .ok (.iload 4, 2) := by decide +kernel
theorem dX6_seek_65 : decode cX6_seek 65 = .ok (.iconst 4, 1) := by decide +kernel
theorem dX6_seek_66 : decode cX6_seek 66 = .ok (.if_icmp .gt 49, 3) := by decide +kernel
theorem dX6_seek_69 : decode cX6_seek 69 = .ok (.aload_n 0, 1) := by decide +kernel
theorem dX6_seek_70 : decode cX6_seek 70 = .ok (.iload 4, 2) := by decide +kernel
theorem dX6_seek_72 : decode cX6_seek 72 = .ok (.putfield 70, 3) := by decide +kernel
theorem dX6_seek_75 : decode cX6_seek 75 = .ok (.aload_n 0, 1) := by decide +kernel
theorem dX6_seek_76 : decode cX6_seek 76 = .ok (.iload 4, 2) := by decide +kernel
theorem dX6_seek_78 : decode cX6_seek 78 = .ok (.aload_n 0, 1) := by decide +kernel
theorem dX6_seek_79 : decode cX6_seek 79 = .ok (.getfield 38, 3) := by decide +kernel
theorem dX6_seek_82 : decode cX6_seek 82 = .ok (.getfield 66, 3) := by decide +kernel
theorem dX6_seek_85 : decode cX6_seek 85 = .ok (.isub, 1) := by decide +kernel
theorem dX6_seek_86 : decode cX6_seek 86 = .ok (.putfield 73, 3) := by decide +kernel
theorem dX6_seek_89 : decode cX6_seek 89 = .ok (.aload_n 0, 1) := by decide +kernel
theorem dX6_seek_90 : decode cX6_seek 90 = .ok (.getfield 42, 3) := by decide +kernel
theorem dX6_seek_93 : decode cX6_seek 93 = .ok (.invokevirtual 76, 3) := by decide +kernel
theorem dX6_seek_96 : decode cX6_seek 96 = .ok (.aload_n 0, 1) := by decide +kernel
theorem dX6_seek_97 : decode cX6_seek 97 = .ok (.iconst 0, 1) := by decide +kernel
theorem dX6_seek_98 : decode cX6_seek 98 = .ok (.iconst 0, 1) := by decide +kernel
theorem dX6_seek_99 : decode cX6_seek 99 = .ok (.iconst 0, 1) := by decide +kernel
theorem dX6_seek_100 : decode cX6_seek 100 = .ok (.invokestatic 79, 3) := by decide +kernel
theorem dX6_seek_103 : decode cX6_seek 103 = .ok (.ifCond .eq 6, 3) := by decide +kernel
theorem dX6_seek_106 : decode cX6_seek 106 = .ok (.iload 4, 2) := by decide +kernel
theorem dX6_seek_108 : decode cX6_seek 108 = .ok (.ireturn, 1) := by decide +kernel
theorem dX6_seek_109 : decode cX6_seek 109 = .ok (.iinc 4 1, 3) := by decide +kernel
theorem dX6_seek_112 : decode cX6_seek 112 = .ok (.goto (-49), 3) := by decide +kernel
theorem dX6_seek_115 : decode cX6_seek 115 = .ok (.bipush (-5), 2) := by decide +kernel
theorem dX6_seek_117 : decode cX6_seek 117 = .ok (.ireturn, 1) := by decide +kernel
theorem dX6_takeSlices_0 : decode cX6_takeSlices 0 = .ok (.aload_n 0, 1) := by decide +kernel
theorem dX6_takeSlices_1 : decode cX6_takeSlices 1 = .ok (.getfield 38, 3) := by decide +kernel
theorem dX6_takeSlices_4 : decode cX6_takeSlices 4 = .ok (.invokevirtual 76, 3) := by decide +kernel
theorem dX6_takeSlices_7 : decode cX6_takeSlices 7 = .ok (.iconst 0, 1) := by decide +kernel
theorem dX6_takeSlices_8 : decode cX6_takeSlices 8 = .ok (.istore_n 2, 1) := by decide +kernel
theorem dX6_takeSlices_9 : decode cX6_takeSlices 9 = .ok (.iload_n 2, 1) := by decide +kernel
theorem dX6_takeSlices_10 : decode cX6_takeSlices 10 = .ok (.aload_n 1, 1) := by decide +kernel
theorem dX6_takeSlices_11 : decode cX6_takeSlices 11 = .ok (.getfield 45, 3) := by decide +kernel
theorem dX6_takeSlices_14 : decode cX6_takeSlices 14 = .ok (.iconst 2, 1) := by decide +kernel
theorem dX6_takeSlices_15 : decode cX6_takeSlices 15 = .ok (.iaload, 1) := by decide +kernel
theorem dX6_takeSlices_16 : decode cX6_takeSlices 16 = .ok (.if_icmp .ge 23, 3) := by decide +kernel
theorem dX6_takeSlices_19 : decode cX6_takeSlices 19 = .ok (.aload_n 0, 1) := by decide +kernel
theorem dX6_takeSlices_20 : decode cX6_takeSlices 20 = .ok (.getfield 38, 3) := by decide +kernel
theorem dX6_takeSlices_23 : decode cX6_takeSlices 23 = .ok (.aload_n 0, 1) := by decide +kernel
theorem dX6_takeSlices_24 : decode cX6_takeSlices 24 = .ok (.aload_n 1, 1) := by decide +kernel
theorem dX6_takeSlices_25 : decode cX6_takeSlices 25 = .ok (.iload_n 2, 1) := by decide +kernel
theorem dX6_takeSlices_26 : decode cX6_takeSlices 26 = .ok (.invokevirtual 83, 3) := by decide +kernel
theorem dX6_takeSlices_29 : decode cX6_takeSlices 29 = .ok (.invokevirtual 87, 3) := by decide +kernel
theorem dX6_takeSlices_32 : decode cX6_takeSlices 32 = .ok (.pop, 1) := by decide +kernel
theorem dX6_takeSlices_33 : decode cX6_takeSlices 33 = .ok (.iinc 2 1, 3) := by decide +kernel
theorem dX6_takeSlices_36 : decode cX6_takeSlices 36 = .ok (.goto (-27), 3) := by decide +kernel
theorem dX6_takeSlices_39 : decode cX6_takeSlices 39 = .ok (.return_, 1) := by decide +kernel
theorem dX6_sliceOf_0 : decode cX6_sliceOf 0 = .ok (.iconst 0, 1) := by decide +kernel
theorem dX6_sliceOf_1 : decode cX6_sliceOf 1 = .ok (.istore_n 3, 1) := by decide +kernel
theorem dX6_sliceOf_2 : decode cX6_sliceOf 2 = .ok (.iconst 0, 1) := by decide +kernel
theorem dX6_sliceOf_3 : decode cX6_sliceOf 3 = .ok (.istore 4, 2) := by decide +kernel
theorem dX6_sliceOf_5 : decode cX6_sliceOf 5 = .ok (.iload 4, 2) := by decide +kernel
theorem dX6_sliceOf_7 : decode cX6_sliceOf 7 = .ok (.aload_n 1, 1) := by decide +kernel
theorem dX6_sliceOf_8 : decode cX6_sliceOf 8 = .ok (.getfield 45, 3) := by decide +kernel
theorem dX6_sliceOf_11 : decode cX6_sliceOf 11 = .ok (.iconst 0, 1) := by decide +kernel
theorem dX6_sliceOf_12 : decode cX6_sliceOf 12 = .ok (.iaload, 1) := by decide +kernel
theorem dX6_sliceOf_13 : decode cX6_sliceOf 13 = .ok (.if_icmp .ge 62, 3) := by decide +kernel
theorem dX6_sliceOf_16 : decode cX6_sliceOf 16 = .ok (.iconst 0, 1) := by decide +kernel
theorem dX6_sliceOf_17 : decode cX6_sliceOf 17 = .ok (.istore 5, 2) := by decide +kernel
theorem dX6_sliceOf_19 : decode cX6_sliceOf 19 = .ok (.iload 5, 2) := by decide +kernel
theorem dX6_sliceOf_21 : decode cX6_sliceOf 21 = .ok (.aload_n 1, 1) := by decide +kernel
theorem dX6_sliceOf_22 : decode cX6_sliceOf 22 = .ok (.getfield 45, 3) := by decide +kernel
theorem dX6_sliceOf_25 : decode cX6_sliceOf 25 = .ok (.iconst 1, 1) := by decide +kernel
theorem dX6_sliceOf_26 : decode cX6_sliceOf 26 = .ok (.iaload, 1) := by decide +kernel
theorem dX6_sliceOf_27 : decode cX6_sliceOf 27 = .ok (.if_icmp .ge 42, 3) := by decide +kernel
theorem dX6_sliceOf_30 : decode cX6_sliceOf 30 = .ok (.iload_n 3, 1) := by decide +kernel
theorem dX6_sliceOf_31 : decode cX6_sliceOf 31 = .ok (.aload_n 1, 1) := by decide +kernel
theorem dX6_sliceOf_32 : decode cX6_sliceOf 32 = .ok (.iload 4, 2) := by decide +kernel
theorem dX6_sliceOf_34 : decode cX6_sliceOf 34 = .ok (.iload 5, 2) := by decide +kernel
theorem dX6_sliceOf_36 : decode cX6_sliceOf 36 = .ok (.iload_n 2, 1) := by decide +kernel
theorem dX6_sliceOf_37 : decode cX6_sliceOf 37 = .ok (.invokevirtual 91, 3) := by decide +kernel
theorem dX6_sliceOf_40 : decode cX6_sliceOf 40 = .ok (.aload_n 0, 1) := by decide +kernel
theorem dX6_sliceOf_41 : decode cX6_sliceOf 41 = .ok (.getfield 29, 3) := by decide +kernel
theorem dX6_sliceOf_44 : decode cX6_sliceOf 44 = .ok (.getfield 95, 3) := by decide +kernel
theorem dX6_sliceOf_47 : decode cX6_sliceOf 47 = .ok (.iload 4, 2) := by decide +kernel
theorem dX6_sliceOf_49 : decode cX6_sliceOf 49 = .ok (.aload_n 1, 1) := by decide +kernel
theorem dX6_sliceOf_50 : decode cX6_sliceOf 50 = .ok (.getfield 45, 3) := by decide +kernel
theorem dX6_sliceOf_53 : decode cX6_sliceOf 53 = .ok (.iconst 1, 1) := by decide +kernel
theorem dX6_sliceOf_54 : decode cX6_sliceOf 54 = .ok (.iaload, 1) := by decide +kernel
theorem dX6_sliceOf_55 : decode cX6_sliceOf 55 = .ok (.imul, 1) := by decide +kernel
theorem dX6_sliceOf_56 : decode cX6_sliceOf 56 = .ok (.iload 5, 2) := by decide +kernel
theorem dX6_sliceOf_58 : decode cX6_sliceOf 58 = .ok (.iadd, 1) := by decide +kernel
theorem dX6_sliceOf_59 : decode cX6_sliceOf 59 = .ok (.iaload, 1) := by decide +kernel
theorem dX6_sliceOf_60 : decode cX6_sliceOf 60 = .ok (.imul, 1) := by decide +kernel
theorem dX6_sliceOf_61 : decode cX6_sliceOf 61 = .ok (.iadd, 1) := by decide +kernel
theorem dX6_sliceOf_62 : decode cX6_sliceOf 62 = .ok (.istore_n 3, 1) := by decide +kernel
theorem dX6_sliceOf_63 : decode cX6_sliceOf 63 = .ok (.iinc 5 1, 3) := by decide +kernel
theorem dX6_sliceOf_66 : decode cX6_sliceOf 66 = .ok (.goto (-47), 3) := by decide +kernel
theorem dX6_sliceOf_69 : decode cX6_sliceOf 69 = .ok (.iinc 4 1, 3) := by decide +kernel
theorem dX6_sliceOf_72 : decode cX6_sliceOf 72 = .ok (.goto (-67), 3) := by decide +kernel
theorem dX6_sliceOf_75 : decode cX6_sliceOf 75 = .ok (.iload_n 3, 1) := by decide +kernel
theorem dX6_sliceOf_76 : decode cX6_sliceOf 76 = .ok (.ireturn, 1) := by decide +kernel
theorem dX6_listPairs_0 : decode cX6_listPairs 0 = .ok (.aload_n 0, 1) := by decide +kernel
theorem dX6_listPairs_1 : decode cX6_listPairs 1 = .ok (.iconst 0, 1) := by decide +kernel
theorem dX6_listPairs_2 : decode cX6_listPairs 2 = .ok (.putfield 98, 3) := by decide +kernel
theorem dX6_listPairs_5 : decode cX6_listPairs 5 = .ok (.iconst 1, 1) := by decide +kernel
theorem dX6_listPairs_6 : decode cX6_listPairs 6 = .ok (.istore_n 3, 1) := by decide +kernel
theorem dX6_listPairs_7 : decode cX6_listPairs 7 = .ok (.iload_n 3, 1) := by decide +kernel
theorem dX6_listPairs_8 : decode cX6_listPairs 8 = .ok (.aload_n 0, 1) := by decide +kernel
theorem dX6_listPairs_9 : decode cX6_listPairs 9 = .ok (.getfield 29, 3) := by decide +kernel
theorem dX6_listPairs_12 : decode cX6_listPairs 12 = .ok (.getfield 95, 3) := by decide +kernel
theorem dX6_listPairs_15 : decode cX6_listPairs 15 = .ok (.iload_n 1, 1) := by decide +kernel
theorem dX6_listPairs_16 : decode cX6_listPairs 16 = .ok (.iaload, 1) := by decide +kernel
theorem dX6_listPairs_17 : decode cX6_listPairs 17 = .ok (.if_icmp .ge 27, 3) := by decide +kernel
theorem dX6_listPairs_20 : decode cX6_listPairs 20 = .ok (.aload_n 0, 1) := by decide +kernel
theorem dX6_listPairs_21 : decode cX6_listPairs 21 = .ok (.getfield 29, 3) := by decide +kernel
theorem dX6_listPairs_24 : decode cX6_listPairs 24 = .ok (.iload_n 3, 1) := by decide +kernel
theorem dX6_listPairs_25 : decode cX6_listPairs 25 = .ok (.invokevirtual 101, 3) := by decide +kernel
theorem dX6_listPairs_28 : decode cX6_listPairs 28 = .ok (.iconst 1, 1) := by decide +kernel
theorem dX6_listPairs_29 : decode cX6_listPairs 29 = .ok (.if_icmp .ne 9, 3) := by decide +kernel
theorem dX6_listPairs_32 : decode cX6_listPairs 32 = .ok (.aload_n 0, 1) := by decide +kernel
theorem dX6_listPairs_33 : decode cX6_listPairs 33 = .ok (.iload_n 3, 1) := by decide +kernel
theorem dX6_listPairs_34 : decode cX6_listPairs 34 = .ok (.iload_n 2, 1) := by decide +kernel
theorem dX6_listPairs_35 : decode cX6_listPairs 35 = .ok (.invokevirtual 104, 3) := by decide +kernel
theorem dX6_listPairs_38 : decode cX6_listPairs 38 = .ok (.iinc 3 1, 3) := by decide +kernel
theorem dX6_listPairs_41 : decode cX6_listPairs 41 = .ok (.goto (-34), 3) := by decide +kernel
theorem dX6_listPairs_44 : decode cX6_listPairs 44 = .ok (.return_, 1) := by decide +kernel
theorem dX6_listPairsOf_0 : decode cX6_listPairsOf 0 = .ok (.iconst 1, 1) := by decide +kernel
theorem dX6_listPairsOf_1 : decode cX6_listPairsOf 1 = .ok (.istore_n 3, 1) := by decide +kernel
theorem dX6_listPairsOf_2 : decode cX6_listPairsOf 2 = .ok (.iload_n 3, 1) := by decide +kernel
theorem dX6_listPairsOf_3 : decode cX6_listPairsOf 3 = .ok (.aload_n 0, 1) := by decide +kernel
theorem dX6_listPairsOf_4 : decode cX6_listPairsOf 4 = .ok (.getfield 29, 3) := by decide +kernel
theorem dX6_listPairsOf_7 : decode cX6_listPairsOf 7 = .ok (.getfield 95, 3) := by decide +kernel
theorem dX6_listPairsOf_10 : decode cX6_listPairsOf 10 = .ok (.iload_n 2, 1) := by decide +kernel
theorem dX6_listPairsOf_11 : decode cX6_listPairsOf 11 = .ok (.iaload, 1) := by decide +kernel
theorem dX6_listPairsOf_12 : decode cX6_listPairsOf 12 = .ok (.if_icmp .ge 106, 3) := by decide +kernel
theorem dX6_listPairsOf_15 : decode cX6_listPairsOf 15 = .ok (.aload_n 0, 1) := by decide +kernel
theorem dX6_listPairsOf_16 : decode cX6_listPairsOf 16 = .ok (.getfield 29, 3) := by decide +kernel
theorem dX6_listPairsOf_19 : decode cX6_listPairsOf 19 = .ok (.iload_n 3, 1) := by decide +kernel
theorem dX6_listPairsOf_20 : decode cX6_listPairsOf 20 = .ok (.invokevirtual 101, 3) := by decide +kernel
theorem dX6_listPairsOf_23 : decode cX6_listPairsOf 23 = .ok (.iconst 1, 1) := by decide +kernel
theorem dX6_listPairsOf_24 : decode cX6_listPairsOf 24 = .ok (.if_icmp .ne 88, 3) := by decide +kernel
theorem dX6_listPairsOf_27 : decode cX6_listPairsOf 27 = .ok (.aload_n 0, 1) := by decide +kernel
theorem dX6_listPairsOf_28 : decode cX6_listPairsOf 28 = .ok (.getfield 98, 3) := by decide +kernel
theorem dX6_listPairsOf_31 : decode cX6_listPairsOf 31 = .ok (.bipush 60, 2) := by decide +kernel
theorem dX6_listPairsOf_33 : decode cX6_listPairsOf 33 = .ok (.if_icmp .ge 79, 3) := by decide +kernel
theorem dX6_listPairsOf_36 : decode cX6_listPairsOf 36 = .ok (.aload_n 0, 1) := by decide +kernel
theorem dX6_listPairsOf_37 : decode cX6_listPairsOf 37 = .ok (.getfield 9, 3) := by decide +kernel
theorem dX6_listPairsOf_40 : decode cX6_listPairsOf 40 = .ok (.aload_n 0, 1) := by decide +kernel
theorem dX6_listPairsOf_41 : decode cX6_listPairsOf 41 = .ok (.getfield 98, 3) := by decide +kernel
theorem dX6_listPairsOf_44 : decode cX6_listPairsOf 44 = .ok (.iload_n 1, 1) := by decide +kernel
theorem dX6_listPairsOf_45 : decode cX6_listPairsOf 45 = .ok (.iastore, 1) := by decide +kernel
theorem dX6_listPairsOf_46 : decode cX6_listPairsOf 46 = .ok (.aload_n 0, 1) := by decide +kernel
theorem dX6_listPairsOf_47 : decode cX6_listPairsOf 47 = .ok (.getfield 15, 3) := by decide +kernel
theorem dX6_listPairsOf_50 : decode cX6_listPairsOf 50 = .ok (.aload_n 0, 1) := by decide +kernel
theorem dX6_listPairsOf_51 : decode cX6_listPairsOf 51 = .ok (.getfield 98, 3) := by decide +kernel
theorem dX6_listPairsOf_54 : decode cX6_listPairsOf 54 = .ok (.iload_n 3, 1) := by decide +kernel
theorem dX6_listPairsOf_55 : decode cX6_listPairsOf 55 = .ok (.iastore, 1) := by decide +kernel
theorem dX6_listPairsOf_56 : decode cX6_listPairsOf 56 = .ok (.aload_n 0, 1) := by decide +kernel
theorem dX6_listPairsOf_57 : decode cX6_listPairsOf 57 = .ok (.getfield 18, 3) := by decide +kernel
theorem dX6_listPairsOf_60 : decode cX6_listPairsOf 60 = .ok (.aload_n 0, 1) := by decide +kernel
theorem dX6_listPairsOf_61 : decode cX6_listPairsOf 61 = .ok (.getfield 98, 3) := by decide +kernel
theorem dX6_listPairsOf_64 : decode cX6_listPairsOf 64 = .ok (.aload_n 0, 1) := by decide +kernel
theorem dX6_listPairsOf_65 : decode cX6_listPairsOf 65 = .ok (.getfield 29, 3) := by decide +kernel
theorem dX6_listPairsOf_68 : decode cX6_listPairsOf 68 = .ok (.iload_n 1, 1) := by decide +kernel
theorem dX6_listPairsOf_69 : decode cX6_listPairsOf 69 = .ok (.iload_n 3, 1) := by decide +kernel
theorem dX6_listPairsOf_70 : decode cX6_listPairsOf 70 = .ok (.iload_n 2, 1) := by decide +kernel
theorem dX6_listPairsOf_71 : decode cX6_listPairsOf 71 = .ok (.invokevirtual 107, 3) := by decide +kernel
theorem dX6_listPairsOf_74 : decode cX6_listPairsOf 74 = .ok (.iastore, 1) := by decide +kernel
theorem dX6_listPairsOf_75 : decode cX6_listPairsOf 75 = .ok (.aload_n 0, 1) := by decide +kernel
theorem dX6_listPairsOf_76 : decode cX6_listPairsOf 76 = .ok (.getfield 23, 3) := by decide +kernel
theorem dX6_listPairsOf_79 : decode cX6_listPairsOf 79 = .ok (.iconst 0, 1) := by decide +kernel
theorem dX6_listPairsOf_80 : decode cX6_listPairsOf 80 = .ok (.aaload, 1) := by decide +kernel
theorem dX6_listPairsOf_81 : decode cX6_listPairsOf 81 = .ok (.aload_n 0, 1) := by decide +kernel
theorem dX6_listPairsOf_82 : decode cX6_listPairsOf 82 = .ok (.getfield 98, 3) := by decide +kernel
theorem dX6_listPairsOf_85 : decode cX6_listPairsOf 85 = .ok (.aload_n 0, 1) := by decide +kernel
theorem dX6_listPairsOf_86 : decode cX6_listPairsOf 86 = .ok (.getfield 38, 3) := by decide +kernel
theorem dX6_listPairsOf_89 : decode cX6_listPairsOf 89 = .ok (.aload_n 0, 1) := by decide +kernel
theorem dX6_listPairsOf_90 : decode cX6_listPairsOf 90 = .ok (.getfield 18, 3) := by decide +kernel
theorem dX6_listPairsOf_93 : decode cX6_listPairsOf 93 = .ok (.aload_n 0, 1) := by decide +kernel
theorem dX6_listPairsOf_94 : decode cX6_listPairsOf 94 = .ok (.getfield 98, 3) := by decide +kernel
theorem dX6_listPairsOf_97 : decode cX6_listPairsOf 97 = .ok (.iaload, 1) := by decide +kernel
theorem dX6_listPairsOf_98 : decode cX6_listPairsOf 98 = .ok (.invokevirtual 110, 3) := by decide +kernel
theorem dX6_listPairsOf_101 : decode cX6_listPairsOf 101 = .ok (.iastore, 1) := by decide +kernel
theorem dX6_listPairsOf_102 : decode cX6_listPairsOf 102 = .ok (.aload_n 0, 1) := by decide +kernel
theorem dX6_listPairsOf_103 : decode cX6_listPairsOf 103 = .ok (.dup, 1) := by decide +kernel
theorem dX6_listPairsOf_104 : decode cX6_listPairsOf 104 = .ok (.getfield 98, 3) := by decide +kernel
theorem dX6_listPairsOf_107 : decode cX6_listPairsOf 107 = .ok (.iconst 1, 1) := by decide +kernel
theorem dX6_listPairsOf_108 : decode cX6_listPairsOf 108 = .ok (.iadd, 1) := by decide +kernel
theorem dX6_listPairsOf_109 : decode cX6_listPairsOf 109 = .ok (.putfield 98, 3) := by decide +kernel
theorem dX6_listPairsOf_112 : decode cX6_listPairsOf 112 = .ok (.iinc 3 1, 3) := by decide +kernel
theorem dX6_listPairsOf_115 : decode cX6_listPairsOf 115 = .ok (.goto (-113), 3) := by decide +kernel
theorem dX6_listPairsOf_118 : decode cX6_listPairsOf 118 = .ok (.return_, 1) := by decide +kernel
theorem dX6_pickFrom_0 : decode cX6_pickFrom 0 = .ok (.iload_n 1, 1) := by decide +kernel
theorem dX6_pickFrom_1 : decode cX6_pickFrom 1 = .ok (.aload_n 0, 1) := by decide +kernel
theorem dX6_pickFrom_2 : decode cX6_pickFrom 2 = .ok (.getfield 70, 3) := by decide +kernel
theorem dX6_pickFrom_5 : decode cX6_pickFrom 5 = .ok (.if_icmp .ge 8, 3) := by decide +kernel
theorem dX6_pickFrom_8 : decode cX6_pickFrom 8 = .ok (.iload_n 1, 1) := by decide +kernel
theorem dX6_pickFrom_9 : decode cX6_pickFrom 9 = .ok (.iconst 4, 1) := by decide +kernel
theorem dX6_pickFrom_10 : decode cX6_pickFrom 10 = .ok (.if_icmp .lt 5, 3) := by decide +kernel
theorem dX6_pickFrom_13 : decode cX6_pickFrom 13 = .ok (.iconst 1, 1) := by decide +kernel
theorem dX6_pickFrom_14 : decode cX6_pickFrom 14 = .ok (.ireturn, 1) := by decide +kernel
theorem dX6_pickFrom_15 : decode cX6_pickFrom 15 = .ok (.iload_n 2, 1) := by decide +kernel
theorem dX6_pickFrom_16 : decode cX6_pickFrom 16 = .ok (.istore 4, 2) := by decide +kernel
theorem dX6_pickFrom_18 : decode cX6_pickFrom 18 = .ok (.iload 4, 2) := by decide +kernel
theorem dX6_pickFrom_20 : decode cX6_pickFrom 20 = .ok (.aload_n 0, 1) := by decide +kernel
theorem dX6_pickFrom_21 : decode cX6_pickFrom 21 = .ok (.getfield 98, 3) := by decide +kernel
theorem dX6_pickFrom_24 : decode cX6_pickFrom 24 = .ok (.if_icmp .ge 116, 3) := by decide +kernel
theorem dX6_pickFrom_27 : decode cX6_pickFrom 27 = .ok (.aload_n 0, 1) := by decide +kernel
theorem dX6_pickFrom_28 : decode cX6_pickFrom 28 = .ok (.getfield 23, 3) := by decide +kernel
theorem dX6_pickFrom_31 : decode cX6_pickFrom 31 = .ok (.iload_n 3, 1) := by decide +kernel
theorem dX6_pickFrom_32 : decode cX6_pickFrom 32 = .ok (.aaload, 1) := by decide +kernel
theorem dX6_pickFrom_33 : decode cX6_pickFrom 33 = .ok (.iload 4, 2) := by decide +kernel
theorem dX6_pickFrom_35 : decode cX6_pickFrom 35 = .ok (.iaload, 1) := by decide +kernel
theorem dX6_pickFrom_36 : decode cX6_pickFrom 36 = .ok (.ifCond .eq 7, 3) := by decide +kernel
theorem dX6_pickFrom_39 : decode cX6_pickFrom 39 = .ok (.iconst 1, 1) := by decide +kernel
theorem dX6_pickFrom_40 : decode cX6_pickFrom 40 = .ok (.goto 4, 3) := by decide +kernel
theorem dX6_pickFrom_43 : decode cX6_pickFrom 43 = .ok (.iconst 0, 1) := by decide +kernel
theorem dX6_pickFrom_44 : decode cX6_pickFrom 44 = .ok (.istore 5, 2) := by decide +kernel
theorem dX6_pickFrom_46 : decode cX6_pickFrom 46 = .ok (.iload 5, 2) := by decide +kernel
theorem dX6_pickFrom_48 : decode cX6_pickFrom 48 = .ok (.ifCond .eq 11, 3) := by decide +kernel
theorem dX6_pickFrom_51 : decode cX6_pickFrom 51 = .ok (.iload_n 3, 1) := by decide +kernel
theorem dX6_pickFrom_52 : decode cX6_pickFrom 52 = .ok (.aload_n 0, 1) := by decide +kernel
theorem dX6_pickFrom_53 : decode cX6_pickFrom 53 = .ok (.getfield 73, 3) := by decide +kernel
theorem dX6_pickFrom_56 : decode cX6_pickFrom 56 = .ok (.if_icmp .ge 78, 3) := by decide +kernel
theorem dX6_pickFrom_59 : decode cX6_pickFrom 59 = .ok (.aload_n 0, 1) := by decide +kernel
theorem dX6_pickFrom_60 : decode cX6_pickFrom 60 = .ok (.getfield 42, 3) := by decide +kernel
theorem dX6_pickFrom_63 : decode cX6_pickFrom 63 = .ok (.aload_n 0, 1) := by decide +kernel
theorem dX6_pickFrom_64 : decode cX6_pickFrom 64 = .ok (.getfield 18, 3) := by decide +kernel
theorem dX6_pickFrom_67 : decode cX6_pickFrom 67 = .ok (.iload 4, 2) := by decide +kernel
theorem dX6_pickFrom_69 : decode cX6_pickFrom 69 = .ok (.iaload, 1) := by decide +kernel
theorem dX6_pickFrom_70 : decode cX6_pickFrom 70 = .ok (.invokevirtual 87, 3) := by decide +kernel
theorem dX6_pickFrom_73 : decode cX6_pickFrom 73 = .ok (.ifCond .ne 6, 3) := by decide +kernel
theorem dX6_pickFrom_76 : decode cX6_pickFrom 76 = .ok (.goto 58, 3) := by decide +kernel
theorem dX6_pickFrom_79 : decode cX6_pickFrom 79 = .ok (.aload_n 0, 1) := by decide +kernel
theorem dX6_pickFrom_80 : decode cX6_pickFrom 80 = .ok (.getfield 26, 3) := by decide +kernel
theorem dX6_pickFrom_83 : decode cX6_pickFrom 83 = .ok (.iload_n 1, 1) := by decide +kernel
theorem dX6_pickFrom_84 : decode cX6_pickFrom 84 = .ok (.iload 4, 2) := by decide +kernel
theorem dX6_pickFrom_86 : decode cX6_pickFrom 86 = .ok (.iastore, 1) := by decide +kernel
theorem dX6_pickFrom_87 : decode cX6_pickFrom 87 = .ok (.iload 5, 2) := by decide +kernel
theorem dX6_pickFrom_89 : decode cX6_pickFrom 89 = .ok (.ifCond .eq 10, 3) := by decide +kernel
theorem dX6_pickFrom_92 : decode cX6_pickFrom 92 = .ok (.aload_n 0, 1) := by decide +kernel
theorem dX6_pickFrom_93 : decode cX6_pickFrom 93 = .ok (.iload_n 3, 1) := by decide +kernel
theorem dX6_pickFrom_94 : decode cX6_pickFrom 94 = .ok (.iload 4, 2) := by decide +kernel
theorem dX6_pickFrom_96 : decode cX6_pickFrom 96 = .ok (.invokevirtual 113, 3) := by decide +kernel
theorem dX6_pickFrom_99 : decode cX6_pickFrom 99 = .ok (.aload_n 0, 1) := by decide +kernel
theorem dX6_pickFrom_100 : decode cX6_pickFrom 100 = .ok (.iload_n 1, 1) := by decide +kernel
theorem dX6_pickFrom_101 : decode cX6_pickFrom 101 = .ok (.iconst 1, 1) := by decide +kernel
theorem dX6_pickFrom_102 : decode cX6_pickFrom 102 = .ok (.iadd, 1) := by decide +kernel
theorem dX6_pickFrom_103 : decode cX6_pickFrom 103 = .ok (.iload 4, 2) := by decide +kernel
theorem dX6_pickFrom_105 : decode cX6_pickFrom 105 = .ok (.iconst 1, 1) := by decide +kernel
theorem dX6_pickFrom_106 : decode cX6_pickFrom 106 = .ok (.iadd, 1) := by decide +kernel
theorem dX6_pickFrom_107 : decode cX6_pickFrom 107 = .ok (.iload 5, 2) := by decide +kernel
theorem dX6_pickFrom_109 : decode cX6_pickFrom 109 = .ok (.ifCond .eq 9, 3) := by decide +kernel
theorem dX6_pickFrom_112 : decode cX6_pickFrom 112 = .ok (.iload_n 3, 1) := by decide +kernel
theorem dX6_pickFrom_113 : decode cX6_pickFrom 113 = .ok (.iconst 1, 1) := by decide +kernel
theorem dX6_pickFrom_114 : decode cX6_pickFrom 114 = .ok (.iadd, 1) := by decide +kernel
theorem dX6_pickFrom_115 : decode cX6_pickFrom 115 = .ok (.goto 4, 3) := by decide +kernel
theorem dX6_pickFrom_118 : decode cX6_pickFrom 118 = .ok (.iload_n 3, 1) := by decide +kernel
theorem dX6_pickFrom_119 : decode cX6_pickFrom 119 = .ok (.invokestatic 79, 3) := by decide +kernel
theorem dX6_pickFrom_122 : decode cX6_pickFrom 122 = .ok (.ifCond .eq 5, 3) := by decide +kernel
theorem dX6_pickFrom_125 : decode cX6_pickFrom 125 = .ok (.iconst 1, 1) := by decide +kernel
theorem dX6_pickFrom_126 : decode cX6_pickFrom 126 = .ok (.ireturn, 1) := by decide +kernel
theorem dX6_pickFrom_127 : decode cX6_pickFrom 127 = .ok (.aload_n 0, 1) := by decide +kernel
theorem dX6_pickFrom_128 : decode cX6_pickFrom 128 = .ok (.getfield 42, 3) := by decide +kernel
theorem dX6_pickFrom_131 : decode cX6_pickFrom 131 = .ok (.invokevirtual 116, 3) := by decide +kernel
theorem dX6_pickFrom_134 : decode cX6_pickFrom 134 = .ok (.iinc 4 1, 3) := by decide +kernel
theorem dX6_pickFrom_137 : decode cX6_pickFrom 137 = .ok (.goto (-119), 3) := by decide +kernel
theorem dX6_pickFrom_140 : decode cX6_pickFrom 140 = .ok (.iconst 0, 1) := by decide +kernel
theorem dX6_pickFrom_141 : decode cX6_pickFrom 141 = .ok (.ireturn, 1) := by decide +kernel
theorem dX6_meet_0 : decode cX6_meet 0 = .ok (.aload_n 0, 1) := by decide +kernel
theorem dX6_meet_1 : decode cX6_meet 1 = .ok (.getfield 29, 3) := by decide +kernel
theorem dX6_meet_4 : decode cX6_meet 4 = .ok (.aload_n 0, 1) := by decide +kernel
theorem dX6_meet_5 : decode cX6_meet 5 = .ok (.getfield 23, 3) := by decide +kernel
theorem dX6_meet_8 : decode cX6_meet 8 = .ok (.iload_n 1, 1) := by decide +kernel
theorem dX6_meet_9 : decode cX6_meet 9 = .ok (.aaload, 1) := by decide +kernel
theorem dX6_meet_10 : decode cX6_meet 10 = .ok (.iload_n 2, 1) := by decide +kernel
theorem dX6_meet_11 : decode cX6_meet 11 = .ok (.iaload, 1) := by decide +kernel
theorem dX6_meet_12 : decode cX6_meet 12 = .ok (.invokevirtual 119, 3) := by decide +kernel
theorem dX6_meet_15 : decode cX6_meet 15 = .ok (.istore_n 3, 1) := by decide +kernel
theorem dX6_meet_16 : decode cX6_meet 16 = .ok (.aload_n 0, 1) := by decide +kernel
theorem dX6_meet_17 : decode cX6_meet 17 = .ok (.getfield 29, 3) := by decide +kernel
theorem dX6_meet_20 : decode cX6_meet 20 = .ok (.iload_n 3, 1) := by decide +kernel
theorem dX6_meet_21 : decode cX6_meet 21 = .ok (.invokevirtual 122, 3) := by decide +kernel
theorem dX6_meet_24 : decode cX6_meet 24 = .ok (.istore 4, 2) := by decide +kernel
theorem dX6_meet_26 : decode cX6_meet 26 = .ok (.iload_n 2, 1) := by decide +kernel
theorem dX6_meet_27 : decode cX6_meet 27 = .ok (.iconst 1, 1) := by decide +kernel
theorem dX6_meet_28 : decode cX6_meet 28 = .ok (.iadd, 1) := by decide +kernel
theorem dX6_meet_29 : decode cX6_meet 29 = .ok (.istore 5, 2) := by decide +kernel
theorem dX6_meet_31 : decode cX6_meet 31 = .ok (.iload 5, 2) := by decide +kernel
theorem dX6_meet_33 : decode cX6_meet 33 = .ok (.aload_n 0, 1) := by decide +kernel
theorem dX6_meet_34 : decode cX6_meet 34 = .ok (.getfield 98, 3) := by decide +kernel
theorem dX6_meet_37 : decode cX6_meet 37 = .ok (.if_icmp .ge 52, 3) := by decide +kernel
theorem dX6_meet_40 : decode cX6_meet 40 = .ok (.aload_n 0, 1) := by decide +kernel
theorem dX6_meet_41 : decode cX6_meet 41 = .ok (.getfield 23, 3) := by decide +kernel
theorem dX6_meet_44 : decode cX6_meet 44 = .ok (.iload_n 1, 1) := by decide +kernel
theorem dX6_meet_45 : decode cX6_meet 45 = .ok (.aaload, 1) := by decide +kernel
theorem dX6_meet_46 : decode cX6_meet 46 = .ok (.iload 5, 2) := by decide +kernel
theorem dX6_meet_48 : decode cX6_meet 48 = .ok (.iaload, 1) := by decide +kernel
theorem dX6_meet_49 : decode cX6_meet 49 = .ok (.istore 6, 2) := by decide +kernel
theorem dX6_meet_51 : decode cX6_meet 51 = .ok (.aload_n 0, 1) := by decide +kernel
theorem dX6_meet_52 : decode cX6_meet 52 = .ok (.getfield 23, 3) := by decide +kernel
theorem dX6_meet_55 : decode cX6_meet 55 = .ok (.iload_n 1, 1) := by decide +kernel
theorem dX6_meet_56 : decode cX6_meet 56 = .ok (.iconst 1, 1) := by decide +kernel
theorem dX6_meet_57 : decode cX6_meet 57 = .ok (.iadd, 1) := by decide +kernel
theorem dX6_meet_58 : decode cX6_meet 58 = .ok (.aaload, 1) := by decide +kernel
theorem dX6_meet_59 : decode cX6_meet 59 = .ok (.iload 5, 2) := by decide +kernel
theorem dX6_meet_61 : decode cX6_meet 61 = .ok (.aload_n 0, 1) := by decide +kernel
theorem dX6_meet_62 : decode cX6_meet 62 = .ok (.getfield 29, 3) := by decide +kernel
theorem dX6_meet_65 : decode cX6_meet 65 = .ok (.iload 6, 2) := by decide +kernel
theorem dX6_meet_67 : decode cX6_meet 67 = .ok (.aload_n 0, 1) := by decide +kernel
theorem dX6_meet_68 : decode cX6_meet 68 = .ok (.getfield 29, 3) := by decide +kernel
theorem dX6_meet_71 : decode cX6_meet 71 = .ok (.iload 6, 2) := by decide +kernel
theorem dX6_meet_73 : decode cX6_meet 73 = .ok (.iload 4, 2) := by decide +kernel
theorem dX6_meet_75 : decode cX6_meet 75 = .ok (.invokevirtual 125, 3) := by decide +kernel
theorem dX6_meet_78 : decode cX6_meet 78 = .ok (.iload_n 3, 1) := by decide +kernel
theorem dX6_meet_79 : decode cX6_meet 79 = .ok (.invokevirtual 128, 3) := by decide +kernel
theorem dX6_meet_82 : decode cX6_meet 82 = .ok (.iastore, 1) := by decide +kernel
theorem dX6_meet_83 : decode cX6_meet 83 = .ok (.iinc 5 1, 3) := by decide +kernel
theorem dX6_meet_86 : decode cX6_meet 86 = .ok (.goto (-55), 3) := by decide +kernel
theorem dX6_meet_89 : decode cX6_meet 89 = .ok (.return_, 1) := by decide +kernel
theorem dX6_writeScheme_0 : decode cX6_writeScheme 0 = .ok (.aload_n 1, 1) := by decide +kernel
theorem dX6_writeScheme_1 : decode cX6_writeScheme 1 = .ok (.iconst 0, 1) := by decide +kernel
theorem dX6_writeScheme_2 : decode cX6_writeScheme 2 = .ok (.putfield 131, 3) := by decide +kernel
theorem dX6_writeScheme_5 : decode cX6_writeScheme 5 = .ok (.iconst 0, 1) := by decide +kernel
theorem dX6_writeScheme_6 : decode cX6_writeScheme 6 = .ok (.istore_n 3, 1) := by decide +kernel
theorem dX6_writeScheme_7 : decode cX6_writeScheme 7 = .ok (.iload_n 3, 1) := by decide +kernel
theorem dX6_writeScheme_8 : decode cX6_writeScheme 8 = .ok (.iload_n 2, 1) := by decide +kernel
theorem dX6_writeScheme_9 : decode cX6_writeScheme 9 = .ok (.if_icmp .ge 36, 3) := by decide +kernel
theorem dX6_writeScheme_12 : decode cX6_writeScheme 12 = .ok (.aload_n 1, 1) := by decide +kernel
theorem dX6_writeScheme_13 : decode cX6_writeScheme 13 = .ok (.aload_n 0, 1) := by decide +kernel
theorem dX6_writeScheme_14 : decode cX6_writeScheme 14 = .ok (.getfield 9, 3) := by decide +kernel
theorem dX6_writeScheme_17 : decode cX6_writeScheme 17 = .ok (.aload_n 0, 1) := by decide +kernel
theorem dX6_writeScheme_18 : decode cX6_writeScheme 18 = .ok (.getfield 26, 3) := by decide +kernel
theorem dX6_writeScheme_21 : decode cX6_writeScheme 21 = .ok (.iload_n 3, 1) := by decide +kernel
theorem dX6_writeScheme_22 : decode cX6_writeScheme 22 = .ok (.iaload, 1) := by decide +kernel
theorem dX6_writeScheme_23 : decode cX6_writeScheme 23 = .ok (.iaload, 1) := by decide +kernel
theorem dX6_writeScheme_24 : decode cX6_writeScheme 24 = .ok (.aload_n 0, 1) := by decide +kernel
theorem dX6_writeScheme_25 : decode cX6_writeScheme 25 = .ok (.getfield 15, 3) := by decide +kernel
theorem dX6_writeScheme_28 : decode cX6_writeScheme 28 = .ok (.aload_n 0, 1) := by decide +kernel
theorem dX6_writeScheme_29 : decode cX6_writeScheme 29 = .ok (.getfield 26, 3) := by decide +kernel
theorem dX6_writeScheme_32 : decode cX6_writeScheme 32 = .ok (.iload_n 3, 1) := by decide +kernel
theorem dX6_writeScheme_33 : decode cX6_writeScheme 33 = .ok (.iaload, 1) := by decide +kernel
theorem dX6_writeScheme_34 : decode cX6_writeScheme 34 = .ok (.iaload, 1) := by decide +kernel
theorem dX6_writeScheme_35 : decode cX6_writeScheme 35 = .ok (.iconst 0, 1) := by decide +kernel
theorem dX6_writeScheme_36 : decode cX6_writeScheme 36 = .ok (.invokevirtual 134, 3) := by decide +kernel
theorem dX6_writeScheme_39 : decode cX6_writeScheme 39 = .ok (.iinc 3 1, 3) := by decide +kernel
theorem dX6_writeScheme_42 : decode cX6_writeScheme 42 = .ok (.goto (-35), 3) := by decide +kernel
theorem dX6_writeScheme_45 : decode cX6_writeScheme 45 = .ok (.iconst 0, 1) := by decide +kernel
theorem dX6_writeScheme_46 : decode cX6_writeScheme 46 = .ok (.istore_n 3, 1) := by decide +kernel
theorem dX6_writeScheme_47 : decode cX6_writeScheme 47 = .ok (.iload_n 3, 1) := by decide +kernel
theorem dX6_writeScheme_48 : decode cX6_writeScheme 48 = .ok (.aload_n 1, 1) := by decide +kernel
theorem dX6_writeScheme_49 : decode cX6_writeScheme 49 = .ok (.getfield 45, 3) := by decide +kernel
theorem dX6_writeScheme_52 : decode cX6_writeScheme 52 = .ok (.iconst 2, 1) := by decide +kernel
theorem dX6_writeScheme_53 : decode cX6_writeScheme 53 = .ok (.iaload, 1) := by decide +kernel
theorem dX6_writeScheme_54 : decode cX6_writeScheme 54 = .ok (.if_icmp .ge 76, 3) := by decide +kernel
theorem dX6_writeScheme_57 : decode cX6_writeScheme 57 = .ok (.aload_n 0, 1) := by decide +kernel
theorem dX6_writeScheme_58 : decode cX6_writeScheme 58 = .ok (.getfield 42, 3) := by decide +kernel
theorem dX6_writeScheme_61 : decode cX6_writeScheme 61 = .ok (.aload_n 0, 1) := by decide +kernel
theorem dX6_writeScheme_62 : decode cX6_writeScheme 62 = .ok (.aload_n 1, 1) := by decide +kernel
theorem dX6_writeScheme_63 : decode cX6_writeScheme 63 = .ok (.iload_n 3, 1) := by decide +kernel
theorem dX6_writeScheme_64 : decode cX6_writeScheme 64 = .ok (.invokevirtual 83, 3) := by decide +kernel
theorem dX6_writeScheme_67 : decode cX6_writeScheme 67 = .ok (.invokevirtual 138, 3) := by decide +kernel
theorem dX6_writeScheme_70 : decode cX6_writeScheme 70 = .ok (.istore 4, 2) := by decide +kernel
theorem dX6_writeScheme_72 : decode cX6_writeScheme 72 = .ok (.iconst 0, 1) := by decide +kernel
theorem dX6_writeScheme_73 : decode cX6_writeScheme 73 = .ok (.istore 5, 2) := by decide +kernel
theorem dX6_writeScheme_75 : decode cX6_writeScheme 75 = .ok (.iload 5, 2) := by decide +kernel
theorem dX6_writeScheme_77 : decode cX6_writeScheme 77 = .ok (.iload_n 2, 1) := by decide +kernel
theorem dX6_writeScheme_78 : decode cX6_writeScheme 78 = .ok (.if_icmp .ge 46, 3) := by decide +kernel
theorem dX6_writeScheme_81 : decode cX6_writeScheme 81 = .ok (.aload_n 0, 1) := by decide +kernel
theorem dX6_writeScheme_82 : decode cX6_writeScheme 82 = .ok (.getfield 29, 3) := by decide +kernel
theorem dX6_writeScheme_85 : decode cX6_writeScheme 85 = .ok (.aload_n 1, 1) := by decide +kernel
theorem dX6_writeScheme_86 : decode cX6_writeScheme 86 = .ok (.iconst 2, 1) := by decide +kernel
theorem dX6_writeScheme_87 : decode cX6_writeScheme 87 = .ok (.iload 5, 2) := by decide +kernel
theorem dX6_writeScheme_89 : decode cX6_writeScheme 89 = .ok (.invokevirtual 141, 3) := by decide +kernel
theorem dX6_writeScheme_92 : decode cX6_writeScheme 92 = .ok (.iload_n 3, 1) := by decide +kernel
theorem dX6_writeScheme_93 : decode cX6_writeScheme 93 = .ok (.aload_n 0, 1) := by decide +kernel
theorem dX6_writeScheme_94 : decode cX6_writeScheme 94 = .ok (.getfield 29, 3) := by decide +kernel
theorem dX6_writeScheme_97 : decode cX6_writeScheme 97 = .ok (.iload 4, 2) := by decide +kernel
theorem dX6_writeScheme_99 : decode cX6_writeScheme 99 = .ok (.iload 5, 2) := by decide +kernel
theorem dX6_writeScheme_101 : decode cX6_writeScheme 101 = .ok (.invokevirtual 125, 3) := by decide +kernel
theorem dX6_writeScheme_104 : decode cX6_writeScheme 104 = .ok (.invokevirtual 144, 3) := by decide +kernel
theorem dX6_writeScheme_107 : decode cX6_writeScheme 107 = .ok (.istore 6, 2) := by decide +kernel
theorem dX6_writeScheme_109 : decode cX6_writeScheme 109 = .ok (.aload_n 1, 1) := by decide +kernel
theorem dX6_writeScheme_110 : decode cX6_writeScheme 110 = .ok (.iconst 2, 1) := by decide +kernel
theorem dX6_writeScheme_111 : decode cX6_writeScheme 111 = .ok (.iload 5, 2) := by decide +kernel
theorem dX6_writeScheme_113 : decode cX6_writeScheme 113 = .ok (.iload 6, 2) := by decide +kernel
theorem dX6_writeScheme_115 : decode cX6_writeScheme 115 = .ok (.invokevirtual 147, 3) := by decide +kernel
theorem dX6_writeScheme_118 : decode cX6_writeScheme 118 = .ok (.iinc 5 1, 3) := by decide +kernel
theorem dX6_writeScheme_121 : decode cX6_writeScheme 121 = .ok (.goto (-46), 3) := by decide +kernel
theorem dX6_writeScheme_124 : decode cX6_writeScheme 124 = .ok (.iinc 3 1, 3) := by decide +kernel
theorem dX6_writeScheme_127 : decode cX6_writeScheme 127 = .ok (.goto (-80), 3) := by decide +kernel
theorem dX6_writeScheme_130 : decode cX6_writeScheme 130 = .ok (.return_, 1) := by decide +kernel
