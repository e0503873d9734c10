theorem dX7_init_0 : decode cX7_init 0 = .ok (.aload_n 0, 1) := by decide +kernel
theorem dX7_init_1 : decode cX7_init 1 = .ok (.invokespecial 3, 3) := by decide +kernel
theorem dX7_init_4 : decode cX7_init 4 = .ok (.aload_n 0, 1) := by decide +kernel
theorem dX7_init_5 : decode cX7_init 5 = .ok (.sipush 360, 3) := by decide +kernel
theorem dX7_init_8 : decode cX7_init 8 = .ok (.newarray .int, 2) := by decide +kernel
theorem dX7_init_10 : decode cX7_init 10 = .ok (.putfield 9, 3) := by decide +kernel
theorem dX7_init_13 : decode cX7_init 13 = .ok (.aload_n 0, 1) := by decide +kernel
theorem dX7_init_14 : decode cX7_init 14 = .ok (.sipush 360, 3) := by decide +kernel
theorem dX7_init_17 : decode cX7_init 17 = .ok (.newarray .int, 2) := by decide +kernel
theorem dX7_init_19 : decode cX7_init 19 = .ok (.putfield 15, 3) := by decide +kernel
theorem dX7_init_22 : decode cX7_init 22 = .ok (.aload_n 0, 1) := by decide +kernel
theorem dX7_init_23 : decode cX7_init 23 = .ok (.bipush 40, 2) := by decide +kernel
theorem dX7_init_25 : decode cX7_init 25 = .ok (.newarray .int, 2) := by decide +kernel
theorem dX7_init_27 : decode cX7_init 27 = .ok (.putfield 18, 3) := by decide +kernel
theorem dX7_init_30 : decode cX7_init 30 = .ok (.aload_n 0, 1) := by decide +kernel
theorem dX7_init_31 : decode cX7_init 31 = .ok (.sipush 343, 3) := by decide +kernel
theorem dX7_init_34 : decode cX7_init 34 = .ok (.newarray .int, 2) := by decide +kernel
theorem dX7_init_36 : decode cX7_init 36 = .ok (.putfield 21, 3) := by decide +kernel
theorem dX7_init_39 : decode cX7_init 39 = .ok (.aload_n 0, 1) := by decide +kernel
theorem dX7_init_40 : decode cX7_init 40 = .ok (.aload_n 1, 1) := by decide +kernel
theorem dX7_init_41 : decode cX7_init 41 = .ok (.putfield 24, 3) := by decide +kernel
theorem dX7_init_44 : decode cX7_init 44 = .ok (.return_, 1) := by decide +kernel
theorem dX7_plainSums_0 : decode cX7_plainSums 0 = .ok (.aload_n 0, 1) := by decide +kernel
theorem dX7_plainSums_1 : decode cX7_plainSums 1 = .ok (.aload_n 1, 1) := by decide +kernel
theorem dX7_plainSums_2 : decode cX7_plainSums 2 = .ok (.iload_n 2, 1) := by decide +kernel
theorem dX7_plainSums_3 : decode cX7_plainSums 3 = .ok (.invokevirtual 28, 3) := by decide +kernel
theorem dX7_plainSums_6 : decode cX7_plainSums 6 = .ok (.aload_n 0, 1) := by decide +kernel
theorem dX7_plainSums_7 : decode cX7_plainSums 7 = .ok (.invokevirtual 32, 3) := by decide +kernel
theorem dX7_plainSums_10 : decode cX7_plainSums 10 = .ok (.ireturn, 1) := by decide +kernel
theorem dX7_sharedSums_0 : decode cX7_sharedSums 0 = .ok (.aload_n 0, 1) := by decide +kernel
theorem dX7_sharedSums_1 : decode cX7_sharedSums 1 = .ok (.aload_n 1, 1) := by decide +kernel
theorem dX7_sharedSums_2 : decode cX7_sharedSums 2 = .ok (.iload_n 2, 1) := by decide +kernel
theorem dX7_sharedSums_3 : decode cX7_sharedSums 3 = .ok (.invokevirtual 28, 3) := by decide +kernel
theorem dX7_sharedSums_6 : decode cX7_sharedSums 6 = .ok (.iconst 0, 1) := by decide +kernel
theorem dX7_sharedSums_7 : decode cX7_sharedSums 7 = .ok (.istore_n 3, 1) := by decide +kernel
theorem dX7_sharedSums_8 : decode cX7_sharedSums 8 = .ok (.iload_n 3, 1) := by decide +kernel
theorem dX7_sharedSums_9 : decode cX7_sharedSums 9 = .ok (.bipush 40, 2) := by decide +kernel
theorem dX7_sharedSums_11 : decode cX7_sharedSums 11 = .ok (.if_icmp .ge 20, 3) := by decide +kernel
theorem dX7_sharedSums_14 : decode cX7_sharedSums 14 = .ok (.aload_n 0, 1) := by decide +kernel
theorem dX7_sharedSums_15 : decode cX7_sharedSums 15 = .ok (.invokevirtual 36, 3) := by decide +kernel
theorem dX7_sharedSums_18 : decode cX7_sharedSums 18 = .ok (.ifCond .eq 13, 3) := by decide +kernel
theorem dX7_sharedSums_21 : decode cX7_sharedSums 21 = .ok (.aload_n 0, 1) := by decide +kernel
theorem dX7_sharedSums_22 : decode cX7_sharedSums 22 = .ok (.invokevirtual 40, 3) := by decide +kernel
theorem dX7_sharedSums_25 : decode cX7_sharedSums 25 = .ok (.iinc 3 1, 3) := by decide +kernel
theorem dX7_sharedSums_28 : decode cX7_sharedSums 28 = .ok (.goto (-20), 3) := by decide +kernel
theorem dX7_sharedSums_31 : decode cX7_sharedSums 31 = .ok (.iload_n 3, 1) := by decide +kernel
theorem dX7_sharedSums_32 : decode cX7_sharedSums 32 = .ok (.aload_n 0, 1) := by decide +kernel
theorem dX7_sharedSums_33 : decode cX7_sharedSums 33 = .ok (.invokevirtual 32, 3) := by decide +kernel
theorem dX7_sharedSums_36 : decode cX7_sharedSums 36 = .ok (.iadd, 1) := by decide +kernel
theorem dX7_sharedSums_37 : decode cX7_sharedSums 37 = .ok (.ireturn, 1) := by decide +kernel
theorem dX7_load_0 : decode cX7_load 0 = .ok (.aload_n 0, 1) := by decide +kernel
theorem dX7_load_1 : decode cX7_load 1 = .ok (.aload_n 1, 1) := by decide +kernel
theorem dX7_load_2 : decode cX7_load 2 = .ok (.getfield 43, 3) := by decide +kernel
theorem dX7_load_5 : decode cX7_load 5 = .ok (.putfield 49, 3) := by decide +kernel
theorem dX7_load_8 : decode cX7_load 8 = .ok (.aload_n 0, 1) := by decide +kernel
theorem dX7_load_9 : decode cX7_load 9 = .ok (.aload_n 1, 1) := by decide +kernel
theorem dX7_load_10 : decode cX7_load 10 = .ok (.getfield 52, 3) := by decide +kernel
theorem dX7_load_13 : decode cX7_load 13 = .ok (.iload_n 2, 1) := by decide +kernel
theorem dX7_load_14 : decode cX7_load 14 = .ok (.iaload, 1) := by decide +kernel
theorem dX7_load_15 : decode cX7_load 15 = .ok (.putfield 55, 3) := by decide +kernel
theorem dX7_load_18 : decode cX7_load 18 = .ok (.iconst 0, 1) := by decide +kernel
theorem dX7_load_19 : decode cX7_load 19 = .ok (.istore_n 3, 1) := by decide +kernel
theorem dX7_load_20 : decode cX7_load 20 = .ok (.iload_n 3, 1) := by decide +kernel
theorem dX7_load_21 : decode cX7_load 21 = .ok (.aload_n 0, 1) := by decide +kernel
theorem dX7_load_22 : decode cX7_load 22 = .ok (.getfield 49, 3) := by decide +kernel
theorem dX7_load_25 : decode cX7_load 25 = .ok (.if_icmp .ge 65, 3) := by decide +kernel
theorem dX7_load_28 : decode cX7_load 28 = .ok (.aload_n 0, 1) := by decide +kernel
theorem dX7_load_29 : decode cX7_load 29 = .ok (.getfield 18, 3) := by decide +kernel
theorem dX7_load_32 : decode cX7_load 32 = .ok (.iload_n 3, 1) := by decide +kernel
theorem dX7_load_33 : decode cX7_load 33 = .ok (.iconst 0, 1) := by decide +kernel
theorem dX7_load_34 : decode cX7_load 34 = .ok (.iastore, 1) := by decide +kernel
theorem dX7_load_35 : decode cX7_load 35 = .ok (.iconst 0, 1) := by decide +kernel
theorem dX7_load_36 : decode cX7_load 36 = .ok (.istore 4, 2) := by decide +kernel
theorem dX7_load_38 : decode cX7_load 38 = .ok (.iload 4, 2) := by decide +kernel
theorem dX7_load_40 : decode cX7_load 40 = .ok (.aload_n 0, 1) := by decide +kernel
theorem dX7_load_41 : decode cX7_load 41 = .ok (.getfield 55, 3) := by decide +kernel
theorem dX7_load_44 : decode cX7_load 44 = .ok (.if_icmp .ge 40, 3) := by decide +kernel
theorem dX7_load_47 : decode cX7_load 47 = .ok (.aload_n 0, 1) := by decide +kernel
theorem dX7_load_48 : decode cX7_load 48 = .ok (.getfield 24, 3) := by decide +kernel
theorem dX7_load_51 : decode cX7_load 51 = .ok (.aload_n 1, 1) := by decide +kernel
theorem dX7_load_52 : decode cX7_load 52 = .ok (.iload_n 2, 1) := by decide +kernel
theorem dX7_load_53 : decode cX7_load 53 = .ok (.iload_n 3, 1) := by decide +kernel
theorem dX7_load_54 : decode cX7_load 54 = .ok (.invokevirtual 58, 3) := by decide +kernel
theorem dX7_load_57 : decode cX7_load 57 = .ok (.iload 4, 2) := by decide +kernel
theorem dX7_load_59 : decode cX7_load 59 = .ok (.invokevirtual 62, 3) := by decide +kernel
theorem dX7_load_62 : decode cX7_load 62 = .ok (.istore 5, 2) := by decide +kernel
theorem dX7_load_64 : decode cX7_load 64 = .ok (.iload 5, 2) := by decide +kernel
theorem dX7_load_66 : decode cX7_load 66 = .ok (.ifCond .eq 12, 3) := by decide +kernel
theorem dX7_load_69 : decode cX7_load 69 = .ok (.aload_n 0, 1) := by decide +kernel
theorem dX7_load_70 : decode cX7_load 70 = .ok (.iload_n 3, 1) := by decide +kernel
theorem dX7_load_71 : decode cX7_load 71 = .ok (.iload 4, 2) := by decide +kernel
theorem dX7_load_73 : decode cX7_load 73 = .ok (.iload 5, 2) := by decide +kernel
theorem dX7_load_75 : decode cX7_load 75 = .ok (.invokevirtual 67, 3) := by decide +kernel
theorem dX7_load_78 : decode cX7_load 78 = .ok (.iinc 4 1, 3) := by decide +kernel
theorem dX7_load_81 : decode cX7_load 81 = .ok (.goto (-43), 3) := by decide +kernel
theorem dX7_load_84 : decode cX7_load 84 = .ok (.iinc 3 1, 3) := by decide +kernel
theorem dX7_load_87 : decode cX7_load 87 = .ok (.goto (-67), 3) := by decide +kernel
theorem dX7_load_90 : decode cX7_load 90 = .ok (.return_, 1) := by decide +kernel
theorem dX7_append_0 : decode cX7_append 0 = .ok (.bipush 9, 2) := by decide +kernel
theorem dX7_append_2 : decode cX7_append 2 = .ok (.iload_n 1, 1) := by decide +kernel
theorem dX7_append_3 : decode cX7_append 3 = .ok (.imul, 1) := by decide +kernel
theorem dX7_append_4 : decode cX7_append 4 = .ok (.aload_n 0, 1) := by decide +kernel
theorem dX7_append_5 : decode cX7_append 5 = .ok (.getfield 18, 3) := by decide +kernel
theorem dX7_append_8 : decode cX7_append 8 = .ok (.iload_n 1, 1) := by decide +kernel
theorem dX7_append_9 : decode cX7_append 9 = .ok (.iaload, 1) := by decide +kernel
theorem dX7_append_10 : decode cX7_append 10 = .ok (.iadd, 1) := by decide +kernel
theorem dX7_append_11 : decode cX7_append 11 = .ok (.istore 4, 2) := by decide +kernel
theorem dX7_append_13 : decode cX7_append 13 = .ok (.aload_n 0, 1) := by decide +kernel
theorem dX7_append_14 : decode cX7_append 14 = .ok (.getfield 9, 3) := by decide +kernel
theorem dX7_append_17 : decode cX7_append 17 = .ok (.iload 4, 2) := by decide +kernel
theorem dX7_append_19 : decode cX7_append 19 = .ok (.iload_n 2, 1) := by decide +kernel
theorem dX7_append_20 : decode cX7_append 20 = .ok (.iastore, 1) := by decide +kernel
theorem dX7_append_21 : decode cX7_append 21 = .ok (.aload_n 0, 1) := by decide +kernel
theorem dX7_append_22 : decode cX7_append 22 = .ok (.getfield 15, 3) := by decide +kernel
theorem dX7_append_25 : decode cX7_append 25 = .ok (.iload 4, 2) := by decide +kernel
theorem dX7_append_27 : decode cX7_append 27 = .ok (.iload_n 3, 1) := by decide +kernel
theorem dX7_append_28 : decode cX7_append 28 = .ok (.iastore, 1) := by decide +kernel
theorem dX7_append_29 : decode cX7_append 29 = .ok (.aload_n 0, 1) := by decide +kernel
theorem dX7_append_30 : decode cX7_append 30 = .ok (.getfield 18, 3) := by decide +kernel
theorem dX7_append_33 : decode cX7_append 33 = .ok (.iload_n 1, 1) := by decide +kernel
theorem dX7_append_34 : decode cX7_append 34 = .ok (.dup2, 1) := by decide +kernel
theorem dX7_append_35 : decode cX7_append 35 = .ok (.iaload, 1) := by decide +kernel
theorem dX7_append_36 : decode cX7_append 36 = .ok (.iconst 1, 1) := by decide +kernel
theorem dX7_append_37 : decode cX7_append 37 = .ok (.iadd, 1) := by decide +kernel
theorem dX7_append_38 : decode cX7_append 38 = .ok (.iastore, 1) := by decide +kernel
theorem dX7_append_39 : decode cX7_append 39 = .ok (.return_, 1) := by decide +kernel
theorem dX7_sumsOfLists_0 : decode cX7_sumsOfLists 0 = .ok (.iconst 0, 1) := by decide +kernel
theorem dX7_sumsOfLists_1 : decode cX7_sumsOfLists 1 = .ok (.istore_n 1, 1) := by decide +kernel
theorem dX7_sumsOfLists_2 : decode cX7_sumsOfLists 2 = .ok (.iconst 0, 1) := by decide +kernel
theorem dX7_sumsOfLists_3 : decode cX7_sumsOfLists 3 = .ok (.istore_n 2, 1) := by decide +kernel
theorem dX7_sumsOfLists_4 : decode cX7_sumsOfLists 4 = .ok (.iload_n 2, 1) := by decide +kernel
theorem dX7_sumsOfLists_5 : decode cX7_sumsOfLists 5 = .ok (.aload_n 0, 1) := by decide +kernel
theorem dX7_sumsOfLists_6 : decode cX7_sumsOfLists 6 = .ok (.getfield 49, 3) := by decide +kernel
theorem dX7_sumsOfLists_9 : decode cX7_sumsOfLists 9 = .ok (.if_icmp .ge 24, 3) := by decide +kernel
theorem dX7_sumsOfLists_12 : decode cX7_sumsOfLists 12 = .ok (.iload_n 1, 1) := by decide +kernel
theorem dX7_sumsOfLists_13 : decode cX7_sumsOfLists 13 = .ok (.iconst 0, 1) := by decide +kernel
theorem dX7_sumsOfLists_14 : decode cX7_sumsOfLists 14 = .ok (.aload_n 0, 1) := by decide +kernel
theorem dX7_sumsOfLists_15 : decode cX7_sumsOfLists 15 = .ok (.getfield 18, 3) := by decide +kernel
theorem dX7_sumsOfLists_18 : decode cX7_sumsOfLists 18 = .ok (.iload_n 2, 1) := by decide +kernel
theorem dX7_sumsOfLists_19 : decode cX7_sumsOfLists 19 = .ok (.iaload, 1) := by decide +kernel
theorem dX7_sumsOfLists_20 : decode cX7_sumsOfLists 20 = .ok (.iconst 1, 1) := by decide +kernel
theorem dX7_sumsOfLists_21 : decode cX7_sumsOfLists 21 = .ok (.isub, 1) := by decide +kernel
theorem dX7_sumsOfLists_22 : decode cX7_sumsOfLists 22 = .ok (.invokestatic 71, 3) := by decide +kernel
theorem dX7_sumsOfLists_25 : decode cX7_sumsOfLists 25 = .ok (.iadd, 1) := by decide +kernel
theorem dX7_sumsOfLists_26 : decode cX7_sumsOfLists 26 = .ok (.istore_n 1, 1) := by decide +kernel
theorem dX7_sumsOfLists_27 : decode cX7_sumsOfLists 27 = .ok (.iinc 2 1, 3) := by decide +kernel
theorem dX7_sumsOfLists_30 : decode cX7_sumsOfLists 30 = .ok (.goto (-26), 3) := by decide +kernel
theorem dX7_sumsOfLists_33 : decode cX7_sumsOfLists 33 = .ok (.iload_n 1, 1) := by decide +kernel
theorem dX7_sumsOfLists_34 : decode cX7_sumsOfLists 34 = .ok (.ireturn, 1) := by decide +kernel
theorem dX7_seekBest_0 : decode cX7_seekBest 0 = .ok (.aload_n 0, 1) := by decide +kernel
theorem dX7_seekBest_1 : decode cX7_seekBest 1 = .ok (.iconst 1, 1) := by decide +kernel
theorem dX7_seekBest_2 : decode cX7_seekBest 2 = .ok (.putfield 76, 3) := by decide +kernel
theorem dX7_seekBest_5 : decode cX7_seekBest 5 = .ok (.aload_n 0, 1) := by decide +kernel
theorem dX7_seekBest_6 : decode cX7_seekBest 6 = .ok (.iconst (-1), 1) := by decide +kernel
theorem dX7_seekBest_7 : decode cX7_seekBest 7 = .ok (.putfield 79, 3) := by decide +kernel
theorem dX7_seekBest_10 : decode cX7_seekBest 10 = .ok (.aload_n 0, 1) := by decide +kernel
theorem dX7_seekBest_11 : decode cX7_seekBest 11 = .ok (.iconst (-1), 1) := by decide +kernel
theorem dX7_seekBest_12 : decode cX7_seekBest 12 = .ok (.putfield 82, 3) := by decide +kernel
theorem dX7_seekBest_15 : decode cX7_seekBest 15 = .ok (.iconst 0, 1) := by decide +kernel
theorem dX7_seekBest_16 : decode cX7_seekBest 16 = .ok (.istore_n 1, 1) := by decide +kernel
theorem dX7_seekBest_17 : decode cX7_seekBest 17 = .ok (.iload_n 1, 1) := by decide +kernel
theorem dX7_seekBest_18 : decode cX7_seekBest 18 = .ok (.aload_n 0, 1) := by decide +kernel
theorem dX7_seekBest_19 : decode cX7_seekBest 19 = .ok (.getfield 55, 3) := by decide +kernel
theorem dX7_seekBest_22 : decode cX7_seekBest 22 = .ok (.if_icmp .ge 59, 3) := by decide +kernel
theorem dX7_seekBest_25 : decode cX7_seekBest 25 = .ok (.aload_n 0, 1) := by decide +kernel
theorem dX7_seekBest_26 : decode cX7_seekBest 26 = .ok (.getfield 21, 3) := by decide +kernel
theorem dX7_seekBest_29 : decode cX7_seekBest 29 = .ok (.iconst 0, 1) := by decide +kernel
theorem dX7_seekBest_30 : decode cX7_seekBest 30 = .ok (.aload_n 0, 1) := by decide +kernel
theorem dX7_seekBest_31 : decode cX7_seekBest 31 = .ok (.getfield 55, 3) := by decide +kernel
theorem dX7_seekBest_34 : decode cX7_seekBest 34 = .ok (.bipush 7, 2) := by decide +kernel
theorem dX7_seekBest_36 : decode cX7_seekBest 36 = .ok (.imul, 1) := by decide +kernel
theorem dX7_seekBest_37 : decode cX7_seekBest 37 = .ok (.iconst 0, 1) := by decide +kernel
theorem dX7_seekBest_38 : decode cX7_seekBest 38 = .ok (.invokestatic 85, 3) := by decide +kernel
theorem dX7_seekBest_41 : decode cX7_seekBest 41 = .ok (.iconst 0, 1) := by decide +kernel
theorem dX7_seekBest_42 : decode cX7_seekBest 42 = .ok (.istore_n 2, 1) := by decide +kernel
theorem dX7_seekBest_43 : decode cX7_seekBest 43 = .ok (.iload_n 2, 1) := by decide +kernel
theorem dX7_seekBest_44 : decode cX7_seekBest 44 = .ok (.aload_n 0, 1) := by decide +kernel
theorem dX7_seekBest_45 : decode cX7_seekBest 45 = .ok (.getfield 49, 3) := by decide +kernel
theorem dX7_seekBest_48 : decode cX7_seekBest 48 = .ok (.if_icmp .ge 27, 3) := by decide +kernel
theorem dX7_seekBest_51 : decode cX7_seekBest 51 = .ok (.aload_n 0, 1) := by decide +kernel
theorem dX7_seekBest_52 : decode cX7_seekBest 52 = .ok (.iload_n 2, 1) := by decide +kernel
theorem dX7_seekBest_53 : decode cX7_seekBest 53 = .ok (.iload_n 1, 1) := by decide +kernel
theorem dX7_seekBest_54 : decode cX7_seekBest 54 = .ok (.invokevirtual 91, 3) := by decide +kernel
theorem dX7_seekBest_57 : decode cX7_seekBest 57 = .ok (.istore_n 3, 1) := by decide +kernel
theorem dX7_seekBest_58 : decode cX7_seekBest 58 = .ok (.iload_n 3, 1) := by decide +kernel
theorem dX7_seekBest_59 : decode cX7_seekBest 59 = .ok (.iconst (-1), 1) := by decide +kernel
theorem dX7_seekBest_60 : decode cX7_seekBest 60 = .ok (.if_icmp .eq 9, 3) := by decide +kernel
theorem dX7_seekBest_63 : decode cX7_seekBest 63 = .ok (.aload_n 0, 1) := by decide +kernel
theorem dX7_seekBest_64 : decode cX7_seekBest 64 = .ok (.iload_n 2, 1) := by decide +kernel
theorem dX7_seekBest_65 : decode cX7_seekBest 65 = .ok (.iload_n 3, 1) := by decide +kernel
theorem dX7_seekBest_66 : decode cX7_seekBest 66 = .ok (.invokevirtual 94, 3) := by decide +kernel
theorem dX7_seekBest_69 : decode cX7_seekBest 69 = .ok (.iinc 2 1, 3) := by decide +kernel
theorem dX7_seekBest_72 : decode cX7_seekBest 72 = .ok (.goto (-29), 3) := by decide +kernel
theorem dX7_seekBest_75 : decode cX7_seekBest 75 = .ok (.iinc 1 1, 3) := by decide +kernel
theorem dX7_seekBest_78 : decode cX7_seekBest 78 = .ok (.goto (-61), 3) := by decide +kernel
theorem dX7_seekBest_81 : decode cX7_seekBest 81 = .ok (.aload_n 0, 1) := by decide +kernel
theorem dX7_seekBest_82 : decode cX7_seekBest 82 = .ok (.getfield 76, 3) := by decide +kernel
theorem dX7_seekBest_85 : decode cX7_seekBest 85 = .ok (.iconst 2, 1) := by decide +kernel
theorem dX7_seekBest_86 : decode cX7_seekBest 86 = .ok (.if_icmp .lt 7, 3) := by decide +kernel
theorem dX7_seekBest_89 : decode cX7_seekBest 89 = .ok (.iconst 1, 1) := by decide +kernel
theorem dX7_seekBest_90 : decode cX7_seekBest 90 = .ok (.goto 4, 3) := by decide +kernel
theorem dX7_seekBest_93 : decode cX7_seekBest 93 = .ok (.iconst 0, 1) := by decide +kernel
theorem dX7_seekBest_94 : decode cX7_seekBest 94 = .ok (.ireturn, 1) := by decide +kernel
theorem dX7_indexOf_0 : decode cX7_indexOf 0 = .ok (.bipush 9, 2) := by decide +kernel
theorem dX7_indexOf_2 : decode cX7_indexOf 2 = .ok (.iload_n 1, 1) := by decide +kernel
theorem dX7_indexOf_3 : decode cX7_indexOf 3 = .ok (.imul, 1) := by decide +kernel
theorem dX7_indexOf_4 : decode cX7_indexOf 4 = .ok (.aload_n 0, 1) := by decide +kernel
theorem dX7_indexOf_5 : decode cX7_indexOf 5 = .ok (.getfield 18, 3) := by decide +kernel
theorem dX7_indexOf_8 : decode cX7_indexOf 8 = .ok (.iload_n 1, 1) := by decide +kernel
theorem dX7_indexOf_9 : decode cX7_indexOf 9 = .ok (.iaload, 1) := by decide +kernel
theorem dX7_indexOf_10 : decode cX7_indexOf 10 = .ok (.iadd, 1) := by decide +kernel
theorem dX7_indexOf_11 : decode cX7_indexOf 11 = .ok (.istore_n 3, 1) := by decide +kernel
theorem dX7_indexOf_12 : decode cX7_indexOf 12 = .ok (.bipush 9, 2) := by decide +kernel
theorem dX7_indexOf_14 : decode cX7_indexOf 14 = .ok (.iload_n 1, 1) := by decide +kernel
theorem dX7_indexOf_15 : decode cX7_indexOf 15 = .ok (.imul, 1) := by decide +kernel
theorem dX7_indexOf_16 : decode cX7_indexOf 16 = .ok (.istore 4, 2) := by decide +kernel
theorem dX7_indexOf_18 : decode cX7_indexOf 18 = .ok (.iload 4, 2) := by decide +kernel
theorem dX7_indexOf_20 : decode cX7_indexOf 20 = .ok (.iload_n 3, 1) := by decide +kernel
theorem dX7_indexOf_21 : decode cX7_indexOf 21 = .ok (.if_icmp .ge 34, 3) := by decide +kernel
theorem dX7_indexOf_24 : decode cX7_indexOf 24 = .ok (.aload_n 0, 1) := by decide +kernel
theorem dX7_indexOf_25 : decode cX7_indexOf 25 = .ok (.getfield 9, 3) := by decide +kernel
theorem dX7_indexOf_28 : decode cX7_indexOf 28 = .ok (.iload 4, 2) := by decide +kernel
theorem dX7_indexOf_30 : decode cX7_indexOf 30 = .ok (.iaload, 1) := by decide +kernel
theorem dX7_indexOf_31 : decode cX7_indexOf 31 = .ok (.iload_n 2, 1) := by decide +kernel
theorem dX7_indexOf_32 : decode cX7_indexOf 32 = .ok (.if_icmp .gt 23, 3) := by decide +kernel
theorem dX7_indexOf_35 : decode cX7_indexOf 35 = .ok (.aload_n 0, 1) := by decide +kernel
theorem dX7_indexOf_36 : decode cX7_indexOf 36 = .ok (.getfield 9, 3) := by decide +kernel
theorem dX7_indexOf_39 : decode cX7_indexOf 39 = .ok (.iload 4, 2) := by decide +kernel
theorem dX7_indexOf_41 : decode cX7_indexOf 41 = .ok (.iaload, 1) := by decide +kernel
theorem dX7_indexOf_42 : decode cX7_indexOf 42 = .ok (.iload_n 2, 1) := by decide +kernel
theorem dX7_indexOf_43 : decode cX7_indexOf 43 = .ok (.if_icmp .ne 6, 3) := by decide +kernel
theorem dX7_indexOf_46 : decode cX7_indexOf 46 = .ok (.iload 4, 2) := by decide +kernel
theorem dX7_indexOf_48 : decode cX7_indexOf 48 = .ok (.ireturn, 1) := by decide +kernel
theorem dX7_indexOf_49 : decode cX7_indexOf 49 = .ok (.iinc 4 1, 3) := by decide +kernel
theorem dX7_indexOf_52 : decode cX7_indexOf 52 = .ok (.goto (-34), 3) := by decide +kernel
theorem dX7_indexOf_55 : decode cX7_indexOf 55 = .ok (.iconst (-1), 1) := by decide +kernel
theorem dX7_indexOf_56 : decode cX7_indexOf 56 = .ok (.ireturn, 1) := by decide +kernel
theorem dX7_tallyBehind_0 : decode cX7_tallyBehind 0 = .ok (.bipush 9, 2) := by decide +kernel
theorem dX7_tallyBehind_2 : decode cX7_tallyBehind 2 = .ok (.iload_n 1, 1) := by decide +kernel
theorem dX7_tallyBehind_3 : decode cX7_tallyBehind 3 = .ok (.imul, 1) := by decide +kernel
theorem dX7_tallyBehind_4 : decode cX7_tallyBehind 4 = .ok (.aload_n 0, 1) := by decide +kernel
theorem dX7_tallyBehind_5 : decode cX7_tallyBehind 5 = .ok (.getfield 18, 3) := by decide +kernel
theorem dX7_tallyBehind_8 : decode cX7_tallyBehind 8 = .ok (.iload_n 1, 1) := by decide +kernel
theorem dX7_tallyBehind_9 : decode cX7_tallyBehind 9 = .ok (.iaload, 1) := by decide +kernel
theorem dX7_tallyBehind_10 : decode cX7_tallyBehind 10 = .ok (.iadd, 1) := by decide +kernel
theorem dX7_tallyBehind_11 : decode cX7_tallyBehind 11 = .ok (.istore_n 3, 1) := by decide +kernel
theorem dX7_tallyBehind_12 : decode cX7_tallyBehind 12 = .ok (.iload_n 2, 1) := by decide +kernel
theorem dX7_tallyBehind_13 : decode cX7_tallyBehind 13 = .ok (.iconst 1, 1) := by decide +kernel
theorem dX7_tallyBehind_14 : decode cX7_tallyBehind 14 = .ok (.iadd, 1) := by decide +kernel
theorem dX7_tallyBehind_15 : decode cX7_tallyBehind 15 = .ok (.istore 4, 2) := by decide +kernel
theorem dX7_tallyBehind_17 : decode cX7_tallyBehind 17 = .ok (.iload 4, 2) := by decide +kernel
theorem dX7_tallyBehind_19 : decode cX7_tallyBehind 19 = .ok (.iload_n 3, 1) := by decide +kernel
theorem dX7_tallyBehind_20 : decode cX7_tallyBehind 20 = .ok (.if_icmp .ge 118, 3) := by decide +kernel
theorem dX7_tallyBehind_23 : decode cX7_tallyBehind 23 = .ok (.aload_n 0, 1) := by decide +kernel
theorem dX7_tallyBehind_24 : decode cX7_tallyBehind 24 = .ok (.iload_n 2, 1) := by decide +kernel
theorem dX7_tallyBehind_25 : decode cX7_tallyBehind 25 = .ok (.iload 4, 2) := by decide +kernel
theorem dX7_tallyBehind_27 : decode cX7_tallyBehind 27 = .ok (.invokevirtual 98, 3) := by decide +kernel
theorem dX7_tallyBehind_30 : decode cX7_tallyBehind 30 = .ok (.istore 5, 2) := by decide +kernel
theorem dX7_tallyBehind_32 : decode cX7_tallyBehind 32 = .ok (.aload_n 0, 1) := by decide +kernel
theorem dX7_tallyBehind_33 : decode cX7_tallyBehind 33 = .ok (.getfield 21, 3) := by decide +kernel
theorem dX7_tallyBehind_36 : decode cX7_tallyBehind 36 = .ok (.iload 5, 2) := by decide +kernel
theorem dX7_tallyBehind_38 : decode cX7_tallyBehind 38 = .ok (.dup2, 1) := by decide +kernel
theorem dX7_tallyBehind_39 : decode cX7_tallyBehind 39 = .ok (.iaload, 1) := by decide +kernel
theorem dX7_tallyBehind_40 : decode cX7_tallyBehind 40 = .ok (.iconst 1, 1) := by decide +kernel
theorem dX7_tallyBehind_41 : decode cX7_tallyBehind 41 = .ok (.iadd, 1) := by decide +kernel
theorem dX7_tallyBehind_42 : decode cX7_tallyBehind 42 = .ok (.iastore, 1) := by decide +kernel
theorem dX7_tallyBehind_43 : decode cX7_tallyBehind 43 = .ok (.aload_n 0, 1) := by decide +kernel
theorem dX7_tallyBehind_44 : decode cX7_tallyBehind 44 = .ok (.getfield 79, 3) := by decide +kernel
theorem dX7_tallyBehind_47 : decode cX7_tallyBehind 47 = .ok (.aload_n 0, 1) := by decide +kernel
theorem dX7_tallyBehind_48 : decode cX7_tallyBehind 48 = .ok (.getfield 9, 3) := by decide +kernel
theorem dX7_tallyBehind_51 : decode cX7_tallyBehind 51 = .ok (.iload_n 2, 1) := by decide +kernel
theorem dX7_tallyBehind_52 : decode cX7_tallyBehind 52 = .ok (.iaload, 1) := by decide +kernel
theorem dX7_tallyBehind_53 : decode cX7_tallyBehind 53 = .ok (.if_icmp .ne 16, 3) := by decide +kernel
theorem dX7_tallyBehind_56 : decode cX7_tallyBehind 56 = .ok (.iload 5, 2) := by decide +kernel
theorem dX7_tallyBehind_58 : decode cX7_tallyBehind 58 = .ok (.aload_n 0, 1) := by decide +kernel
theorem dX7_tallyBehind_59 : decode cX7_tallyBehind 59 = .ok (.getfield 82, 3) := by decide +kernel
theorem dX7_tallyBehind_62 : decode cX7_tallyBehind 62 = .ok (.if_icmp .ge 7, 3) := by decide +kernel
theorem dX7_tallyBehind_65 : decode cX7_tallyBehind 65 = .ok (.iconst 1, 1) := by decide +kernel
theorem dX7_tallyBehind_66 : decode cX7_tallyBehind 66 = .ok (.goto 4, 3) := by decide +kernel
theorem dX7_tallyBehind_69 : decode cX7_tallyBehind 69 = .ok (.iconst 0, 1) := by decide +kernel
theorem dX7_tallyBehind_70 : decode cX7_tallyBehind 70 = .ok (.istore 6, 2) := by decide +kernel
theorem dX7_tallyBehind_72 : decode cX7_tallyBehind 72 = .ok (.aload_n 0, 1) := by decide +kernel
theorem dX7_tallyBehind_73 : decode cX7_tallyBehind 73 = .ok (.getfield 21, 3) := by decide +kernel
theorem dX7_tallyBehind_76 : decode cX7_tallyBehind 76 = .ok (.iload 5, 2) := by decide +kernel
theorem dX7_tallyBehind_78 : decode cX7_tallyBehind 78 = .ok (.iaload, 1) := by decide +kernel
theorem dX7_tallyBehind_79 : decode cX7_tallyBehind 79 = .ok (.aload_n 0, 1) := by decide +kernel
theorem dX7_tallyBehind_80 : decode cX7_tallyBehind 80 = .ok (.getfield 76, 3) := by decide +kernel
theorem dX7_tallyBehind_83 : decode cX7_tallyBehind 83 = .ok (.if_icmp .gt 22, 3) := by decide +kernel
theorem dX7_tallyBehind_86 : decode cX7_tallyBehind 86 = .ok (.aload_n 0, 1) := by decide +kernel
theorem dX7_tallyBehind_87 : decode cX7_tallyBehind 87 = .ok (.getfield 21, 3) := by decide +kernel
theorem dX7_tallyBehind_90 : decode cX7_tallyBehind 90 = .ok (.iload 5, 2) := by decide +kernel
theorem dX7_tallyBehind_92 : decode cX7_tallyBehind 92 = .ok (.iaload, 1) := by decide +kernel
theorem dX7_tallyBehind_93 : decode cX7_tallyBehind 93 = .ok (.aload_n 0, 1) := by decide +kernel
theorem dX7_tallyBehind_94 : decode cX7_tallyBehind 94 = .ok (.getfield 76, 3) := by decide +kernel
theorem dX7_tallyBehind_97 : decode cX7_tallyBehind 97 = .ok (.if_icmp .ne 35, 3) := by decide +kernel
theorem dX7_tallyBehind_100 : decode cX7_tallyBehind 100 = .ok (.iload 6, 2) := by decide +kernel
theorem dX7_tallyBehind_102 : decode cX7_tallyBehind 102 = .ok (.ifCond .eq 30, 3) := by decide +kernel
theorem dX7_tallyBehind_105 : decode cX7_tallyBehind 105 = .ok (.aload_n 0, 1) := by decide +kernel
theorem dX7_tallyBehind_106 : decode cX7_tallyBehind 106 = .ok (.aload_n 0, 1) := by decide +kernel
theorem dX7_tallyBehind_107 : decode cX7_tallyBehind 107 = .ok (.getfield 21, 3) := by decide +kernel
theorem dX7_tallyBehind_110 : decode cX7_tallyBehind 110 = .ok (.iload 5, 2) := by decide +kernel
theorem dX7_tallyBehind_112 : decode cX7_tallyBehind 112 = .ok (.iaload, 1) := by decide +kernel
theorem dX7_tallyBehind_113 : decode cX7_tallyBehind 113 = .ok (.putfield 76, 3) := by decide +kernel
theorem dX7_tallyBehind_116 : decode cX7_tallyBehind 116 = .ok (.aload_n 0, 1) := by decide +kernel
theorem dX7_tallyBehind_117 : decode cX7_tallyBehind 117 = .ok (.aload_n 0, 1) := by decide +kernel
theorem dX7_tallyBehind_118 : decode cX7_tallyBehind 118 = .ok (.getfield 9, 3) := by decide +kernel
theorem dX7_tallyBehind_121 : decode cX7_tallyBehind 121 = .ok (.iload_n 2, 1) := by decide +kernel
theorem dX7_tallyBehind_122 : decode cX7_tallyBehind 122 = .ok (.iaload, 1) := by decide +kernel
theorem dX7_tallyBehind_123 : decode cX7_tallyBehind 123 = .ok (.putfield 79, 3) := by decide +kernel
theorem dX7_tallyBehind_126 : decode cX7_tallyBehind 126 = .ok (.aload_n 0, 1) := by decide +kernel
theorem dX7_tallyBehind_127 : decode cX7_tallyBehind 127 = .ok (.iload 5, 2) := by decide +kernel
theorem dX7_tallyBehind_129 : decode cX7_tallyBehind 129 = .ok (.putfield 82, 3) := by decide +kernel
theorem dX7_tallyBehind_132 : decode cX7_tallyBehind 132 = .ok (.iinc 4 1, 3) := by decide +kernel
theorem dX7_tallyBehind_135 : decode cX7_tallyBehind 135 = .ok (.goto (-118), 3) := by decide +kernel
theorem dX7_tallyBehind_138 : decode cX7_tallyBehind 138 = .ok (.return_, 1) := by decide +kernel
theorem dX7_keyOf_0 : decode cX7_keyOf 0 = .ok (.aload_n 0, 1) := by decide +kernel
theorem dX7_keyOf_1 : decode cX7_keyOf 1 = .ok (.getfield 15, 3) := by decide +kernel
theorem dX7_keyOf_4 : decode cX7_keyOf 4 = .ok (.iload_n 2, 1) := by decide +kernel
theorem dX7_keyOf_5 : decode cX7_keyOf 5 = .ok (.iaload, 1) := by decide +kernel
theorem dX7_keyOf_6 : decode cX7_keyOf 6 = .ok (.aload_n 0, 1) := by decide +kernel
theorem dX7_keyOf_7 : decode cX7_keyOf 7 = .ok (.getfield 24, 3) := by decide +kernel
theorem dX7_keyOf_10 : decode cX7_keyOf 10 = .ok (.getfield 101, 3) := by decide +kernel
theorem dX7_keyOf_13 : decode cX7_keyOf 13 = .ok (.aload_n 0, 1) := by decide +kernel
theorem dX7_keyOf_14 : decode cX7_keyOf 14 = .ok (.getfield 15, 3) := by decide +kernel
theorem dX7_keyOf_17 : decode cX7_keyOf 17 = .ok (.iload_n 1, 1) := by decide +kernel
theorem dX7_keyOf_18 : decode cX7_keyOf 18 = .ok (.iaload, 1) := by decide +kernel
theorem dX7_keyOf_19 : decode cX7_keyOf 19 = .ok (.iaload, 1) := by decide +kernel
theorem dX7_keyOf_20 : decode cX7_keyOf 20 = .ok (.imul, 1) := by decide +kernel
theorem dX7_keyOf_21 : decode cX7_keyOf 21 = .ok (.aload_n 0, 1) := by decide +kernel
theorem dX7_keyOf_22 : decode cX7_keyOf 22 = .ok (.getfield 24, 3) := by decide +kernel
theorem dX7_keyOf_25 : decode cX7_keyOf 25 = .ok (.getfield 104, 3) := by decide +kernel
theorem dX7_keyOf_28 : decode cX7_keyOf 28 = .ok (.irem, 1) := by decide +kernel
theorem dX7_keyOf_29 : decode cX7_keyOf 29 = .ok (.istore_n 3, 1) := by decide +kernel
theorem dX7_keyOf_30 : decode cX7_keyOf 30 = .ok (.aload_n 0, 1) := by decide +kernel
theorem dX7_keyOf_31 : decode cX7_keyOf 31 = .ok (.getfield 9, 3) := by decide +kernel
theorem dX7_keyOf_34 : decode cX7_keyOf 34 = .ok (.iload_n 2, 1) := by decide +kernel
theorem dX7_keyOf_35 : decode cX7_keyOf 35 = .ok (.iaload, 1) := by decide +kernel
theorem dX7_keyOf_36 : decode cX7_keyOf 36 = .ok (.bipush 7, 2) := by decide +kernel
theorem dX7_keyOf_38 : decode cX7_keyOf 38 = .ok (.imul, 1) := by decide +kernel
theorem dX7_keyOf_39 : decode cX7_keyOf 39 = .ok (.iload_n 3, 1) := by decide +kernel
theorem dX7_keyOf_40 : decode cX7_keyOf 40 = .ok (.iadd, 1) := by decide +kernel
theorem dX7_keyOf_41 : decode cX7_keyOf 41 = .ok (.ireturn, 1) := by decide +kernel
theorem dX7_takeBest_0 : decode cX7_takeBest 0 = .ok (.iconst 0, 1) := by decide +kernel
theorem dX7_takeBest_1 : decode cX7_takeBest 1 = .ok (.istore_n 1, 1) := by decide +kernel
theorem dX7_takeBest_2 : decode cX7_takeBest 2 = .ok (.iload_n 1, 1) := by decide +kernel
theorem dX7_takeBest_3 : decode cX7_takeBest 3 = .ok (.aload_n 0, 1) := by decide +kernel
theorem dX7_takeBest_4 : decode cX7_takeBest 4 = .ok (.getfield 49, 3) := by decide +kernel
theorem dX7_takeBest_7 : decode cX7_takeBest 7 = .ok (.if_icmp .ge 86, 3) := by decide +kernel
theorem dX7_takeBest_10 : decode cX7_takeBest 10 = .ok (.aload_n 0, 1) := by decide +kernel
theorem dX7_takeBest_11 : decode cX7_takeBest 11 = .ok (.iload_n 1, 1) := by decide +kernel
theorem dX7_takeBest_12 : decode cX7_takeBest 12 = .ok (.aload_n 0, 1) := by decide +kernel
theorem dX7_takeBest_13 : decode cX7_takeBest 13 = .ok (.getfield 79, 3) := by decide +kernel
theorem dX7_takeBest_16 : decode cX7_takeBest 16 = .ok (.invokevirtual 91, 3) := by decide +kernel
theorem dX7_takeBest_19 : decode cX7_takeBest 19 = .ok (.istore_n 2, 1) := by decide +kernel
theorem dX7_takeBest_20 : decode cX7_takeBest 20 = .ok (.aload_n 0, 1) := by decide +kernel
theorem dX7_takeBest_21 : decode cX7_takeBest 21 = .ok (.iload_n 1, 1) := by decide +kernel
theorem dX7_takeBest_22 : decode cX7_takeBest 22 = .ok (.aload_n 0, 1) := by decide +kernel
theorem dX7_takeBest_23 : decode cX7_takeBest 23 = .ok (.getfield 82, 3) := by decide +kernel
theorem dX7_takeBest_26 : decode cX7_takeBest 26 = .ok (.bipush 7, 2) := by decide +kernel
theorem dX7_takeBest_28 : decode cX7_takeBest 28 = .ok (.idiv, 1) := by decide +kernel
theorem dX7_takeBest_29 : decode cX7_takeBest 29 = .ok (.invokevirtual 91, 3) := by decide +kernel
theorem dX7_takeBest_32 : decode cX7_takeBest 32 = .ok (.istore_n 3, 1) := by decide +kernel
theorem dX7_takeBest_33 : decode cX7_takeBest 33 = .ok (.iload_n 2, 1) := by decide +kernel
theorem dX7_takeBest_34 : decode cX7_takeBest 34 = .ok (.iconst (-1), 1) := by decide +kernel
theorem dX7_takeBest_35 : decode cX7_takeBest 35 = .ok (.if_icmp .eq 52, 3) := by decide +kernel
theorem dX7_takeBest_38 : decode cX7_takeBest 38 = .ok (.iload_n 3, 1) := by decide +kernel
theorem dX7_takeBest_39 : decode cX7_takeBest 39 = .ok (.iconst (-1), 1) := by decide +kernel
theorem dX7_takeBest_40 : decode cX7_takeBest 40 = .ok (.if_icmp .eq 47, 3) := by decide +kernel
theorem dX7_takeBest_43 : decode cX7_takeBest 43 = .ok (.aload_n 0, 1) := by decide +kernel
theorem dX7_takeBest_44 : decode cX7_takeBest 44 = .ok (.iload_n 2, 1) := by decide +kernel
theorem dX7_takeBest_45 : decode cX7_takeBest 45 = .ok (.iload_n 3, 1) := by decide +kernel
theorem dX7_takeBest_46 : decode cX7_takeBest 46 = .ok (.invokevirtual 98, 3) := by decide +kernel
theorem dX7_takeBest_49 : decode cX7_takeBest 49 = .ok (.aload_n 0, 1) := by decide +kernel
theorem dX7_takeBest_50 : decode cX7_takeBest 50 = .ok (.getfield 82, 3) := by decide +kernel
theorem dX7_takeBest_53 : decode cX7_takeBest 53 = .ok (.if_icmp .ne 34, 3) := by decide +kernel
theorem dX7_takeBest_56 : decode cX7_takeBest 56 = .ok (.aload_n 0, 1) := by decide +kernel
theorem dX7_takeBest_57 : decode cX7_takeBest 57 = .ok (.getfield 15, 3) := by decide +kernel
theorem dX7_takeBest_60 : decode cX7_takeBest 60 = .ok (.iload_n 2, 1) := by decide +kernel
theorem dX7_takeBest_61 : decode cX7_takeBest 61 = .ok (.iaload, 1) := by decide +kernel
theorem dX7_takeBest_62 : decode cX7_takeBest 62 = .ok (.istore 4, 2) := by decide +kernel
theorem dX7_takeBest_64 : decode cX7_takeBest 64 = .ok (.aload_n 0, 1) := by decide +kernel
theorem dX7_takeBest_65 : decode cX7_takeBest 65 = .ok (.iload_n 1, 1) := by decide +kernel
theorem dX7_takeBest_66 : decode cX7_takeBest 66 = .ok (.iload_n 3, 1) := by decide +kernel
theorem dX7_takeBest_67 : decode cX7_takeBest 67 = .ok (.invokevirtual 107, 3) := by decide +kernel
theorem dX7_takeBest_70 : decode cX7_takeBest 70 = .ok (.aload_n 0, 1) := by decide +kernel
theorem dX7_takeBest_71 : decode cX7_takeBest 71 = .ok (.iload_n 1, 1) := by decide +kernel
theorem dX7_takeBest_72 : decode cX7_takeBest 72 = .ok (.iload_n 2, 1) := by decide +kernel
theorem dX7_takeBest_73 : decode cX7_takeBest 73 = .ok (.invokevirtual 107, 3) := by decide +kernel
theorem dX7_takeBest_76 : decode cX7_takeBest 76 = .ok (.aload_n 0, 1) := by decide +kernel
theorem dX7_takeBest_77 : decode cX7_takeBest 77 = .ok (.iload_n 1, 1) := by decide +kernel
theorem dX7_takeBest_78 : decode cX7_takeBest 78 = .ok (.aload_n 0, 1) := by decide +kernel
theorem dX7_takeBest_79 : decode cX7_takeBest 79 = .ok (.getfield 55, 3) := by decide +kernel
theorem dX7_takeBest_82 : decode cX7_takeBest 82 = .ok (.iload 4, 2) := by decide +kernel
theorem dX7_takeBest_84 : decode cX7_takeBest 84 = .ok (.invokevirtual 67, 3) := by decide +kernel
theorem dX7_takeBest_87 : decode cX7_takeBest 87 = .ok (.iinc 1 1, 3) := by decide +kernel
theorem dX7_takeBest_90 : decode cX7_takeBest 90 = .ok (.goto (-88), 3) := by decide +kernel
theorem dX7_takeBest_93 : decode cX7_takeBest 93 = .ok (.aload_n 0, 1) := by decide +kernel
theorem dX7_takeBest_94 : decode cX7_takeBest 94 = .ok (.dup, 1) := by decide +kernel
theorem dX7_takeBest_95 : decode cX7_takeBest 95 = .ok (.getfield 55, 3) := by decide +kernel
theorem dX7_takeBest_98 : decode cX7_takeBest 98 = .ok (.iconst 1, 1) := by decide +kernel
theorem dX7_takeBest_99 : decode cX7_takeBest 99 = .ok (.iadd, 1) := by decide +kernel
theorem dX7_takeBest_100 : decode cX7_takeBest 100 = .ok (.putfield 55, 3) := by decide +kernel
theorem dX7_takeBest_103 : decode cX7_takeBest 103 = .ok (.return_, 1) := by decide +kernel
theorem dX7_cut_0 : decode cX7_cut 0 = .ok (.bipush 9, 2) := by decide +kernel
theorem dX7_cut_2 : decode cX7_cut 2 = .ok (.iload_n 1, 1) := by decide +kernel
theorem dX7_cut_3 : decode cX7_cut 3 = .ok (.imul, 1) := by decide +kernel
theorem dX7_cut_4 : decode cX7_cut 4 = .ok (.aload_n 0, 1) := by decide +kernel
theorem dX7_cut_5 : decode cX7_cut 5 = .ok (.getfield 18, 3) := by decide +kernel
theorem dX7_cut_8 : decode cX7_cut 8 = .ok (.iload_n 1, 1) := by decide +kernel
theorem dX7_cut_9 : decode cX7_cut 9 = .ok (.iaload, 1) := by decide +kernel
theorem dX7_cut_10 : decode cX7_cut 10 = .ok (.iadd, 1) := by decide +kernel
theorem dX7_cut_11 : decode cX7_cut 11 = .ok (.iload_n 2, 1) := by decide +kernel
theorem dX7_cut_12 : decode cX7_cut 12 = .ok (.isub, 1) := by decide +kernel
theorem dX7_cut_13 : decode cX7_cut 13 = .ok (.iconst 1, 1) := by decide +kernel
theorem dX7_cut_14 : decode cX7_cut 14 = .ok (.isub, 1) := by decide +kernel
theorem dX7_cut_15 : decode cX7_cut 15 = .ok (.istore_n 3, 1) := by decide +kernel
theorem dX7_cut_16 : decode cX7_cut 16 = .ok (.aload_n 0, 1) := by decide +kernel
theorem dX7_cut_17 : decode cX7_cut 17 = .ok (.getfield 9, 3) := by decide +kernel
theorem dX7_cut_20 : decode cX7_cut 20 = .ok (.iload_n 2, 1) := by decide +kernel
theorem dX7_cut_21 : decode cX7_cut 21 = .ok (.iconst 1, 1) := by decide +kernel
theorem dX7_cut_22 : decode cX7_cut 22 = .ok (.iadd, 1) := by decide +kernel
theorem dX7_cut_23 : decode cX7_cut 23 = .ok (.aload_n 0, 1) := by decide +kernel
theorem dX7_cut_24 : decode cX7_cut 24 = .ok (.getfield 9, 3) := by decide +kernel
theorem dX7_cut_27 : decode cX7_cut 27 = .ok (.iload_n 2, 1) := by decide +kernel
theorem dX7_cut_28 : decode cX7_cut 28 = .ok (.iload_n 3, 1) := by decide +kernel
theorem dX7_cut_29 : decode cX7_cut 29 = .ok (.invokestatic 110, 3) := by decide +kernel
theorem dX7_cut_32 : decode cX7_cut 32 = .ok (.aload_n 0, 1) := by decide +kernel
theorem dX7_cut_33 : decode cX7_cut 33 = .ok (.getfield 15, 3) := by decide +kernel
theorem dX7_cut_36 : decode cX7_cut 36 = .ok (.iload_n 2, 1) := by decide +kernel
theorem dX7_cut_37 : decode cX7_cut 37 = .ok (.iconst 1, 1) := by decide +kernel
theorem dX7_cut_38 : decode cX7_cut 38 = .ok (.iadd, 1) := by decide +kernel
theorem dX7_cut_39 : decode cX7_cut 39 = .ok (.aload_n 0, 1) := by decide +kernel
theorem dX7_cut_40 : decode cX7_cut 40 = .ok (.getfield 15, 3) := by decide +kernel
theorem dX7_cut_43 : decode cX7_cut 43 = .ok (.iload_n 2, 1) := by decide +kernel
theorem dX7_cut_44 : decode cX7_cut 44 = .ok (.iload_n 3, 1) := by decide +kernel
theorem dX7_cut_45 : decode cX7_cut 45 = .ok (.invokestatic 110, 3) := by decide +kernel
theorem dX7_cut_48 : decode cX7_cut 48 = .ok (.aload_n 0, 1) := by decide +kernel
theorem dX7_cut_49 : decode cX7_cut 49 = .ok (.getfield 18, 3) := by decide +kernel
theorem dX7_cut_52 : decode cX7_cut 52 = .ok (.iload_n 1, 1) := by decide +kernel
theorem dX7_cut_53 : decode cX7_cut 53 = .ok (.dup2, 1) := by decide +kernel
theorem dX7_cut_54 : decode cX7_cut 54 = .ok (.iaload, 1) := by decide +kernel
theorem dX7_cut_55 : decode cX7_cut 55 = .ok (.iconst 1, 1) := by decide +kernel
theorem dX7_cut_56 : decode cX7_cut 56 = .ok (.isub, 1) := by decide +kernel
theorem dX7_cut_57 : decode cX7_cut 57 = .ok (.iastore, 1) := by decide +kernel
theorem dX7_cut_58 : decode cX7_cut 58 = .ok (.return_, 1) := by decide +kernel
